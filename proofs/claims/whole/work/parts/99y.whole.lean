/-! The law from its entry to its end -/
theorem dkL_0 : decode code 0 = .ok (.new 8, 3) := by decide +kernel
theorem dkL_3 : decode code 3 = .ok (.dup, 1) := by decide +kernel
theorem dkL_4 : decode code 4 = .ok (.invokespecial 34, 3) := by decide +kernel
theorem dkL_7 : decode code 7 = .ok (.astore_n 1, 1) := by decide +kernel
theorem dkL_8 : decode code 8 = .ok (.new 35, 3) := by decide +kernel
theorem dkL_11 : decode code 11 = .ok (.dup, 1) := by decide +kernel
theorem dkL_12 : decode code 12 = .ok (.invokespecial 37, 3) := by decide +kernel
theorem dkL_15 : decode code 15 = .ok (.astore_n 2, 1) := by decide +kernel
theorem dkL_16 : decode code 16 = .ok (.iconst 1, 1) := by decide +kernel
theorem dkL_17 : decode code 17 = .ok (.newarray .long, 2) := by decide +kernel
theorem dkL_19 : decode code 19 = .ok (.astore_n 3, 1) := by decide +kernel
theorem dkL_20 : decode code 20 = .ok (.iconst 0, 1) := by decide +kernel
theorem dkL_21 : decode code 21 = .ok (.istore 4, 2) := by decide +kernel
set_option maxHeartbeats 4000000 in
set_option maxRecDepth 100000 in
theorem whole_start {p : Program} {e : Env} {s : State} {m : MethodId} {below : List Frame} {meth : Method} {c : Code} (l : Launch) (hflags : l.flags = flags0) {b L : Nat} {xs : Nat → Int32} (hL : L ≤ 3072) (C0 : lw_At p s m meth c b L xs) : W p l e room_1 s m #[Value.ref b] below meth c s.heap [] 0 0 (lw_Z below #[Value.ref b] s) (entryFrame m ([Value.ref b] : List Value).toArray 8) := by
  obtain ⟨D, cy, t0, t1, hK, hTh, hX1, hZ1, ht1⟩ := start_pre C0
  obtain ⟨hx, hb, hr, hml, hown, hts, hX, hbl, hlocks, hgv⟩ := id C0
  have hA : ∀ q : Nat, s.heap.size ≤ q → lwA s q := fun _ h => h
  have htsB : ∀ w ∈ mBig, w.before #[Value.ref b] s = true := fun w hw => hts w (List.mem_filter.mp hw).1
  have hl := lv_entry ([.ref b]) (n := 8) (Nat.le_of_ble_eq_true rfl)
  rw [lg_entry_eq]
  generalize (lg_sl ([.ref b]) ++ List.replicate (8 - (lg_sl ([.ref b])).length) Slot.unset).toArray = ls at hl ⊢
  have hl : lv_has ls 8 [(0, .ref b)] := hl
  have S : CallFix p m c code 8 s #[Value.ref b] mBig RL := ⟨hx, hb, hml, hown, htsB⟩
  have hP : va_P D vwCl ([] ++ []) s.heap := fun k q h => by simp at h
  have hD : va_D (lwA s) (([] : va_W) ++ []) := ⟨fun i j p q h => by simp at h, fun k q h => by simp at h⟩
  have hS : va_S (lwA s) s.heap s.heap [] := va_S.rf
  refine ct_make (hdS := hs9) (X := []) (pl := []) (mk_9 l) (by decide) rfl rfl ⟨by decide +kernel, by decide +kernel, by decide +kernel⟩ ws9 wi9 wn9 wt9 wf9 (own := RL) (idx := 8) (idx2 := 34) (mB (mt1 (List.mem_of_getElem? (i := 19) (by decide +kernel))) rfl) (Or.inl (mB (mt1 (List.mem_of_getElem? (i := 21) (by decide +kernel))) rfl)) dkL_0 dkL_3 dkL_4 S hl.1 hK hP hD hS hA ⟨(Nat.le_of_ble_eq_true rfl), (Nat.le_of_ble_eq_true rfl)⟩ (Nat.le_of_ble_eq_true rfl) (Nat.le_of_ble_eq_true rfl) (Nat.le_of_ble_eq_true rfl) (fun G H locs hP hD hS => ?_)
  refine lv_astore_n (lv' := [(1, .ref (hs9 G)), (0, .ref b)]) hx hb dkL_7 rfl hl (by decide) rfl (fun ls hl => ?_)
  refine ct_make (hdS := hs10) (X := []) (pl := [] ++ wY9 cy G) (mk_10 l) (by decide) rfl rfl ⟨by decide +kernel, by decide +kernel, by decide +kernel⟩ ws10 wi10 wn10 wt10 wf10 (own := RL) (idx := 35) (idx2 := 37) (mB (mt5 (List.mem_of_getElem? (i := 16) (by decide +kernel))) rfl) (Or.inl (mB (mt5 (List.mem_of_getElem? (i := 18) (by decide +kernel))) rfl)) dkL_8 dkL_11 dkL_12 S hl.1 hK hP hD hS hA ⟨(Nat.le_of_ble_eq_true rfl), (Nat.le_of_ble_eq_true rfl)⟩ (Nat.le_of_ble_eq_true rfl) (Nat.le_of_ble_eq_true rfl) (Nat.le_of_ble_eq_true rfl) (fun gm H locs hP hD hS => ?_)
  refine lv_astore_n (lv' := [(2, .ref (hs10 gm)), (1, .ref (hs9 G)), (0, .ref b)]) hx hb dkL_15 rfl hl (by decide) rfl (fun ls hl => ?_)
  refine lv_iconst hx hb dkL_16 (show Int32.ofInt 1 = nI 1 by decide) ?_
  refine ct_newa (cy := cy) (X := []) (pl := ([] ++ wY9 cy G) ++ wY10 cy gm) S (atype := .long) (ty := .long) rfl (mB (mt2 (List.mem_of_getElem? (i := 137) (by decide +kernel))) rfl) (k := 4) (t1 := 3) rfl (fun _ _ h => h) (n := nI 1) (N := 1) (a0 := (1, .inr (.inl (fun _ => 0)))) (fun _ => rfl) (nI_nn (by omega)) (nI_clamp (by omega)) (Nat.le_of_ble_eq_true rfl) dkL_17 hK hP hD hS hA (Nat.le_of_ble_eq_true rfl) (Nat.le_of_ble_eq_true rfl) (fun qo H hP hD hS => ?_)
  refine lv_astore_n (lv' := [(3, .ref qo), (2, .ref (hs10 gm)), (1, .ref (hs9 G)), (0, .ref b)]) hx hb dkL_19 rfl hl (by decide) rfl (fun ls hl => ?_)
  refine lv_iconst hx hb dkL_20 (show Int32.ofInt 0 = nI 0 by decide) ?_
  refine lv_istore (lv' := [(4, .int (nI 0)), (3, .ref qo), (2, .ref (hs10 gm)), (1, .ref (hs9 G)), (0, .ref b)]) hx hb dkL_21 hl (by decide) rfl (fun ls hl => ?_)
  obtain ⟨hPZ, hInj, hmA⟩ := world_Z (b := b) (t1 := t1) (xs := xs) (ys := ys0) (XL := L) (cy := cy) (G := G) (gm := gm) (qo := qo) hP hD
  have hbA : ¬ lwA s b := Nat.not_le.mpr hbl
  have htA : ¬ lwA s t1 := Nat.not_le.mpr ht1
  have hF : mFix (adZ G gm qo b t1) L (lwA s) := ⟨hInj, hbA, htA, by omega, hmA⟩
  have hF2 : mFix (adZ G gm qo b t1) L (mA (adZ G gm qo b t1)) := ⟨hInj, fun h => hbA (hmA _ h), fun h => htA (hmA _ h), by omega, fun q h => h⟩
  obtain ⟨σ', hrun⟩ := law_runs (len := L) (by omega) 512 0 0 (stZ xs ys0 L) (by omega) (by omega) (by omega) j_Z cx_Z rfl
  have hsl : l.stackTraces = false := by
    unfold Launch.stackTraces
    rw [hflags]
    decide +kernel
  have hW := lw_all (l := l) (D := D) (cy := cy) (xs := xs) (ys := ys0) hsl hF hF2 512 0 (by omega) (by omega) (by omega) _ _ hrun
  have hC : mCtx D cy (adZ G gm qo b t1) xs ys0 L (lwA s) 226 p s m #[Value.ref b] c := ⟨hx, hb, hml, hown, htsB, hK.1, ⟨hX, hX1, hZ1⟩, fun _ => hTh⟩
  have hLR : LR (adZ G gm qo b t1) ls 8 (LLx (nI 0)) := LR.of hl (fun i v hv => by
    match i, hv with
    | 0, hv => cases hv; simp [toV, adZ]
    | 1, hv => cases hv; simp [toV, adZ]
    | 2, hv => cases hv; simp [toV, adZ]
    | 3, hv => cases hv; simp [toV, adZ]
    | 4, hv => cases hv; simp [toV]
    | 5, hv => cases hv
    | 6, hv => cases hv
    | 7, hv => cases hv
    | n + 8, hv => cases hv)
  have hokL : okL (LLx (nI 0)) := fun i v hv => by
    match i, hv with
    | 0, hv => cases hv; exact Or.inr (Or.inl rfl)
    | 1, hv => cases hv; exact Or.inl (by unfold okO; decide)
    | 2, hv => cases hv; exact Or.inl (by unfold okO; decide)
    | 3, hv => cases hv; exact Or.inl (by unfold okO; decide)
    | 4, hv => cases hv; trivial
    | 5, hv => cases hv
    | 6, hv => cases hv
    | 7, hv => cases hv
    | n + 8, hv => cases hv
  refine hW.go (S := []) hC (Nat.le_of_ble_eq_true rfl) (Nat.le_of_ble_eq_true rfl) (Nat.le_of_ble_eq_true rfl) (Nat.le_of_ble_eq_true rfl) ⟨hPZ, rfl, rfl, rfl⟩ hS hLR hokL (fun w hw => absurd hw List.not_mem_nil) ?_
  intro H' locs' cells' slots' ls' pc' S' hc hs hRel' hSS' hsz hend
  obtain ⟨hd, rfl, -⟩ := hend
  refine va_forget (fun q hq => hSS'.2.2 q hq) ?_
  refine W.widen (k := 601024) (n := 7293034) (Nat.le_trans hc (Nat.le_of_ble_eq_true rfl)) (Nat.le_trans hs (Nat.le_of_ble_eq_true rfl)) ?_
  exact lw_ret hx hb hr hlocks hd

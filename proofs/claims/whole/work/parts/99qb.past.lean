/-! Makers (by program: gen/writeCtor.py) -/
abbrev sY5 : Type := (Nat × Nat) × (Nat → sY0)
abbrev hs5 : sY5 → Nat := fun g => g.1.1
def wY5 (cy : Nat → ClassId) (g : sY5) : va_W := [(g.1.1, .inr (5, [.ref g.1.2, .int 0, .int 0])), (g.1.2, .inl (cy 20, 6, .inr (.inr (.inr (.inr (refsT hs0 g.2 6))))))] ++ poolW (wY0 cy) g.2 6
theorem ws5 : Cond.code yX5_init cX5_init 2 none ∈ mBig := (mB (mt2 (List.mem_of_getElem? (i := 91) rfl)) rfl)
theorem wi5 : Cond.instanceMethod yX5_init ∈ mBig := (mB (mt2 (List.mem_of_getElem? (i := 90) (by decide +kernel))) rfl)
theorem wn5 : Cond.initialized (cn 5) ∈ mBig := (mB (mt1 (List.mem_of_getElem? (i := 9) (by decide +kernel))) rfl)
theorem wt5 : Cond.instantiable (cn 5) (fN 5) ∈ mBig := (mB (mt2 (List.mem_of_getElem? (i := 88) (by decide +kernel))) rfl)
theorem wf5 : ∀ j, j < fN 5 → defaultValue (fY 5 j) = vp_V [.null, .int 0, .int 0] j := by decide +kernel
theorem dk5_0 : decode cX5_init 0 = .ok (.aload_n 0, 1) := by decide +kernel
theorem dk5_1 : decode cX5_init 1 = .ok (.invokespecial 3, 3) := by decide +kernel
theorem dk5_4 : decode cX5_init 4 = .ok (.aload_n 0, 1) := by decide +kernel
theorem dk5_5 : decode cX5_init 5 = .ok (.bipush 6, 2) := by decide +kernel
theorem dk5_7 : decode cX5_init 7 = .ok (.anewarray 9, 3) := by decide +kernel
theorem dk5_10 : decode cX5_init 10 = .ok (.putfield 11, 3) := by decide +kernel
theorem dk5_13 : decode cX5_init 13 = .ok (.iconst 0, 1) := by decide +kernel
theorem dk5_14 : decode cX5_init 14 = .ok (.istore_n 1, 1) := by decide +kernel
theorem dk5_15 : decode cX5_init 15 = .ok (.iload_n 1, 1) := by decide +kernel
theorem dk5_16 : decode cX5_init 16 = .ok (.bipush 6, 2) := by decide +kernel
theorem dk5_18 : decode cX5_init 18 = .ok (.if_icmp .ge 22, 3) := by decide +kernel
theorem dk5_21 : decode cX5_init 21 = .ok (.aload_n 0, 1) := by decide +kernel
theorem dk5_22 : decode cX5_init 22 = .ok (.getfield 11, 3) := by decide +kernel
theorem dk5_25 : decode cX5_init 25 = .ok (.iload_n 1, 1) := by decide +kernel
theorem dk5_26 : decode cX5_init 26 = .ok (.new 9, 3) := by decide +kernel
theorem dk5_29 : decode cX5_init 29 = .ok (.dup, 1) := by decide +kernel
theorem dk5_30 : decode cX5_init 30 = .ok (.invokespecial 17, 3) := by decide +kernel
theorem dk5_33 : decode cX5_init 33 = .ok (.aastore, 1) := by decide +kernel
theorem dk5_34 : decode cX5_init 34 = .ok (.iinc 1 1, 3) := by decide +kernel
theorem dk5_37 : decode cX5_init 37 = .ok (.goto (-22), 3) := by decide +kernel
theorem dk5_40 : decode cX5_init 40 = .ok (.return_, 1) := by decide +kernel
set_option maxHeartbeats 4000000 in
set_option maxRecDepth 100000 in
theorem mk_5 (l : Launch) {D : va_G} {cy : Nat → ClassId} {t0 : Nat × Nat} : CMet hs5 l D cy t0 5 yX5_init cX5_init 2 [.null, .int 0, .int 0] (wY5 cy) 4 81 637 9126 := by
  intro h0 sz
  refine Met.ofW (cc := cX5_init) (maxL := 2) (ret := none) (cn_plain 5) rfl ?_
  intro p e s m args below meth c s₁ B hml hv
  obtain ⟨rfl, hsz, hP0, hK⟩ := hv
  have hx := B.exec
  have hb := B.bytes
  have hr := B.returns
  have hts0 := atoms_spec (ws := .code yX5_init cX5_init 2 none :: mBig) B.pre
  have hts : ∀ w ∈ mBig, w.before ([.ref h0] : List Value).toArray s = true := fun w hw => hts0 w (List.mem_cons_of_mem _ hw)
  have hown : s.vm.findClass RX5 = some m.cls := findClass_of_methodNamed B.named
  have hlocks := B.notSynchronized
  have hin : meth.name = "<init>" := (name_of_methodNamed B.named B.method).1
  subst hsz
  have hD0 : va_D (fun _ => True) [(h0, (.inr (5, [.null, .int 0, .int 0]) : va_E))] := d_one
  have hD := hD0.self (sz := s.heap.size)
  generalize hAe : va_A [(h0, (.inr (5, [.null, .int 0, .int 0]) : va_E))] s.heap.size = A at hD hK ⊢
  have hA : ∀ q : Nat, s.heap.size ≤ q → A q := fun q h => by rw [← hAe]; exact Or.inr h
  have hS : va_S A s.heap s.heap [] := va_S.rf
  have S : CallFix p m c cX5_init 2 s ([.ref h0] : List Value).toArray mBig RX5 := ⟨hx, hb, hml, hown, hts⟩
  have hP : va_P D vwCl ([(h0, .inr (5, [.null, .int 0, .int 0]))] ++ []) s.heap := hP0
  have hD : va_D A ([(h0, .inr (5, [.null, .int 0, .int 0]))] ++ []) := hD
  have hl := lv_entry ([.ref h0]) (n := 2) (Nat.le_of_ble_eq_true rfl)
  rw [lg_entry_eq]
  generalize (lg_sl ([.ref h0]) ++ List.replicate (2 - (lg_sl ([.ref h0])).length) Slot.unset).toArray = ls at hl ⊢
  have hl : lv_has ls 2 [(0, .ref h0)] := hl
  refine lv_aload_n hx hb dk5_0 rfl (lv_at hl 0 rfl) ?_
  refine W.objInit hx hb hown (hts _ (mB (mt2 (List.mem_of_getElem? (i := 92) (by decide +kernel))) rfl)) (hts _ ob_i) (hts _ ob_c) rfl (by rw [hml]; exact hl.1) rfl dk5_1 (Nat.le_of_ble_eq_true rfl) (Nat.le_of_ble_eq_true rfl) ?_
  refine W.eq (g2 := F0 m 4 ls []) rfl ?_
  refine lv_aload_n hx hb dk5_4 rfl (lv_at hl 0 rfl) ?_
  refine lv_bipush hx hb dk5_5 (show (Int8.ofInt 6).toInt32 = nI 6 by decide) ?_
  refine ct_newq (cy := cy) (X := [(h0, .inr (5, [.null, .int 0, .int 0]))]) (pl := []) S (C := RX0) hK.2.1.2.2 (mB (mt2 (List.mem_of_getElem? (i := 93) (by decide +kernel))) rfl) (k := 20) (t1 := 6) rfl (n := nI 6) (N := 6) (nI_nn (by omega)) (nI_clamp (by omega)) (Nat.le_of_ble_eq_true rfl) dk5_7 hK hP hD hS hA (Nat.le_of_ble_eq_true rfl) (Nat.le_of_ble_eq_true rfl) (fun q7 H hP hD hS => ?_)
  have hP : va_P D vwCl ([(h0, .inr (5, [.null, .int 0, .int 0])), (q7, .inl (cy 20, 6, .inr (.inr (.inr (.inr (fun _ => none))))))] ++ []) H := hP
  have hD : va_D A ([(h0, .inr (5, [.null, .int 0, .int 0])), (q7, .inl (cy 20, 6, .inr (.inr (.inr (.inr (fun _ => none))))))] ++ []) := hD
  refine ct_putF (X := [(h0, .inr (5, [.null, .int 0, .int 0])), (q7, .inl (cy 20, 6, .inr (.inr (.inr (.inr (fun _ => none))))))]) (pl := []) S (idx := 11) (ci := 5) (f := 0) (mB (mt2 (List.mem_of_getElem? (i := 96) (by decide +kernel))) rfl) (by decide) (by decide) rfl rfl hin (ty := (.array (.object "SharedAir$Air"))) rfl rfl rfl (q0 := 0) rfl (Nat.le_of_ble_eq_true rfl) dk5_10 hK hP hD hS (fun H locs hP hD hS => ?_)
  have hP : va_P D vwCl ([(h0, .inr (5, [.ref q7, .int 0, .int 0])), (q7, .inl (cy 20, 6, .inr (.inr (.inr (.inr (fun _ => none))))))] ++ []) H := hP
  have hD : va_D A ([(h0, .inr (5, [.ref q7, .int 0, .int 0])), (q7, .inl (cy 20, 6, .inr (.inr (.inr (.inr (fun _ => none))))))] ++ []) := hD
  refine lv_iconst hx hb dk5_13 (show Int32.ofInt 0 = nI 0 by decide) ?_
  refine lv_istore_n hx hb dk5_14 rfl hl (Nat.le_of_ble_eq_true rfl) (lv' := [(1, .int (nI 0)), (0, .ref h0)]) rfl (fun ls hl => ?_)
  have hP : va_P D vwCl ([(h0, .inr (5, [.ref q7, .int 0, .int 0])), (q7, .inl (cy 20, 6, .inr (.inr (.inr (.inr (refsT hs0 (fun _ => sD0) 0))))))] ++ ([] ++ poolW (wY0 cy) (fun _ => sD0) 0)) H := by rw [refsT_0]; exact hP
  have hD : va_D A ([(h0, .inr (5, [.ref q7, .int 0, .int 0])), (q7, .inl (cy 20, 6, .inr (.inr (.inr (.inr (refsT hs0 (fun _ => sD0) 0))))))] ++ ([] ++ poolW (wY0 cy) (fun _ => sD0) 0)) := by rw [refsT_0]; exact hD
  refine ct_loop (A := A) (hdS := hs0) (mk_0 l) (by decide) rfl rfl ⟨by decide +kernel, by decide +kernel, by decide +kernel⟩ ws0 wi0 wn0 wt0 wf0 (fs2 := fun g => [.ref (g.1 1), .ref (g.1 2), .ref (g.1 3), .int 0, .int 0, .int 0, .int 0, .int 0, .int 0, .int 0, .int 0, .int 0, .int 0]) (fun _ => rfl) (own := RX5) (idx := 9) (idx2 := 17) (mB (mt2 (List.mem_of_getElem? (i := 93) (by decide +kernel))) rfl) (Or.inl (mB (mt2 (List.mem_of_getElem? (i := 95) (by decide +kernel))) rfl)) (hd := 15) (B := 18) (n := 6) (o := 5) (co := 5) (f0 := 0) (t1 := 6) (ka := 20) (by omega) fl_77 rfl rfl dk5_15 dk5_18 dk5_21 dk5_22 dk5_25 dk5_26 dk5_29 dk5_30 dk5_33 dk5_34 (back := (-22)) dk5_37 (by decide) S hK hA (fun k' => lv_bipush hx hb dk5_16 (show (Int8.ofInt 6).toInt32 = nI 6 by decide) k') ⟨(Nat.le_of_ble_eq_true rfl), (Nat.le_of_ble_eq_true rfl)⟩ (X := fun f => [(h0, .inr (5, [.ref q7, .int 0, .int 0])), (q7, .inl (cy 20, 6, .inr (.inr (.inr (.inr (f))))))]) (q0 := 0) (qa := 1) (fun _ => rfl) rfl (fun _ => rfl) (fun _ _ => rfl) (pl := []) 6 0 (fun _ => sD0) rfl hl hP hD hS (Nat.le_of_ble_eq_true rfl) (Nat.le_of_ble_eq_true rfl) (fun gs H locs ls hl hP hD hS => ?_)
  have hP : va_P D vwCl ([(h0, .inr (5, [.ref q7, .int 0, .int 0])), (q7, .inl (cy 20, 6, .inr (.inr (.inr (.inr (refsT hs0 gs 6))))))] ++ ([] ++ poolW (wY0 cy) gs 6)) H := hP
  have hD : va_D A ([(h0, .inr (5, [.ref q7, .int 0, .int 0])), (q7, .inl (cy 20, 6, .inr (.inr (.inr (.inr (refsT hs0 gs 6))))))] ++ ([] ++ poolW (wY0 cy) gs 6)) := hD
  refine W.widen (k := 637) (n := 9126) (Nat.le_of_ble_eq_true rfl) (Nat.le_of_ble_eq_true rfl) ?_
  have hP9 : va_P D vwCl (wY5 cy ((h0, q7), gs)) H := hP
  have hD9 : va_D A (wY5 cy ((h0, q7), gs)) := hD
  exact W.vret hx hb hr (fun t ht hW => ⟨⟨((h0, q7), gs), rfl, rfl, by rw [ht]; exact hP9, hD9⟩, hS.F ht⟩) hS.2.2 dk5_40

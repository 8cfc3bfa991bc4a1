/-! The law's helpers: the first -/
section HS
variable {l : Launch} {D : va_G} {cy : Nat → ClassId} {ad : mO → Nat} {xs ys : Nat → Int32} {XL : Nat} {A : Nat → Prop} {b : Nat} {j : Nat}
theorem vx_mono {p : Program} {e : Env} {R : Room} {s : State} {m : MethodId} {args : Array Value} {below : List Frame} {meth : Method} {c : Code} {H : Heap} {locs : List Loc} {cells slots mc ms : Nat} {g : JFrame} {rest : List Value} {Qa Qa' : State → Outcome → State → Prop} {XC XC' : String → State → State → Prop} {free : Addr → Prop} (h : vx_Run p l e R s m args below meth c H locs cells slots mc ms g rest Qa XC free) (h1 : ∀ a o t, Qa a o t → Qa' a o t) (h2 : ∀ E a t, XC E a t → XC' E a t) : vx_Run p l e R s m args below meth c H locs cells slots mc ms g rest Qa' XC' free := by
  intro T hT X
  rcases h T hT X with ⟨v, st₀, t, T', L, a1, a2, a3, a4, a5, a6, a7⟩ | ⟨q, st₀, t, T', L, E, ce, a1, a2, a3, a4, a5, a6, a7⟩
  · exact Or.inl ⟨v, st₀, t, T', L, a1, a2, a3, a4, a5, h1 _ _ _ a6, a7⟩
  · exact Or.inr ⟨q, st₀, t, T', L, E, ce, a1, a2, a3, a4, a5, h2 _ _ _ a6, a7⟩
theorem rs_x {X : Option mR} {k : Int32} {σ' : mS} (h : bdX X (fun v2 σ1 => if nI 0 < 0 ∨ 1 ≤ (nI 0).toNatClampNeg then none else some (some (some (.inl (nI 0))), stL σ1 (45, 0, 0, 0) ((nI 0).toNatClampNeg) ((v2).toInt64))) (fun σ1 => some (some (some (.inl (nI 1))), σ1)) = some (some (some (.inl k)), σ')) : (∃ v σ1, X = some (some (some (.inl v)), σ1) ∧ k = nI 0 ∧ σ' = stL σ1 (45, 0, 0, 0) 0 v.toInt64) ∨ (∃ σ1, X = some (none, σ1) ∧ k = nI 1 ∧ σ' = σ1) := by
  unfold bdX at h
  split at h
  · rename_i v σ1
    dsimp only at h
    rw [if_neg c45, z45] at h
    cases h
    exact Or.inl ⟨_, _, rfl, rfl, rfl⟩
  · rename_i σ1
    cases h
    exact Or.inr ⟨_, rfl, rfl, rfl⟩
  · cases h
theorem mlh_220 : MLok (11, 7, 70, 0, 2) := ML_in (by decide +kernel)
theorem cl_13 : Cond.classLink RL 13 nse ∈ mBig := by
  have h : mBig.contains (Cond.classLink RL 13 nse) = true := by decide +kernel
  exact List.contains_iff_mem.mp h
theorem cs_nse : Cond.castable nse nse ∈ tW ∧ goodWord (Cond.castable nse nse) = false := by
  refine ⟨List.contains_iff_mem.mp (by decide +kernel), by decide +kernel⟩
set_option maxRecDepth 100000 in
set_option maxHeartbeats 4000000 in
theorem hp_setting (hl : l.stackTraces = false) (hF : mFix ad XL (mA ad)) {x : Int32} {σ σ' : mS} {k : Int32} (h : e_L_setting x σ = some (some (some (.inl k)), σ')) : MetHp l D cy ad xs ys XL 220 [(0, 9, 12, 13)] [.inr (.inr (9, 0, 0, 0)), .inl x, .inr (.inr (45, 0, 0, 0))] σ k σ' := by
  rw [q_L_setting] at h
  have hcs := rs_x h
  refine vx_ofWH (cc := (mrow 220).2.1) (maxL := (mrow 220).2.2.1) (ret := (mrow 220).2.2.2.1) (hh := [(0, 9, 12, 13)]) (by decide +kernel) rfl ?_
  intro p e s m args below meth c s₁ B hml hv
  obtain ⟨rfl, hRel, hKS, hHS, hTh⟩ := hv
  have hx := B.exec
  have hb := B.bytes
  have hr := B.returns
  have hts0 := atoms_spec (ws := mWh 220 [(0, 9, 12, 13)]) B.pre
  have hts : ∀ w ∈ mBig, w.before (([.inr (.inr (9, 0, 0, 0)), .inl x, .inr (.inr (45, 0, 0, 0))] : List mV).map (toV ad)).toArray s = true := fun w hw => hts0 w (List.mem_cons_of_mem _ hw)
  have htb := vx_table (x := (mrow 220).1) B (hts0 _ List.mem_cons_self)
  have hown : s.vm.findClass (cn (mrow 220).2.2.2.2.1) = some m.cls := findClass_of_methodNamed B.named
  have hlocks := B.notSynchronized
  have hlv := lv_entry (([.inr (.inr (9, 0, 0, 0)), .inl x, .inr (.inr (45, 0, 0, 0))] : List mV).map (toV ad)) (n := (mrow 220).2.2.1) (by rw [lg_words]; exact Nat.le_of_ble_eq_true rfl)
  rw [lg_entry_eq]
  generalize (lg_sl (([.inr (.inr (9, 0, 0, 0)), .inl x, .inr (.inr (45, 0, 0, 0))] : List mV).map (toV ad)) ++ List.replicate ((mrow 220).2.2.1 - (lg_sl (([.inr (.inr (9, 0, 0, 0)), .inl x, .inr (.inr (45, 0, 0, 0))] : List mV).map (toV ad))).length) Slot.unset).toArray = ls at hlv ⊢
  have hLR : LR ad ls (mrow 220).2.2.1 (largs (mrow 220).2.2.1 [.inr (.inr (9, 0, 0, 0)), .inl x, .inr (.inr (45, 0, 0, 0))]) := LR.of hlv fun i v hv => by
    have := largs_pairs (ad := ad) _ _ 0 i v hv
    rwa [Nat.zero_add] at this
  have C : mCtx D cy ad xs ys XL (mA ad) 220 p s m (([.inr (.inr (9, 0, 0, 0)), .inl x, .inr (.inr (45, 0, 0, 0))] : List mV).map (toV ad)).toArray c := ⟨hx, hb, hml, hown, hts, hKS, hHS, fun z => absurd z (by decide)⟩
  have ok9 : okR (9, 0, 0, 0) := Or.inl (by unfold okO kAr; decide)
  have ok45 : okR (45, 0, 0, 0) := Or.inl (by unfold okO kAr; decide)
  have hokL : okL (largs (mrow 220).2.2.1 [.inr (.inr (9, 0, 0, 0)), .inl x, .inr (.inr (45, 0, 0, 0))]) := largs_ok (fun v hv => by
    simp only [List.mem_cons, List.not_mem_nil, or_false] at hv
    rcases hv with rfl | rfl | rfl
    · exact ok9
    · trivial
    · exact ok45)
  refine lv_aload_n hx hb (by decide +kernel : decode (mrow 220).2.1 0 = .ok (.aload_n 2, 1)) rfl (hLR.get (v := .inr (.inr (45, 0, 0, 0))) rfl) ?_
  refine lv_iconst hx hb (by decide +kernel : decode (mrow 220).2.1 1 = .ok (.iconst 0, 1)) (rfl : Int32.ofInt 0 = nI 0) ?_
  refine lv_aload_n hx hb (by decide +kernel : decode (mrow 220).2.1 2 = .ok (.aload_n 0, 1)) rfl (hLR.get (v := .inr (.inr (9, 0, 0, 0))) rfl) ?_
  refine lv_iload_n hx hb (by decide +kernel : decode (mrow 220).2.1 3 = .ok (.iload_n 1, 1)) rfl (hLR.get (v := .inl x) rfl) ?_
  have run : ∀ r, e_X9_setting x σ = some r → vx_Run p l e (headSpec (mWh 220 [(0, 9, 12, 13)]) (mRmT 220)).room s m (([.inr (.inr (9, 0, 0, 0)), .inl x, .inr (.inr (45, 0, 0, 0))] : List mV).map (toV ad)).toArray below meth c s.heap [] 0 0 1 6 (F0 m 4 ls [.int x, .ref (ad (9, 0, 0, 0)), .int (nI 0), .ref (ad (45, 0, 0, 0))]) [.int (nI 0), .ref (ad (45, 0, 0, 0))] (mQt D cy ad xs ys XL r ((Value.ref (ad (9, 0, 0, 0)) :: ([.inl x] : List mV).map (toV ad)).toArray)) (mXt D cy ad xs ys XL r) (mA ad) := fun r hset =>
    run_virtT (j := 220) (idx := 7) (jc := 70) (n := 2) (S := [.inl (nI 0), .inr (.inr (45, 0, 0, 0))]) (acc := [.inl x]) (o := (9, 0, 0, 0)) hF mlh_220 (by decide +kernel) (by decide +kernel) (by decide +kernel) rfl rfl (by decide) ok9
      (met_T hl hF ck_all rfl (EvOf_R.mp hset) (fun v hv => by
        simp only [List.mem_cons, List.not_mem_nil, or_false] at hv
        rcases hv with rfl | rfl
        · exact ok9
        · trivial) (Nat.le_of_ble_eq_true rfl)) (by decide +kernel : decode (mrow 220).2.1 4 = .ok (.invokevirtual 7, 3)) C hTh (Nat.le_refl _) (Nat.le_refl _) (Nat.le_refl _) (Nat.le_refl _) hRel va_S.rf hLR.1
  rcases hcs with ⟨v, σ1, hX, rfl, rfl⟩ | ⟨σ9, hX, rfl, rfl⟩
  · have rn := vx_mono (XC' := vx_X (fun _ : Unit => False) (fun _ _ _ => True) (mA ad)) (run _ hX) (fun _ _ _ q => q) (fun _ _ _ q => q.elim)
    refine vx_calli (a := (Value.ref (ad (9, 0, 0, 0)) :: ([.inl x] : List mV).map (toV ad)).toArray) (post := fun (r : Int32) (_ : Unit) => r = v) (B := fun _ t => mRel D cy ad xs ys XL σ1 t.heap) (A1 := mA ad) rn va_S.rf (fun q _ h => h) (fun q h => h) (fun q _ h => h) (fun E ce q9 u t H1 locs1 _ _ hp => hp.elim) (fun r u t H1 locs1 ht hal hp hB hsz hk hSS => ?_)
    subst hp
    have hRel1 : mRel D cy ad xs ys XL σ1 H1 := by rw [← ht]; exact hB
    have hS : SndB l D cy ad xs ys XL (mA ad) 0 (220, 7, largs (mrow 220).2.2.1 [.inr (.inr (9, 0, 0, 0)), .inl x, .inr (.inr (45, 0, 0, 0))], [.inl r, .inl (nI 0), .inr (.inr (45, 0, 0, 0))], σ1) (some (some (.inl (nI 0))), stL σ1 (45, 0, 0, 0) 0 r.toInt64) := tail0 (n := 30) (e := (7, .i2l, 1, [], [])) (rest := dropTo (mcode 220) 8) hF (by decide +kernel) (Eq.trans (b := (if nI 0 < 0 ∨ 1 ≤ (nI 0).toNatClampNeg then none else some (some (some (Sum.inl (nI 0))), stL σ1 (45, 0, 0, 0) (nI 0).toNatClampNeg r.toInt64) : Option mR)) rfl (by rw [if_neg c45, z45]))
    exact help_end rfl rfl C hr hlocks (Nat.le_refl _) (Nat.le_refl _) hS (Nat.le_refl _) (Nat.le_refl _) (Nat.le_refl _) (Nat.le_refl _) hRel1 hSS hLR hokL (fun w hw => by
      simp only [List.mem_cons, List.not_mem_nil, or_false] at hw
      rcases hw with rfl | rfl | rfl
      · trivial
      · trivial
      · exact ok45)
  · have rn := vx_mono (Qa' := va_Qi (fun (_ : Int32) (_ : Unit) => False) (fun _ _ => True) (mA ad) #[]) (run _ hX) (fun _ _ _ q => q.elim) (fun _ _ _ q => q)
    refine vx_calli (px := fun _ : Unit => True) (BX := fun E _ t => E = nse ∧ mRel D cy ad xs ys XL σ' t.heap) (AX := mA ad) rn va_S.rf (fun q _ h => h) (fun q h => h) (fun q _ h => h) (fun E ce q9 u t H1 locs1 ht hal _ hB hsz hk hSS hce hcv hcl => ?_) (fun r u t H1 locs1 _ _ hp => hp.elim)
    obtain ⟨rfl, hB⟩ := hB
    have hRel1 : mRel D cy ad xs ys XL σ' H1 := by rw [← ht]; exact hB
    refine vx_catch (own := RL) (name := nse) hown [] (⟨0, 9, 12, 13⟩ : ExceptionTableEntry) [] htb (fun z hz => absurd hz List.not_mem_nil) (by decide) (by decide) (hts _ cl_13) (va_Nw.use (List.all_eq_true.mp tW_tab _ cs_nse.1) (hTh.1 _ cs_nse.1 cs_nse.2)) hce hcv hcl ?_
    refine lv_astore_n hx hb (by decide +kernel : decode (mrow 220).2.1 12 = .ok (.astore_n 3, 1)) rfl hLR (by decide) rfl (fun ls' h' => ?_)
    have hS : SndB l D cy ad xs ys XL (mA ad) 0 (220, 13, [], [], σ') (some (some (.inl (nI 1))), σ') := tail0 (n := 30) (e := (13, .iconst 1, 1, [1], [])) (rest := dropTo (mcode 220) 14) hF (by decide +kernel) rfl
    exact help_end rfl rfl C hr hlocks (Nat.le_refl _) (Nat.le_refl _) hS (Nat.le_refl _) (Nat.le_refl _) (Nat.le_refl _) (Nat.le_refl _) hRel1 hSS (LR.of h' (fun i v hv => by cases i <;> cases hv)) (fun i v hv => by cases i <;> cases hv) (fun w hw => absurd hw List.not_mem_nil)
end HS

/-! The other five helpers (by program, after the first) -/
section HQ
variable {l : Launch} {D : va_G} {cy : Nat → ClassId} {ad : mO → Nat} {xs ys : Nat → Int32} {XL : Nat} {A : Nat → Prop} {b : Nat} {j : Nat}
theorem rs_y {X : Option mR} {k : Int32} {σ' : mS} (h : bdY X (fun v2 σ1 => if nI 0 < 0 ∨ 1 ≤ (nI 0).toNatClampNeg then none else some (some (some (.inl (nI 0))), stL σ1 (45, 0, 0, 0) ((nI 0).toNatClampNeg) v2)) (fun σ1 => some (some (some (.inl (nI 1))), σ1)) = some (some (some (.inl k)), σ')) : (∃ v σ1, X = some (some (some (.inr (.inl v))), σ1) ∧ k = nI 0 ∧ σ' = stL σ1 (45, 0, 0, 0) 0 v) ∨ (∃ σ1, X = some (none, σ1) ∧ k = nI 1 ∧ σ' = σ1) := by
  unfold bdY at h
  split at h
  · rename_i v σ1
    dsimp only at h
    rw [if_neg c45, z45] at h
    cases h
    exact Or.inl ⟨_, _, rfl, rfl, rfl⟩
  · rename_i σ1
    cases h
    exact Or.inr ⟨_, rfl, rfl, rfl⟩
  · cases h
set_option maxRecDepth 100000 in
set_option maxHeartbeats 4000000 in
theorem hp_station (hl : l.stackTraces = false) (hF : mFix ad XL (mA ad)) {x x2 : Int32} {σ σ' : mS} {k : Int32} (h : e_L_station x x2 σ = some (some (some (.inl k)), σ')) : MetHp l D cy ad xs ys XL 221 [(0, 10, 13, 13)] [.inr (.inr (9, 0, 0, 0)), .inl x, .inl x2, .inr (.inr (45, 0, 0, 0))] σ k σ' := by
  rw [q_L_station] at h
  have hcs := rs_x h
  refine vx_ofWH (cc := (mrow 221).2.1) (maxL := (mrow 221).2.2.1) (ret := (mrow 221).2.2.2.1) (hh := [(0, 10, 13, 13)]) (by decide +kernel) rfl ?_
  intro p e s m args below meth c s₁ B hml hv
  obtain ⟨rfl, hRel, hKS, hHS, hTh⟩ := hv
  have hx := B.exec
  have hb := B.bytes
  have hr := B.returns
  have hts0 := atoms_spec (ws := mWh 221 [(0, 10, 13, 13)]) B.pre
  have hts : ∀ w ∈ mBig, w.before (([.inr (.inr (9, 0, 0, 0)), .inl x, .inl x2, .inr (.inr (45, 0, 0, 0))] : List mV).map (toV ad)).toArray s = true := fun w hw => hts0 w (List.mem_cons_of_mem _ hw)
  have htb := vx_table (x := (mrow 221).1) B (hts0 _ List.mem_cons_self)
  have hown : s.vm.findClass (cn (mrow 221).2.2.2.2.1) = some m.cls := findClass_of_methodNamed B.named
  have hlocks := B.notSynchronized
  have hlv := lv_entry (([.inr (.inr (9, 0, 0, 0)), .inl x, .inl x2, .inr (.inr (45, 0, 0, 0))] : List mV).map (toV ad)) (n := (mrow 221).2.2.1) (by rw [lg_words]; exact Nat.le_of_ble_eq_true rfl)
  rw [lg_entry_eq]
  generalize (lg_sl (([.inr (.inr (9, 0, 0, 0)), .inl x, .inl x2, .inr (.inr (45, 0, 0, 0))] : List mV).map (toV ad)) ++ List.replicate ((mrow 221).2.2.1 - (lg_sl (([.inr (.inr (9, 0, 0, 0)), .inl x, .inl x2, .inr (.inr (45, 0, 0, 0))] : List mV).map (toV ad))).length) Slot.unset).toArray = ls at hlv ⊢
  have hLR : LR ad ls (mrow 221).2.2.1 (largs (mrow 221).2.2.1 [.inr (.inr (9, 0, 0, 0)), .inl x, .inl x2, .inr (.inr (45, 0, 0, 0))]) := LR.of hlv fun i v hv => by
    have := largs_pairs (ad := ad) _ _ 0 i v hv
    rwa [Nat.zero_add] at this
  have C : mCtx D cy ad xs ys XL (mA ad) 221 p s m (([.inr (.inr (9, 0, 0, 0)), .inl x, .inl x2, .inr (.inr (45, 0, 0, 0))] : List mV).map (toV ad)).toArray c := ⟨hx, hb, hml, hown, hts, hKS, hHS, fun z => absurd z (by decide)⟩
  have ok9 : okR (9, 0, 0, 0) := Or.inl (by unfold okO kAr; decide)
  have ok45 : okR (45, 0, 0, 0) := Or.inl (by unfold okO kAr; decide)
  have hokL : okL (largs (mrow 221).2.2.1 [.inr (.inr (9, 0, 0, 0)), .inl x, .inl x2, .inr (.inr (45, 0, 0, 0))]) := largs_ok (fun v hv => by
    simp only [List.mem_cons, List.not_mem_nil, or_false] at hv
    rcases hv with rfl | rfl | rfl | rfl
    · exact ok9
    · trivial
    · trivial
    · exact ok45)
  refine lv_aload_n hx hb (by decide +kernel : decode (mrow 221).2.1 0 = .ok (.aload_n 3, 1)) rfl (hLR.get (v := .inr (.inr (45, 0, 0, 0))) rfl) ?_
  refine lv_iconst hx hb (by decide +kernel : decode (mrow 221).2.1 1 = .ok (.iconst 0, 1)) (rfl : Int32.ofInt 0 = nI 0) ?_
  refine lv_aload_n hx hb (by decide +kernel : decode (mrow 221).2.1 2 = .ok (.aload_n 0, 1)) rfl (hLR.get (v := .inr (.inr (9, 0, 0, 0))) rfl) ?_
  refine lv_iload_n hx hb (by decide +kernel : decode (mrow 221).2.1 3 = .ok (.iload_n 1, 1)) rfl (hLR.get (v := .inl x) rfl) ?_
  refine lv_iload_n hx hb (by decide +kernel : decode (mrow 221).2.1 4 = .ok (.iload_n 2, 1)) rfl (hLR.get (v := .inl x2) rfl) ?_
  have run : ∀ r, e_X9_station x x2 σ = some r → vx_Run p l e (headSpec (mWh 221 [(0, 10, 13, 13)]) (mRmT 221)).room s m (([.inr (.inr (9, 0, 0, 0)), .inl x, .inl x2, .inr (.inr (45, 0, 0, 0))] : List mV).map (toV ad)).toArray below meth c s.heap [] 0 0 1 6 (F0 m 5 ls [.int x2, .int x, .ref (ad (9, 0, 0, 0)), .int (nI 0), .ref (ad (45, 0, 0, 0))]) [.int (nI 0), .ref (ad (45, 0, 0, 0))] (mQt D cy ad xs ys XL r ((Value.ref (ad (9, 0, 0, 0)) :: ([.inl x, .inl x2] : List mV).map (toV ad)).toArray)) (mXt D cy ad xs ys XL r) (mA ad) := fun r hset =>
    run_virtT (j := 221) (idx := 15) (jc := 75) (n := 3) (S := [.inl (nI 0), .inr (.inr (45, 0, 0, 0))]) (acc := [.inl x, .inl x2]) (o := (9, 0, 0, 0)) hF (show MLok (11, 15, 75, 0, 3) from ML_in (by decide +kernel)) (by decide +kernel) (by decide +kernel) (by decide +kernel) rfl rfl (by decide) ok9
      (met_T (jc := 75) hl hF ck_all rfl (EvOf_R.mp hset) (fun v hv => by
        simp only [List.mem_cons, List.not_mem_nil, or_false] at hv
        rcases hv with rfl | rfl | rfl
        · exact ok9
        · trivial
        · trivial) (Nat.le_of_ble_eq_true rfl)) (by decide +kernel : decode (mrow 221).2.1 5 = .ok (.invokevirtual 15, 3)) C hTh (Nat.le_refl _) (Nat.le_refl _) (Nat.le_refl _) (Nat.le_refl _) hRel va_S.rf hLR.1
  rcases hcs with ⟨v, σ1, hX, rfl, rfl⟩ | ⟨σ9, hX, rfl, rfl⟩
  · have rn := vx_mono (XC' := vx_X (fun _ : Unit => False) (fun _ _ _ => True) (mA ad)) (run _ hX) (fun _ _ _ q => q) (fun _ _ _ q => q.elim)
    refine vx_calli (a := (Value.ref (ad (9, 0, 0, 0)) :: ([.inl x, .inl x2] : List mV).map (toV ad)).toArray) (post := fun (r : Int32) (_ : Unit) => r = v) (B := fun _ t => mRel D cy ad xs ys XL σ1 t.heap) (A1 := mA ad) rn va_S.rf (fun q _ h => h) (fun q h => h) (fun q _ h => h) (fun E ce q9 u t H1 locs1 _ _ hp => hp.elim) (fun r u t H1 locs1 ht hal hp hB hsz hk hSS => ?_)
    subst hp
    have hRel1 : mRel D cy ad xs ys XL σ1 H1 := by rw [← ht]; exact hB
    have hS : SndB l D cy ad xs ys XL (mA ad) 0 (221, 8, largs (mrow 221).2.2.1 [.inr (.inr (9, 0, 0, 0)), .inl x, .inl x2, .inr (.inr (45, 0, 0, 0))], [.inl r, .inl (nI 0), .inr (.inr (45, 0, 0, 0))], σ1) (some (some (.inl (nI 0))), stL σ1 (45, 0, 0, 0) 0 r.toInt64) := tail0 (n := 30) (e := (8, .i2l, 1, [], [])) (rest := dropTo (mcode 221) 9) hF (by decide +kernel) (Eq.trans (b := (if nI 0 < 0 ∨ 1 ≤ (nI 0).toNatClampNeg then none else some (some (some (Sum.inl (nI 0))), stL σ1 (45, 0, 0, 0) (nI 0).toNatClampNeg r.toInt64) : Option mR)) rfl (by rw [if_neg c45, z45]))
    exact help_end rfl rfl C hr hlocks (Nat.le_refl _) (Nat.le_refl _) hS (Nat.le_refl _) (Nat.le_refl _) (Nat.le_refl _) (Nat.le_refl _) hRel1 hSS hLR hokL (fun w hw => by
      simp only [List.mem_cons, List.not_mem_nil, or_false] at hw
      rcases hw with rfl | rfl | rfl
      · trivial
      · trivial
      · exact ok45)
  · have rn := vx_mono (Qa' := va_Qi (fun (_ : Int32) (_ : Unit) => False) (fun _ _ => True) (mA ad) #[]) (run _ hX) (fun _ _ _ q => q.elim) (fun _ _ _ q => q)
    refine vx_calli (px := fun _ : Unit => True) (BX := fun E _ t => E = nse ∧ mRel D cy ad xs ys XL σ' t.heap) (AX := mA ad) rn va_S.rf (fun q _ h => h) (fun q h => h) (fun q _ h => h) (fun E ce q9 u t H1 locs1 ht hal _ hB hsz hk hSS hce hcv hcl => ?_) (fun r u t H1 locs1 _ _ hp => hp.elim)
    obtain ⟨rfl, hB⟩ := hB
    have hRel1 : mRel D cy ad xs ys XL σ' H1 := by rw [← ht]; exact hB
    refine vx_catch (own := RL) (name := nse) hown [] (⟨0, 10, 13, 13⟩ : ExceptionTableEntry) [] htb (fun z hz => absurd hz List.not_mem_nil) (by decide) (by decide) (hts _ cl_13) (va_Nw.use (List.all_eq_true.mp tW_tab _ cs_nse.1) (hTh.1 _ cs_nse.1 cs_nse.2)) hce hcv hcl ?_
    refine lv_astore hx hb (by decide +kernel : decode (mrow 221).2.1 13 = .ok (.astore 4, 2)) hLR (by decide) rfl (fun ls' h' => ?_)
    have hS : SndB l D cy ad xs ys XL (mA ad) 0 (221, 15, [], [], σ') (some (some (.inl (nI 1))), σ') := tail0 (n := 30) (e := (15, .iconst 1, 1, [1], [])) (rest := dropTo (mcode 221) 16) hF (by decide +kernel) rfl
    exact help_end rfl rfl C hr hlocks (Nat.le_refl _) (Nat.le_refl _) hS (Nat.le_refl _) (Nat.le_refl _) (Nat.le_refl _) (Nat.le_refl _) hRel1 hSS (LR.of h' (fun i v hv => by cases i <;> cases hv)) (fun i v hv => by cases i <;> cases hv) (fun w hw => absurd hw List.not_mem_nil)
set_option maxRecDepth 100000 in
set_option maxHeartbeats 4000000 in
theorem hp_rank (hl : l.stackTraces = false) (hF : mFix ad XL (mA ad)) {x x2 x3 : Int32} {σ σ' : mS} {k : Int32} (h : e_L_rank x x2 x3 σ = some (some (some (.inl k)), σ')) : MetHp l D cy ad xs ys XL 222 [(0, 12, 15, 13)] [.inr (.inr (9, 0, 0, 0)), .inl x, .inl x2, .inl x3, .inr (.inr (45, 0, 0, 0))] σ k σ' := by
  rw [q_L_rank] at h
  have hcs := rs_x h
  refine vx_ofWH (cc := (mrow 222).2.1) (maxL := (mrow 222).2.2.1) (ret := (mrow 222).2.2.2.1) (hh := [(0, 12, 15, 13)]) (by decide +kernel) rfl ?_
  intro p e s m args below meth c s₁ B hml hv
  obtain ⟨rfl, hRel, hKS, hHS, hTh⟩ := hv
  have hx := B.exec
  have hb := B.bytes
  have hr := B.returns
  have hts0 := atoms_spec (ws := mWh 222 [(0, 12, 15, 13)]) B.pre
  have hts : ∀ w ∈ mBig, w.before (([.inr (.inr (9, 0, 0, 0)), .inl x, .inl x2, .inl x3, .inr (.inr (45, 0, 0, 0))] : List mV).map (toV ad)).toArray s = true := fun w hw => hts0 w (List.mem_cons_of_mem _ hw)
  have htb := vx_table (x := (mrow 222).1) B (hts0 _ List.mem_cons_self)
  have hown : s.vm.findClass (cn (mrow 222).2.2.2.2.1) = some m.cls := findClass_of_methodNamed B.named
  have hlocks := B.notSynchronized
  have hlv := lv_entry (([.inr (.inr (9, 0, 0, 0)), .inl x, .inl x2, .inl x3, .inr (.inr (45, 0, 0, 0))] : List mV).map (toV ad)) (n := (mrow 222).2.2.1) (by rw [lg_words]; exact Nat.le_of_ble_eq_true rfl)
  rw [lg_entry_eq]
  generalize (lg_sl (([.inr (.inr (9, 0, 0, 0)), .inl x, .inl x2, .inl x3, .inr (.inr (45, 0, 0, 0))] : List mV).map (toV ad)) ++ List.replicate ((mrow 222).2.2.1 - (lg_sl (([.inr (.inr (9, 0, 0, 0)), .inl x, .inl x2, .inl x3, .inr (.inr (45, 0, 0, 0))] : List mV).map (toV ad))).length) Slot.unset).toArray = ls at hlv ⊢
  have hLR : LR ad ls (mrow 222).2.2.1 (largs (mrow 222).2.2.1 [.inr (.inr (9, 0, 0, 0)), .inl x, .inl x2, .inl x3, .inr (.inr (45, 0, 0, 0))]) := LR.of hlv fun i v hv => by
    have := largs_pairs (ad := ad) _ _ 0 i v hv
    rwa [Nat.zero_add] at this
  have C : mCtx D cy ad xs ys XL (mA ad) 222 p s m (([.inr (.inr (9, 0, 0, 0)), .inl x, .inl x2, .inl x3, .inr (.inr (45, 0, 0, 0))] : List mV).map (toV ad)).toArray c := ⟨hx, hb, hml, hown, hts, hKS, hHS, fun z => absurd z (by decide)⟩
  have ok9 : okR (9, 0, 0, 0) := Or.inl (by unfold okO kAr; decide)
  have ok45 : okR (45, 0, 0, 0) := Or.inl (by unfold okO kAr; decide)
  have hokL : okL (largs (mrow 222).2.2.1 [.inr (.inr (9, 0, 0, 0)), .inl x, .inl x2, .inl x3, .inr (.inr (45, 0, 0, 0))]) := largs_ok (fun v hv => by
    simp only [List.mem_cons, List.not_mem_nil, or_false] at hv
    rcases hv with rfl | rfl | rfl | rfl | rfl
    · exact ok9
    · trivial
    · trivial
    · trivial
    · exact ok45)
  refine lv_aload hx hb (by decide +kernel : decode (mrow 222).2.1 0 = .ok (.aload 4, 2)) (hLR.get (v := .inr (.inr (45, 0, 0, 0))) rfl) ?_
  refine lv_iconst hx hb (by decide +kernel : decode (mrow 222).2.1 2 = .ok (.iconst 0, 1)) (rfl : Int32.ofInt 0 = nI 0) ?_
  refine lv_aload_n hx hb (by decide +kernel : decode (mrow 222).2.1 3 = .ok (.aload_n 0, 1)) rfl (hLR.get (v := .inr (.inr (9, 0, 0, 0))) rfl) ?_
  refine lv_iload_n hx hb (by decide +kernel : decode (mrow 222).2.1 4 = .ok (.iload_n 1, 1)) rfl (hLR.get (v := .inl x) rfl) ?_
  refine lv_iload_n hx hb (by decide +kernel : decode (mrow 222).2.1 5 = .ok (.iload_n 2, 1)) rfl (hLR.get (v := .inl x2) rfl) ?_
  refine lv_iload_n hx hb (by decide +kernel : decode (mrow 222).2.1 6 = .ok (.iload_n 3, 1)) rfl (hLR.get (v := .inl x3) rfl) ?_
  have run : ∀ r, e_X9_rank x x2 x3 σ = some r → vx_Run p l e (headSpec (mWh 222 [(0, 12, 15, 13)]) (mRmT 222)).room s m (([.inr (.inr (9, 0, 0, 0)), .inl x, .inl x2, .inl x3, .inr (.inr (45, 0, 0, 0))] : List mV).map (toV ad)).toArray below meth c s.heap [] 0 0 1 6 (F0 m 7 ls [.int x3, .int x2, .int x, .ref (ad (9, 0, 0, 0)), .int (nI 0), .ref (ad (45, 0, 0, 0))]) [.int (nI 0), .ref (ad (45, 0, 0, 0))] (mQt D cy ad xs ys XL r ((Value.ref (ad (9, 0, 0, 0)) :: ([.inl x, .inl x2, .inl x3] : List mV).map (toV ad)).toArray)) (mXt D cy ad xs ys XL r) (mA ad) := fun r hset =>
    run_virtT (j := 222) (idx := 19) (jc := 76) (n := 4) (S := [.inl (nI 0), .inr (.inr (45, 0, 0, 0))]) (acc := [.inl x, .inl x2, .inl x3]) (o := (9, 0, 0, 0)) hF (show MLok (11, 19, 76, 0, 4) from ML_in (by decide +kernel)) (by decide +kernel) (by decide +kernel) (by decide +kernel) rfl rfl (by decide) ok9
      (met_T (jc := 76) hl hF ck_all rfl (EvOf_R.mp hset) (fun v hv => by
        simp only [List.mem_cons, List.not_mem_nil, or_false] at hv
        rcases hv with rfl | rfl | rfl | rfl
        · exact ok9
        · trivial
        · trivial
        · trivial) (Nat.le_of_ble_eq_true rfl)) (by decide +kernel : decode (mrow 222).2.1 7 = .ok (.invokevirtual 19, 3)) C hTh (Nat.le_refl _) (Nat.le_refl _) (Nat.le_refl _) (Nat.le_refl _) hRel va_S.rf hLR.1
  rcases hcs with ⟨v, σ1, hX, rfl, rfl⟩ | ⟨σ9, hX, rfl, rfl⟩
  · have rn := vx_mono (XC' := vx_X (fun _ : Unit => False) (fun _ _ _ => True) (mA ad)) (run _ hX) (fun _ _ _ q => q) (fun _ _ _ q => q.elim)
    refine vx_calli (a := (Value.ref (ad (9, 0, 0, 0)) :: ([.inl x, .inl x2, .inl x3] : List mV).map (toV ad)).toArray) (post := fun (r : Int32) (_ : Unit) => r = v) (B := fun _ t => mRel D cy ad xs ys XL σ1 t.heap) (A1 := mA ad) rn va_S.rf (fun q _ h => h) (fun q h => h) (fun q _ h => h) (fun E ce q9 u t H1 locs1 _ _ hp => hp.elim) (fun r u t H1 locs1 ht hal hp hB hsz hk hSS => ?_)
    subst hp
    have hRel1 : mRel D cy ad xs ys XL σ1 H1 := by rw [← ht]; exact hB
    have hS : SndB l D cy ad xs ys XL (mA ad) 0 (222, 10, largs (mrow 222).2.2.1 [.inr (.inr (9, 0, 0, 0)), .inl x, .inl x2, .inl x3, .inr (.inr (45, 0, 0, 0))], [.inl r, .inl (nI 0), .inr (.inr (45, 0, 0, 0))], σ1) (some (some (.inl (nI 0))), stL σ1 (45, 0, 0, 0) 0 r.toInt64) := tail0 (n := 30) (e := (10, .i2l, 1, [], [])) (rest := dropTo (mcode 222) 11) hF (by decide +kernel) (Eq.trans (b := (if nI 0 < 0 ∨ 1 ≤ (nI 0).toNatClampNeg then none else some (some (some (Sum.inl (nI 0))), stL σ1 (45, 0, 0, 0) (nI 0).toNatClampNeg r.toInt64) : Option mR)) rfl (by rw [if_neg c45, z45]))
    exact help_end rfl rfl C hr hlocks (Nat.le_refl _) (Nat.le_refl _) hS (Nat.le_refl _) (Nat.le_refl _) (Nat.le_refl _) (Nat.le_refl _) hRel1 hSS hLR hokL (fun w hw => by
      simp only [List.mem_cons, List.not_mem_nil, or_false] at hw
      rcases hw with rfl | rfl | rfl
      · trivial
      · trivial
      · exact ok45)
  · have rn := vx_mono (Qa' := va_Qi (fun (_ : Int32) (_ : Unit) => False) (fun _ _ => True) (mA ad) #[]) (run _ hX) (fun _ _ _ q => q.elim) (fun _ _ _ q => q)
    refine vx_calli (px := fun _ : Unit => True) (BX := fun E _ t => E = nse ∧ mRel D cy ad xs ys XL σ' t.heap) (AX := mA ad) rn va_S.rf (fun q _ h => h) (fun q h => h) (fun q _ h => h) (fun E ce q9 u t H1 locs1 ht hal _ hB hsz hk hSS hce hcv hcl => ?_) (fun r u t H1 locs1 _ _ hp => hp.elim)
    obtain ⟨rfl, hB⟩ := hB
    have hRel1 : mRel D cy ad xs ys XL σ' H1 := by rw [← ht]; exact hB
    refine vx_catch (own := RL) (name := nse) hown [] (⟨0, 12, 15, 13⟩ : ExceptionTableEntry) [] htb (fun z hz => absurd hz List.not_mem_nil) (by decide) (by decide) (hts _ cl_13) (va_Nw.use (List.all_eq_true.mp tW_tab _ cs_nse.1) (hTh.1 _ cs_nse.1 cs_nse.2)) hce hcv hcl ?_
    refine lv_astore hx hb (by decide +kernel : decode (mrow 222).2.1 15 = .ok (.astore 5, 2)) hLR (by decide) rfl (fun ls' h' => ?_)
    have hS : SndB l D cy ad xs ys XL (mA ad) 0 (222, 17, [], [], σ') (some (some (.inl (nI 1))), σ') := tail0 (n := 30) (e := (17, .iconst 1, 1, [1], [])) (rest := dropTo (mcode 222) 18) hF (by decide +kernel) rfl
    exact help_end rfl rfl C hr hlocks (Nat.le_refl _) (Nat.le_refl _) hS (Nat.le_refl _) (Nat.le_refl _) (Nat.le_refl _) (Nat.le_refl _) hRel1 hSS (LR.of h' (fun i v hv => by cases i <;> cases hv)) (fun i v hv => by cases i <;> cases hv) (fun w hw => absurd hw List.not_mem_nil)
set_option maxRecDepth 100000 in
set_option maxHeartbeats 4000000 in
theorem hp_frame (hl : l.stackTraces = false) (hF : mFix ad XL (mA ad)) {x x2 x3 x4 : Int32} {σ σ' : mS} {k : Int32} (h : e_L_frame x x2 x3 x4 σ = some (some (some (.inl k)), σ')) : MetHp l D cy ad xs ys XL 223 [(0, 14, 17, 13)] [.inr (.inr (9, 0, 0, 0)), .inl x, .inl x2, .inl x3, .inl x4, .inr (.inr (45, 0, 0, 0))] σ k σ' := by
  rw [q_L_frame] at h
  have hcs := rs_x h
  refine vx_ofWH (cc := (mrow 223).2.1) (maxL := (mrow 223).2.2.1) (ret := (mrow 223).2.2.2.1) (hh := [(0, 14, 17, 13)]) (by decide +kernel) rfl ?_
  intro p e s m args below meth c s₁ B hml hv
  obtain ⟨rfl, hRel, hKS, hHS, hTh⟩ := hv
  have hx := B.exec
  have hb := B.bytes
  have hr := B.returns
  have hts0 := atoms_spec (ws := mWh 223 [(0, 14, 17, 13)]) B.pre
  have hts : ∀ w ∈ mBig, w.before (([.inr (.inr (9, 0, 0, 0)), .inl x, .inl x2, .inl x3, .inl x4, .inr (.inr (45, 0, 0, 0))] : List mV).map (toV ad)).toArray s = true := fun w hw => hts0 w (List.mem_cons_of_mem _ hw)
  have htb := vx_table (x := (mrow 223).1) B (hts0 _ List.mem_cons_self)
  have hown : s.vm.findClass (cn (mrow 223).2.2.2.2.1) = some m.cls := findClass_of_methodNamed B.named
  have hlocks := B.notSynchronized
  have hlv := lv_entry (([.inr (.inr (9, 0, 0, 0)), .inl x, .inl x2, .inl x3, .inl x4, .inr (.inr (45, 0, 0, 0))] : List mV).map (toV ad)) (n := (mrow 223).2.2.1) (by rw [lg_words]; exact Nat.le_of_ble_eq_true rfl)
  rw [lg_entry_eq]
  generalize (lg_sl (([.inr (.inr (9, 0, 0, 0)), .inl x, .inl x2, .inl x3, .inl x4, .inr (.inr (45, 0, 0, 0))] : List mV).map (toV ad)) ++ List.replicate ((mrow 223).2.2.1 - (lg_sl (([.inr (.inr (9, 0, 0, 0)), .inl x, .inl x2, .inl x3, .inl x4, .inr (.inr (45, 0, 0, 0))] : List mV).map (toV ad))).length) Slot.unset).toArray = ls at hlv ⊢
  have hLR : LR ad ls (mrow 223).2.2.1 (largs (mrow 223).2.2.1 [.inr (.inr (9, 0, 0, 0)), .inl x, .inl x2, .inl x3, .inl x4, .inr (.inr (45, 0, 0, 0))]) := LR.of hlv fun i v hv => by
    have := largs_pairs (ad := ad) _ _ 0 i v hv
    rwa [Nat.zero_add] at this
  have C : mCtx D cy ad xs ys XL (mA ad) 223 p s m (([.inr (.inr (9, 0, 0, 0)), .inl x, .inl x2, .inl x3, .inl x4, .inr (.inr (45, 0, 0, 0))] : List mV).map (toV ad)).toArray c := ⟨hx, hb, hml, hown, hts, hKS, hHS, fun z => absurd z (by decide)⟩
  have ok9 : okR (9, 0, 0, 0) := Or.inl (by unfold okO kAr; decide)
  have ok45 : okR (45, 0, 0, 0) := Or.inl (by unfold okO kAr; decide)
  have hokL : okL (largs (mrow 223).2.2.1 [.inr (.inr (9, 0, 0, 0)), .inl x, .inl x2, .inl x3, .inl x4, .inr (.inr (45, 0, 0, 0))]) := largs_ok (fun v hv => by
    simp only [List.mem_cons, List.not_mem_nil, or_false] at hv
    rcases hv with rfl | rfl | rfl | rfl | rfl | rfl
    · exact ok9
    · trivial
    · trivial
    · trivial
    · trivial
    · exact ok45)
  refine lv_aload hx hb (by decide +kernel : decode (mrow 223).2.1 0 = .ok (.aload 5, 2)) (hLR.get (v := .inr (.inr (45, 0, 0, 0))) rfl) ?_
  refine lv_iconst hx hb (by decide +kernel : decode (mrow 223).2.1 2 = .ok (.iconst 0, 1)) (rfl : Int32.ofInt 0 = nI 0) ?_
  refine lv_aload_n hx hb (by decide +kernel : decode (mrow 223).2.1 3 = .ok (.aload_n 0, 1)) rfl (hLR.get (v := .inr (.inr (9, 0, 0, 0))) rfl) ?_
  refine lv_iload_n hx hb (by decide +kernel : decode (mrow 223).2.1 4 = .ok (.iload_n 1, 1)) rfl (hLR.get (v := .inl x) rfl) ?_
  refine lv_iload_n hx hb (by decide +kernel : decode (mrow 223).2.1 5 = .ok (.iload_n 2, 1)) rfl (hLR.get (v := .inl x2) rfl) ?_
  refine lv_iload_n hx hb (by decide +kernel : decode (mrow 223).2.1 6 = .ok (.iload_n 3, 1)) rfl (hLR.get (v := .inl x3) rfl) ?_
  refine lv_iload hx hb (by decide +kernel : decode (mrow 223).2.1 7 = .ok (.iload 4, 2)) (hLR.get (v := .inl x4) rfl) ?_
  have run : ∀ r, e_X9_frame x x2 x3 x4 σ = some r → vx_Run p l e (headSpec (mWh 223 [(0, 14, 17, 13)]) (mRmT 223)).room s m (([.inr (.inr (9, 0, 0, 0)), .inl x, .inl x2, .inl x3, .inl x4, .inr (.inr (45, 0, 0, 0))] : List mV).map (toV ad)).toArray below meth c s.heap [] 0 0 1 6 (F0 m 9 ls [.int x4, .int x3, .int x2, .int x, .ref (ad (9, 0, 0, 0)), .int (nI 0), .ref (ad (45, 0, 0, 0))]) [.int (nI 0), .ref (ad (45, 0, 0, 0))] (mQt D cy ad xs ys XL r ((Value.ref (ad (9, 0, 0, 0)) :: ([.inl x, .inl x2, .inl x3, .inl x4] : List mV).map (toV ad)).toArray)) (mXt D cy ad xs ys XL r) (mA ad) := fun r hset =>
    run_virtT (j := 223) (idx := 23) (jc := 77) (n := 5) (S := [.inl (nI 0), .inr (.inr (45, 0, 0, 0))]) (acc := [.inl x, .inl x2, .inl x3, .inl x4]) (o := (9, 0, 0, 0)) hF (show MLok (11, 23, 77, 0, 5) from ML_in (by decide +kernel)) (by decide +kernel) (by decide +kernel) (by decide +kernel) rfl rfl (by decide) ok9
      (met_T (jc := 77) hl hF ck_all rfl (EvOf_R.mp hset) (fun v hv => by
        simp only [List.mem_cons, List.not_mem_nil, or_false] at hv
        rcases hv with rfl | rfl | rfl | rfl | rfl
        · exact ok9
        · trivial
        · trivial
        · trivial
        · trivial) (Nat.le_of_ble_eq_true rfl)) (by decide +kernel : decode (mrow 223).2.1 9 = .ok (.invokevirtual 23, 3)) C hTh (Nat.le_refl _) (Nat.le_refl _) (Nat.le_refl _) (Nat.le_refl _) hRel va_S.rf hLR.1
  rcases hcs with ⟨v, σ1, hX, rfl, rfl⟩ | ⟨σ9, hX, rfl, rfl⟩
  · have rn := vx_mono (XC' := vx_X (fun _ : Unit => False) (fun _ _ _ => True) (mA ad)) (run _ hX) (fun _ _ _ q => q) (fun _ _ _ q => q.elim)
    refine vx_calli (a := (Value.ref (ad (9, 0, 0, 0)) :: ([.inl x, .inl x2, .inl x3, .inl x4] : List mV).map (toV ad)).toArray) (post := fun (r : Int32) (_ : Unit) => r = v) (B := fun _ t => mRel D cy ad xs ys XL σ1 t.heap) (A1 := mA ad) rn va_S.rf (fun q _ h => h) (fun q h => h) (fun q _ h => h) (fun E ce q9 u t H1 locs1 _ _ hp => hp.elim) (fun r u t H1 locs1 ht hal hp hB hsz hk hSS => ?_)
    subst hp
    have hRel1 : mRel D cy ad xs ys XL σ1 H1 := by rw [← ht]; exact hB
    have hS : SndB l D cy ad xs ys XL (mA ad) 0 (223, 12, largs (mrow 223).2.2.1 [.inr (.inr (9, 0, 0, 0)), .inl x, .inl x2, .inl x3, .inl x4, .inr (.inr (45, 0, 0, 0))], [.inl r, .inl (nI 0), .inr (.inr (45, 0, 0, 0))], σ1) (some (some (.inl (nI 0))), stL σ1 (45, 0, 0, 0) 0 r.toInt64) := tail0 (n := 30) (e := (12, .i2l, 1, [], [])) (rest := dropTo (mcode 223) 13) hF (by decide +kernel) (Eq.trans (b := (if nI 0 < 0 ∨ 1 ≤ (nI 0).toNatClampNeg then none else some (some (some (Sum.inl (nI 0))), stL σ1 (45, 0, 0, 0) (nI 0).toNatClampNeg r.toInt64) : Option mR)) rfl (by rw [if_neg c45, z45]))
    exact help_end rfl rfl C hr hlocks (Nat.le_refl _) (Nat.le_refl _) hS (Nat.le_refl _) (Nat.le_refl _) (Nat.le_refl _) (Nat.le_refl _) hRel1 hSS hLR hokL (fun w hw => by
      simp only [List.mem_cons, List.not_mem_nil, or_false] at hw
      rcases hw with rfl | rfl | rfl
      · trivial
      · trivial
      · exact ok45)
  · have rn := vx_mono (Qa' := va_Qi (fun (_ : Int32) (_ : Unit) => False) (fun _ _ => True) (mA ad) #[]) (run _ hX) (fun _ _ _ q => q.elim) (fun _ _ _ q => q)
    refine vx_calli (px := fun _ : Unit => True) (BX := fun E _ t => E = nse ∧ mRel D cy ad xs ys XL σ' t.heap) (AX := mA ad) rn va_S.rf (fun q _ h => h) (fun q h => h) (fun q _ h => h) (fun E ce q9 u t H1 locs1 ht hal _ hB hsz hk hSS hce hcv hcl => ?_) (fun r u t H1 locs1 _ _ hp => hp.elim)
    obtain ⟨rfl, hB⟩ := hB
    have hRel1 : mRel D cy ad xs ys XL σ' H1 := by rw [← ht]; exact hB
    refine vx_catch (own := RL) (name := nse) hown [] (⟨0, 14, 17, 13⟩ : ExceptionTableEntry) [] htb (fun z hz => absurd hz List.not_mem_nil) (by decide) (by decide) (hts _ cl_13) (va_Nw.use (List.all_eq_true.mp tW_tab _ cs_nse.1) (hTh.1 _ cs_nse.1 cs_nse.2)) hce hcv hcl ?_
    refine lv_astore hx hb (by decide +kernel : decode (mrow 223).2.1 17 = .ok (.astore 6, 2)) hLR (by decide) rfl (fun ls' h' => ?_)
    have hS : SndB l D cy ad xs ys XL (mA ad) 0 (223, 19, [], [], σ') (some (some (.inl (nI 1))), σ') := tail0 (n := 30) (e := (19, .iconst 1, 1, [1], [])) (rest := dropTo (mcode 223) 20) hF (by decide +kernel) rfl
    exact help_end rfl rfl C hr hlocks (Nat.le_refl _) (Nat.le_refl _) hS (Nat.le_refl _) (Nat.le_refl _) (Nat.le_refl _) (Nat.le_refl _) hRel1 hSS (LR.of h' (fun i v hv => by cases i <;> cases hv)) (fun i v hv => by cases i <;> cases hv) (fun w hw => absurd hw List.not_mem_nil)
set_option maxRecDepth 100000 in
set_option maxHeartbeats 4000000 in
theorem hp_tally (hl : l.stackTraces = false) (hF : mFix ad XL (mA ad)) {x x2 : Int32} {σ σ' : mS} {k : Int32} (h : e_L_tally x x2 σ = some (some (some (.inl k)), σ')) : MetHp l D cy ad xs ys XL 224 [(0, 10, 13, 13)] [.inr (.inr (9, 0, 0, 0)), .inl x, .inl x2, .inr (.inr (45, 0, 0, 0))] σ k σ' := by
  rw [q_L_tally] at h
  have hcs := rs_x h
  refine vx_ofWH (cc := (mrow 224).2.1) (maxL := (mrow 224).2.2.1) (ret := (mrow 224).2.2.2.1) (hh := [(0, 10, 13, 13)]) (by decide +kernel) rfl ?_
  intro p e s m args below meth c s₁ B hml hv
  obtain ⟨rfl, hRel, hKS, hHS, hTh⟩ := hv
  have hx := B.exec
  have hb := B.bytes
  have hr := B.returns
  have hts0 := atoms_spec (ws := mWh 224 [(0, 10, 13, 13)]) B.pre
  have hts : ∀ w ∈ mBig, w.before (([.inr (.inr (9, 0, 0, 0)), .inl x, .inl x2, .inr (.inr (45, 0, 0, 0))] : List mV).map (toV ad)).toArray s = true := fun w hw => hts0 w (List.mem_cons_of_mem _ hw)
  have htb := vx_table (x := (mrow 224).1) B (hts0 _ List.mem_cons_self)
  have hown : s.vm.findClass (cn (mrow 224).2.2.2.2.1) = some m.cls := findClass_of_methodNamed B.named
  have hlocks := B.notSynchronized
  have hlv := lv_entry (([.inr (.inr (9, 0, 0, 0)), .inl x, .inl x2, .inr (.inr (45, 0, 0, 0))] : List mV).map (toV ad)) (n := (mrow 224).2.2.1) (by rw [lg_words]; exact Nat.le_of_ble_eq_true rfl)
  rw [lg_entry_eq]
  generalize (lg_sl (([.inr (.inr (9, 0, 0, 0)), .inl x, .inl x2, .inr (.inr (45, 0, 0, 0))] : List mV).map (toV ad)) ++ List.replicate ((mrow 224).2.2.1 - (lg_sl (([.inr (.inr (9, 0, 0, 0)), .inl x, .inl x2, .inr (.inr (45, 0, 0, 0))] : List mV).map (toV ad))).length) Slot.unset).toArray = ls at hlv ⊢
  have hLR : LR ad ls (mrow 224).2.2.1 (largs (mrow 224).2.2.1 [.inr (.inr (9, 0, 0, 0)), .inl x, .inl x2, .inr (.inr (45, 0, 0, 0))]) := LR.of hlv fun i v hv => by
    have := largs_pairs (ad := ad) _ _ 0 i v hv
    rwa [Nat.zero_add] at this
  have C : mCtx D cy ad xs ys XL (mA ad) 224 p s m (([.inr (.inr (9, 0, 0, 0)), .inl x, .inl x2, .inr (.inr (45, 0, 0, 0))] : List mV).map (toV ad)).toArray c := ⟨hx, hb, hml, hown, hts, hKS, hHS, fun z => absurd z (by decide)⟩
  have ok9 : okR (9, 0, 0, 0) := Or.inl (by unfold okO kAr; decide)
  have ok45 : okR (45, 0, 0, 0) := Or.inl (by unfold okO kAr; decide)
  have hokL : okL (largs (mrow 224).2.2.1 [.inr (.inr (9, 0, 0, 0)), .inl x, .inl x2, .inr (.inr (45, 0, 0, 0))]) := largs_ok (fun v hv => by
    simp only [List.mem_cons, List.not_mem_nil, or_false] at hv
    rcases hv with rfl | rfl | rfl | rfl
    · exact ok9
    · trivial
    · trivial
    · exact ok45)
  refine lv_aload_n hx hb (by decide +kernel : decode (mrow 224).2.1 0 = .ok (.aload_n 3, 1)) rfl (hLR.get (v := .inr (.inr (45, 0, 0, 0))) rfl) ?_
  refine lv_iconst hx hb (by decide +kernel : decode (mrow 224).2.1 1 = .ok (.iconst 0, 1)) (rfl : Int32.ofInt 0 = nI 0) ?_
  refine lv_aload_n hx hb (by decide +kernel : decode (mrow 224).2.1 2 = .ok (.aload_n 0, 1)) rfl (hLR.get (v := .inr (.inr (9, 0, 0, 0))) rfl) ?_
  refine lv_iload_n hx hb (by decide +kernel : decode (mrow 224).2.1 3 = .ok (.iload_n 1, 1)) rfl (hLR.get (v := .inl x) rfl) ?_
  refine lv_iload_n hx hb (by decide +kernel : decode (mrow 224).2.1 4 = .ok (.iload_n 2, 1)) rfl (hLR.get (v := .inl x2) rfl) ?_
  have run : ∀ r, e_X9_tally x x2 σ = some r → vx_Run p l e (headSpec (mWh 224 [(0, 10, 13, 13)]) (mRmT 224)).room s m (([.inr (.inr (9, 0, 0, 0)), .inl x, .inl x2, .inr (.inr (45, 0, 0, 0))] : List mV).map (toV ad)).toArray below meth c s.heap [] 0 0 1 6 (F0 m 5 ls [.int x2, .int x, .ref (ad (9, 0, 0, 0)), .int (nI 0), .ref (ad (45, 0, 0, 0))]) [.int (nI 0), .ref (ad (45, 0, 0, 0))] (mQt D cy ad xs ys XL r ((Value.ref (ad (9, 0, 0, 0)) :: ([.inl x, .inl x2] : List mV).map (toV ad)).toArray)) (mXt D cy ad xs ys XL r) (mA ad) := fun r hset =>
    run_virtT (j := 224) (idx := 27) (jc := 83) (n := 3) (S := [.inl (nI 0), .inr (.inr (45, 0, 0, 0))]) (acc := [.inl x, .inl x2]) (o := (9, 0, 0, 0)) hF (show MLok (11, 27, 83, 0, 3) from ML_in (by decide +kernel)) (by decide +kernel) (by decide +kernel) (by decide +kernel) rfl rfl (by decide) ok9
      (met_T (jc := 83) hl hF ck_all rfl (EvOf_R.mp hset) (fun v hv => by
        simp only [List.mem_cons, List.not_mem_nil, or_false] at hv
        rcases hv with rfl | rfl | rfl
        · exact ok9
        · trivial
        · trivial) (Nat.le_of_ble_eq_true rfl)) (by decide +kernel : decode (mrow 224).2.1 5 = .ok (.invokevirtual 27, 3)) C hTh (Nat.le_refl _) (Nat.le_refl _) (Nat.le_refl _) (Nat.le_refl _) hRel va_S.rf hLR.1
  rcases hcs with ⟨v, σ1, hX, rfl, rfl⟩ | ⟨σ9, hX, rfl, rfl⟩
  · have rn := vx_mono (XC' := vx_X (fun _ : Unit => False) (fun _ _ _ => True) (mA ad)) (run _ hX) (fun _ _ _ q => q) (fun _ _ _ q => q.elim)
    refine vx_calli (a := (Value.ref (ad (9, 0, 0, 0)) :: ([.inl x, .inl x2] : List mV).map (toV ad)).toArray) (post := fun (r : Int32) (_ : Unit) => r = v) (B := fun _ t => mRel D cy ad xs ys XL σ1 t.heap) (A1 := mA ad) rn va_S.rf (fun q _ h => h) (fun q h => h) (fun q _ h => h) (fun E ce q9 u t H1 locs1 _ _ hp => hp.elim) (fun r u t H1 locs1 ht hal hp hB hsz hk hSS => ?_)
    subst hp
    have hRel1 : mRel D cy ad xs ys XL σ1 H1 := by rw [← ht]; exact hB
    have hS : SndB l D cy ad xs ys XL (mA ad) 0 (224, 8, largs (mrow 224).2.2.1 [.inr (.inr (9, 0, 0, 0)), .inl x, .inl x2, .inr (.inr (45, 0, 0, 0))], [.inl r, .inl (nI 0), .inr (.inr (45, 0, 0, 0))], σ1) (some (some (.inl (nI 0))), stL σ1 (45, 0, 0, 0) 0 r.toInt64) := tail0 (n := 30) (e := (8, .i2l, 1, [], [])) (rest := dropTo (mcode 224) 9) hF (by decide +kernel) (Eq.trans (b := (if nI 0 < 0 ∨ 1 ≤ (nI 0).toNatClampNeg then none else some (some (some (Sum.inl (nI 0))), stL σ1 (45, 0, 0, 0) (nI 0).toNatClampNeg r.toInt64) : Option mR)) rfl (by rw [if_neg c45, z45]))
    exact help_end rfl rfl C hr hlocks (Nat.le_refl _) (Nat.le_refl _) hS (Nat.le_refl _) (Nat.le_refl _) (Nat.le_refl _) (Nat.le_refl _) hRel1 hSS hLR hokL (fun w hw => by
      simp only [List.mem_cons, List.not_mem_nil, or_false] at hw
      rcases hw with rfl | rfl | rfl
      · trivial
      · trivial
      · exact ok45)
  · have rn := vx_mono (Qa' := va_Qi (fun (_ : Int32) (_ : Unit) => False) (fun _ _ => True) (mA ad) #[]) (run _ hX) (fun _ _ _ q => q.elim) (fun _ _ _ q => q)
    refine vx_calli (px := fun _ : Unit => True) (BX := fun E _ t => E = nse ∧ mRel D cy ad xs ys XL σ' t.heap) (AX := mA ad) rn va_S.rf (fun q _ h => h) (fun q h => h) (fun q _ h => h) (fun E ce q9 u t H1 locs1 ht hal _ hB hsz hk hSS hce hcv hcl => ?_) (fun r u t H1 locs1 _ _ hp => hp.elim)
    obtain ⟨rfl, hB⟩ := hB
    have hRel1 : mRel D cy ad xs ys XL σ' H1 := by rw [← ht]; exact hB
    refine vx_catch (own := RL) (name := nse) hown [] (⟨0, 10, 13, 13⟩ : ExceptionTableEntry) [] htb (fun z hz => absurd hz List.not_mem_nil) (by decide) (by decide) (hts _ cl_13) (va_Nw.use (List.all_eq_true.mp tW_tab _ cs_nse.1) (hTh.1 _ cs_nse.1 cs_nse.2)) hce hcv hcl ?_
    refine lv_astore hx hb (by decide +kernel : decode (mrow 224).2.1 13 = .ok (.astore 4, 2)) hLR (by decide) rfl (fun ls' h' => ?_)
    have hS : SndB l D cy ad xs ys XL (mA ad) 0 (224, 15, [], [], σ') (some (some (.inl (nI 1))), σ') := tail0 (n := 30) (e := (15, .iconst 1, 1, [1], [])) (rest := dropTo (mcode 224) 16) hF (by decide +kernel) rfl
    exact help_end rfl rfl C hr hlocks (Nat.le_refl _) (Nat.le_refl _) hS (Nat.le_refl _) (Nat.le_refl _) (Nat.le_refl _) (Nat.le_refl _) hRel1 hSS (LR.of h' (fun i v hv => by cases i <;> cases hv)) (fun i v hv => by cases i <;> cases hv) (fun w hw => absurd hw List.not_mem_nil)
set_option maxRecDepth 100000 in
set_option maxHeartbeats 4000000 in
theorem hp_row (hl : l.stackTraces = false) (hF : mFix ad XL (mA ad)) {x : Int32} {σ σ' : mS} {k : Int32} (h : e_L_row x σ = some (some (some (.inl k)), σ')) : MetHp l D cy ad xs ys XL 225 [(0, 8, 11, 13)] [.inr (.inr (9, 0, 0, 0)), .inl x, .inr (.inr (45, 0, 0, 0))] σ k σ' := by
  rw [q_L_row] at h
  have hcs := rs_y h
  refine vx_ofWH (cc := (mrow 225).2.1) (maxL := (mrow 225).2.2.1) (ret := (mrow 225).2.2.2.1) (hh := [(0, 8, 11, 13)]) (by decide +kernel) rfl ?_
  intro p e s m args below meth c s₁ B hml hv
  obtain ⟨rfl, hRel, hKS, hHS, hTh⟩ := hv
  have hx := B.exec
  have hb := B.bytes
  have hr := B.returns
  have hts0 := atoms_spec (ws := mWh 225 [(0, 8, 11, 13)]) B.pre
  have hts : ∀ w ∈ mBig, w.before (([.inr (.inr (9, 0, 0, 0)), .inl x, .inr (.inr (45, 0, 0, 0))] : List mV).map (toV ad)).toArray s = true := fun w hw => hts0 w (List.mem_cons_of_mem _ hw)
  have htb := vx_table (x := (mrow 225).1) B (hts0 _ List.mem_cons_self)
  have hown : s.vm.findClass (cn (mrow 225).2.2.2.2.1) = some m.cls := findClass_of_methodNamed B.named
  have hlocks := B.notSynchronized
  have hlv := lv_entry (([.inr (.inr (9, 0, 0, 0)), .inl x, .inr (.inr (45, 0, 0, 0))] : List mV).map (toV ad)) (n := (mrow 225).2.2.1) (by rw [lg_words]; exact Nat.le_of_ble_eq_true rfl)
  rw [lg_entry_eq]
  generalize (lg_sl (([.inr (.inr (9, 0, 0, 0)), .inl x, .inr (.inr (45, 0, 0, 0))] : List mV).map (toV ad)) ++ List.replicate ((mrow 225).2.2.1 - (lg_sl (([.inr (.inr (9, 0, 0, 0)), .inl x, .inr (.inr (45, 0, 0, 0))] : List mV).map (toV ad))).length) Slot.unset).toArray = ls at hlv ⊢
  have hLR : LR ad ls (mrow 225).2.2.1 (largs (mrow 225).2.2.1 [.inr (.inr (9, 0, 0, 0)), .inl x, .inr (.inr (45, 0, 0, 0))]) := LR.of hlv fun i v hv => by
    have := largs_pairs (ad := ad) _ _ 0 i v hv
    rwa [Nat.zero_add] at this
  have C : mCtx D cy ad xs ys XL (mA ad) 225 p s m (([.inr (.inr (9, 0, 0, 0)), .inl x, .inr (.inr (45, 0, 0, 0))] : List mV).map (toV ad)).toArray c := ⟨hx, hb, hml, hown, hts, hKS, hHS, fun z => absurd z (by decide)⟩
  have ok9 : okR (9, 0, 0, 0) := Or.inl (by unfold okO kAr; decide)
  have ok45 : okR (45, 0, 0, 0) := Or.inl (by unfold okO kAr; decide)
  have hokL : okL (largs (mrow 225).2.2.1 [.inr (.inr (9, 0, 0, 0)), .inl x, .inr (.inr (45, 0, 0, 0))]) := largs_ok (fun v hv => by
    simp only [List.mem_cons, List.not_mem_nil, or_false] at hv
    rcases hv with rfl | rfl | rfl
    · exact ok9
    · trivial
    · exact ok45)
  refine lv_aload_n hx hb (by decide +kernel : decode (mrow 225).2.1 0 = .ok (.aload_n 2, 1)) rfl (hLR.get (v := .inr (.inr (45, 0, 0, 0))) rfl) ?_
  refine lv_iconst hx hb (by decide +kernel : decode (mrow 225).2.1 1 = .ok (.iconst 0, 1)) (rfl : Int32.ofInt 0 = nI 0) ?_
  refine lv_aload_n hx hb (by decide +kernel : decode (mrow 225).2.1 2 = .ok (.aload_n 0, 1)) rfl (hLR.get (v := .inr (.inr (9, 0, 0, 0))) rfl) ?_
  refine lv_iload_n hx hb (by decide +kernel : decode (mrow 225).2.1 3 = .ok (.iload_n 1, 1)) rfl (hLR.get (v := .inl x) rfl) ?_
  have run : ∀ r, e_X9_row x σ = some r → vx_Run p l e (headSpec (mWh 225 [(0, 8, 11, 13)]) (mRmT 225)).room s m (([.inr (.inr (9, 0, 0, 0)), .inl x, .inr (.inr (45, 0, 0, 0))] : List mV).map (toV ad)).toArray below meth c s.heap [] 0 0 1 6 (F0 m 4 ls [.int x, .ref (ad (9, 0, 0, 0)), .int (nI 0), .ref (ad (45, 0, 0, 0))]) [.int (nI 0), .ref (ad (45, 0, 0, 0))] (mQt D cy ad xs ys XL r ((Value.ref (ad (9, 0, 0, 0)) :: ([.inl x] : List mV).map (toV ad)).toArray)) (mXt D cy ad xs ys XL r) (mA ad) := fun r hset =>
    run_virtT (j := 225) (idx := 30) (jc := 101) (n := 2) (S := [.inl (nI 0), .inr (.inr (45, 0, 0, 0))]) (acc := [.inl x]) (o := (9, 0, 0, 0)) hF (show MLok (11, 30, 101, 0, 2) from ML_in (by decide +kernel)) (by decide +kernel) (by decide +kernel) (by decide +kernel) rfl rfl (by decide) ok9
      (met_T (jc := 101) hl hF ck_all rfl (EvOf_R.mp hset) (fun v hv => by
        simp only [List.mem_cons, List.not_mem_nil, or_false] at hv
        rcases hv with rfl | rfl
        · exact ok9
        · trivial) (Nat.le_of_ble_eq_true rfl)) (by decide +kernel : decode (mrow 225).2.1 4 = .ok (.invokevirtual 30, 3)) C hTh (Nat.le_refl _) (Nat.le_refl _) (Nat.le_refl _) (Nat.le_refl _) hRel va_S.rf hLR.1
  rcases hcs with ⟨v, σ1, hX, rfl, rfl⟩ | ⟨σ9, hX, rfl, rfl⟩
  · have rn := vx_mono (XC' := vx_X (fun _ : Unit => False) (fun _ _ _ => True) (mA ad)) (run _ hX) (fun _ _ _ q => q) (fun _ _ _ q => q.elim)
    refine vx_calll (a := (Value.ref (ad (9, 0, 0, 0)) :: ([.inl x] : List mV).map (toV ad)).toArray) (post := fun (r : Int64) (_ : Unit) => r = v) (B := fun _ t => mRel D cy ad xs ys XL σ1 t.heap) (A1 := mA ad) rn va_S.rf (fun q _ h => h) (fun q h => h) (fun q _ h => h) (fun E ce q9 u t H1 locs1 _ _ hp => hp.elim) (fun r u t H1 locs1 ht hal hp hB hsz hk hSS => ?_)
    subst hp
    have hRel1 : mRel D cy ad xs ys XL σ1 H1 := by rw [← ht]; exact hB
    have hS : SndB l D cy ad xs ys XL (mA ad) 0 (225, 7, largs (mrow 225).2.2.1 [.inr (.inr (9, 0, 0, 0)), .inl x, .inr (.inr (45, 0, 0, 0))], [.inr (.inl r), .inl (nI 0), .inr (.inr (45, 0, 0, 0))], σ1) (some (some (.inl (nI 0))), stL σ1 (45, 0, 0, 0) 0 r) := tail0 (n := 30) (e := (7, .lastore, 1, [], [])) (rest := dropTo (mcode 225) 8) hF (by decide +kernel) (Eq.trans (b := (if nI 0 < 0 ∨ 1 ≤ (nI 0).toNatClampNeg then none else some (some (some (Sum.inl (nI 0))), stL σ1 (45, 0, 0, 0) (nI 0).toNatClampNeg r) : Option mR)) rfl (by rw [if_neg c45, z45]))
    exact help_end rfl rfl C hr hlocks (Nat.le_refl _) (Nat.le_refl _) hS (Nat.le_refl _) (Nat.le_refl _) (Nat.le_refl _) (Nat.le_refl _) hRel1 hSS hLR hokL (fun w hw => by
      simp only [List.mem_cons, List.not_mem_nil, or_false] at hw
      rcases hw with rfl | rfl | rfl
      · trivial
      · trivial
      · exact ok45)
  · have rn := vx_mono (Qa' := va_Ql (fun (_ : Int64) (_ : Unit) => False) (fun _ _ => True) (mA ad) #[]) (run _ hX) (fun _ _ _ q => q.elim) (fun _ _ _ q => q)
    refine vx_calll (px := fun _ : Unit => True) (BX := fun E _ t => E = nse ∧ mRel D cy ad xs ys XL σ' t.heap) (AX := mA ad) rn va_S.rf (fun q _ h => h) (fun q h => h) (fun q _ h => h) (fun E ce q9 u t H1 locs1 ht hal _ hB hsz hk hSS hce hcv hcl => ?_) (fun r u t H1 locs1 _ _ hp => hp.elim)
    obtain ⟨rfl, hB⟩ := hB
    have hRel1 : mRel D cy ad xs ys XL σ' H1 := by rw [← ht]; exact hB
    refine vx_catch (own := RL) (name := nse) hown [] (⟨0, 8, 11, 13⟩ : ExceptionTableEntry) [] htb (fun z hz => absurd hz List.not_mem_nil) (by decide) (by decide) (hts _ cl_13) (va_Nw.use (List.all_eq_true.mp tW_tab _ cs_nse.1) (hTh.1 _ cs_nse.1 cs_nse.2)) hce hcv hcl ?_
    refine lv_astore_n hx hb (by decide +kernel : decode (mrow 225).2.1 11 = .ok (.astore_n 3, 1)) rfl hLR (by decide) rfl (fun ls' h' => ?_)
    have hS : SndB l D cy ad xs ys XL (mA ad) 0 (225, 12, [], [], σ') (some (some (.inl (nI 1))), σ') := tail0 (n := 30) (e := (12, .iconst 1, 1, [1], [])) (rest := dropTo (mcode 225) 13) hF (by decide +kernel) rfl
    exact help_end rfl rfl C hr hlocks (Nat.le_refl _) (Nat.le_refl _) hS (Nat.le_refl _) (Nat.le_refl _) (Nat.le_refl _) (Nat.le_refl _) hRel1 hSS (LR.of h' (fun i v hv => by cases i <;> cases hv)) (fun i v hv => by cases i <;> cases hv) (fun w hw => absurd hw List.not_mem_nil)
end HQ

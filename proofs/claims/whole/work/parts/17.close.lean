/-! Calls of the small machine; every step; the whole -/
section SE
variable {l : Launch} {D : va_G} {cy : Nat → ClassId} {ad : mO → Nat} {xs ys : Nat → Int32} {XL : Nat} {A : Nat → Prop} {b : Nat} {j : Nat}
def CallH (l : Launch) (D : va_G) (cy : Nat → ClassId) (ad : mO → Nat) (xs ys : Nat → Int32) (XL : Nat) (Rf : mQ → Option mR) : Prop := ∀ (jc : Nat) (acc : List mV) (σ : mS) (rv : Option mV) (σ' : mS), Rf (jc, 0, largs (mrow jc).2.2.1 acc, [], σ) = some (some rv, σ') → PLs.contains jc = true → okS acc → swords acc ≤ (mrow jc).2.2.1 → (mrow jc).1.cls = cn (mrow jc).2.2.2.2.1 → MetJ l D cy ad xs ys XL jc acc σ rv σ'
theorem good_mW {jc : Nat} (h : MOk jc) : GoodIn mBig (mW jc) := fun w hw => by
  have hm : w ∈ mBig := by
    rcases List.mem_cons.mp hw with rfl | hw
    · exact h
    · exact hw
  exact ⟨hm, good_of_word (List.mem_filter.mp hm).2⟩
theorem okS_split {bs S : List mV} (h : okS (bs ++ S)) : okS bs.reverse ∧ okS S :=
  ⟨fun w hw => h w (List.mem_append_left _ (List.mem_reverse.mp hw)), fun w hw => h w (List.mem_append_right _ hw)⟩
/-- what a call's answer may be, by its kind and its type -/
def retOk (ret : Nat) (t : Option FieldType) : Prop := (ret = 0 ∧ t = none) ∨ (ret = 1 ∧ (t = some .int ∨ t = some .boolean)) ∨ (ret = 2 ∧ t = some .long)
theorem run_virt (hF : mFix ad XL A) {pc idx jc n : Nat} {acc S : List mV} {o : mO} {σ σ' : mS} {rv : Option mV} (hML : MLok ((mrow j).2.2.2.2.1, idx, jc, 0, n)) (hfr0 : (mrow jc).2.2.2.2.2.1 + 1 ≤ (mrow j).2.2.2.2.2.1) (hlo0 : 8 + ((mrow jc).2.2.1 + 11) + (mrow jc).2.2.2.2.2.2 ≤ (mrow j).2.2.2.2.2.2) (hkr : (mrow jc).2.2.2.2.1 < 11) (ho : o.1 = (mrow jc).2.2.2.2.1) (hn : acc.length + 1 = n) (hwS : swords S ≤ 8) (hok : okR o)
    (hM : MetJ l D cy ad xs ys XL jc (.inr (.inr o) :: acc) σ rv σ') (hd : decode (mrow j).2.1 pc = .ok (.invokevirtual idx, 3))
    {p : Program} {e : Env} {R : Room} {s : State} {m : MethodId} {args : Array Value} {below : List Frame} {meth : Method} {c : Code} {H : Heap} {locs : List Loc} {cells slots : Nat} {ls : Array Slot} (C : mCtx D cy ad xs ys XL A j p s m args c) (hfr : (mrow j).2.2.2.2.2.1 ≤ R.frames) (hlo : (mrow j).2.2.2.2.2.2 ≤ R.locals) (hc : cells ≤ R.cells) (hs : slots ≤ R.slots) (hRel : mRel D cy ad xs ys XL σ H) (hSS : va_S A s.heap H locs) (hsz : ls.size = (mrow j).2.2.1) :
    va_Run p l e R s m args below meth c H locs cells slots 0 0 (F0 m pc ls ((acc.map (toV ad)).reverse ++ .ref (ad o) :: S.map (toV ad))) (S.map (toV ad)) (mQc D cy ad xs ys XL rv σ' ((Value.ref (ad o) :: acc.map (toV ad)).toArray)) (mA ad) := by
  obtain ⟨hx, hb, hml, hown, hts, hKS, hHS, hT0⟩ := id C
  obtain ⟨m1, m2, m3, m4, ⟨m5, m6, m7⟩, m8, m9⟩ := hML
  dsimp only at m1 m2 m3 m4 m5 m6 m7 m8 m9
  have hoO : okO o := okR_ok hok (by omega)
  obtain ⟨q0, hq, hw⟩ := ws_at (cy := cy) (ad := ad) hoO
  have he := hw σ
  rw [mCell_obj (by omega), ho] at he
  have hdesc : (parseMethodDescriptor (mrow jc).1.desc).map (fun d => d.parameters.length) = some acc.length := by
    cases hq2 : parseMethodDescriptor (mrow jc).1.desc with
    | none => rw [hq2] at m7; cases m7
    | some d =>
      rw [hq2] at m7
      have := Option.some.inj m7
      show some d.parameters.length = some acc.length
      congr 1
      have h3 : d.parameters.length + 1 = n := this
      omega
  have hsum := swords_sum ad S
  refine va_runV (As := acc.map (toV ad)) (rest := S.map (toV ad)) (n := acc.length) (C := cn (mrow jc).2.2.2.2.1) ⟨hx, hb, hml, hown, hts⟩ hM ⟨callB_of acc.length hts (good_mW m8) rfl rfl rfl (hts _ m4) (hts _ m1) ⟨m5, m6, hdesc⟩ ⟨Nat.le_trans hfr0 hfr, Nat.le_trans hlo0 hlo⟩, hts _ m2, by rw [← m9]; exact hts _ m3⟩ ⟨blind_of, va_recv hKS.1 hRel.1 (fCl _ hkr) he, fun U hU hW => ⟨rfl, pre_of hF hU hW hRel hKS hHS hSS⟩⟩ rfl (by simp) hsz rfl (by show 2 * 0 + _ ≤ 8; omega) hd ⟨hc, hs⟩
theorem run_stat (hF : mFix ad XL A) {pc idx jc n : Nat} {acc S : List mV} {σ σ' : mS} {rv : Option mV} (hML : MLok ((mrow j).2.2.2.2.1, idx, jc, 1, n)) (hfr0 : (mrow jc).2.2.2.2.2.1 + 1 ≤ (mrow j).2.2.2.2.2.1) (hlo0 : 8 + ((mrow jc).2.2.1 + 11) + (mrow jc).2.2.2.2.2.2 ≤ (mrow j).2.2.2.2.2.2) (hn : acc.length = n) (hwS : swords S ≤ 8)
    (hM : MetJ l D cy ad xs ys XL jc acc σ rv σ') (hd : decode (mrow j).2.1 pc = .ok (.invokestatic idx, 3))
    {p : Program} {e : Env} {R : Room} {s : State} {m : MethodId} {args : Array Value} {below : List Frame} {meth : Method} {c : Code} {H : Heap} {locs : List Loc} {cells slots : Nat} {ls : Array Slot} (C : mCtx D cy ad xs ys XL A j p s m args c) (hfr : (mrow j).2.2.2.2.2.1 ≤ R.frames) (hlo : (mrow j).2.2.2.2.2.2 ≤ R.locals) (hc : cells ≤ R.cells) (hs : slots ≤ R.slots) (hRel : mRel D cy ad xs ys XL σ H) (hSS : va_S A s.heap H locs) (hsz : ls.size = (mrow j).2.2.1) :
    va_Run p l e R s m args below meth c H locs cells slots 0 0 (F0 m pc ls ((acc.map (toV ad)).reverse ++ S.map (toV ad))) (S.map (toV ad)) (mQc D cy ad xs ys XL rv σ' ((acc.map (toV ad)).toArray)) (mA ad) := by
  obtain ⟨hx, hb, hml, hown, hts, hKS, hHS, hT0⟩ := id C
  obtain ⟨m1, m2, m4, ⟨m5, m6, m7⟩, m8, m9⟩ := hML
  dsimp only at m1 m2 m4 m5 m6 m7 m8 m9
  have hdesc : (parseMethodDescriptor (mrow jc).1.desc).map (fun d => d.parameters.length) = some acc.length := by rw [m7, hn]
  have hsum := swords_sum ad S
  rcases m1 with m1 | m1
  · exact va_runS (As := acc.map (toV ad)) (rest := S.map (toV ad)) (n := acc.length) ⟨hx, hb, hml, hown, hts⟩ hM ⟨callB_of acc.length hts (good_mW m8) rfl rfl rfl (hts _ m4) (hts _ m1) ⟨m5, m6, hdesc⟩ ⟨Nat.le_trans hfr0 hfr, Nat.le_trans hlo0 hlo⟩, hts _ m2⟩ ⟨blind_of, fun U hU hW => ⟨rfl, pre_of hF hU hW hRel hKS hHS hSS⟩⟩ rfl (by simp) hsz rfl (by show 2 * 0 + _ ≤ 8; omega) hd ⟨hc, hs⟩
  · exact va_runSN (As := acc.map (toV ad)) (rest := S.map (toV ad)) (n := acc.length) (host := "SharedAir") ⟨hx, hb, hml, hown, hts⟩ hM ⟨va_cnB acc.length hts (good_mW m8) rfl rfl rfl (hKS.2 _ m1 rfl) (hts _ m4) ⟨m5, m6, hdesc⟩ ⟨Nat.le_trans hfr0 hfr, Nat.le_trans hlo0 hlo⟩, hts _ m2, trivial⟩ ⟨blind_of, fun U hU hW => ⟨rfl, pre_of hF hU hW hRel hKS hHS hSS⟩⟩ rfl (by simp) hsz rfl (by show 2 * 0 + _ ≤ 8; omega) hd ⟨hc, hs⟩
def pushR (rv : Option mV) (S : List mV) : List mV := match rv with
  | some v => v :: S
  | none => S
/-- behind a call -/
theorem snd_behind (hF : mFix ad XL A) {pc jc : Nat} {acc S : List mV} {σ σ' : mS} {rv : Option mV} {L : List (Option mV)} {st0 : List mV} {a : Array Value} {r : mR}
    (hrun : ∀ {p : Program} {e : Env} {R : Room} {s : State} {m : MethodId} {args : Array Value} {below : List Frame} {meth : Method} {c : Code} {H : Heap} {locs : List Loc} {cells slots : Nat} {ls : Array Slot}, mCtx D cy ad xs ys XL A j p s m args c → (mrow j).2.2.2.2.2.1 ≤ R.frames → (mrow j).2.2.2.2.2.2 ≤ R.locals → cells ≤ R.cells → slots ≤ R.slots → mRel D cy ad xs ys XL σ H → va_S A s.heap H locs → ls.size = (mrow j).2.2.1 → okS st0 →
      va_Run p l e R s m args below meth c H locs cells slots 0 0 (F0 m pc ls (st0.map (toV ad))) (S.map (toV ad)) (mQc D cy ad xs ys XL rv σ' a) (mA ad))
    (hokS0 : okS st0 → okS S)
    (hn : ∃ S1 : List mV, S1 = pushR rv S ∧ (rv = none ∨ (∃ x, rv = some (.inl x)) ∨ ∃ y, rv = some (.inr (.inl y))) ∧ SndB l D cy ad xs ys XL A b (j, pc + 3, L, S1, σ') r) : SndB l D cy ad xs ys XL A b (j, pc, L, st0, σ) r := by
  intro p e R s m args below meth c C hfr hlo Q H locs cells slots ls hc hs hRel hSS hLR hokL hokS hfin
  have hr := hrun (e := e) (below := below) (meth := meth) C hfr hlo (Nat.le_trans (Nat.le_add_right _ _) hc) (Nat.le_trans (Nat.le_add_right _ _) hs) hRel hSS hLR.1 hokS
  obtain ⟨S1, rfl, hrv, hn⟩ := hn
  rcases hrv with rfl | ⟨x, rfl⟩ | ⟨y, rfl⟩
  · exact va_callv (a := a) hr hSS (fun q _ h => hF.2.2.2.2 q h) (fun q h => hF.2.2.2.2 q h) (fun u t H1 locs1 ht hvm hp hB hz hk hS1 => hn.go C hfr hlo hc hs (by have hB : mRel D cy ad xs ys XL σ' t.heap := hB; rw [ht] at hB; exact hB) hS1 hLR hokL (hokS0 hokS) hfin)
  · refine va_calli (a := a) hr hSS (fun q _ h => hF.2.2.2.2 q h) (fun q h => hF.2.2.2.2 q h) (fun r1 u t H1 locs1 ht hvm hp hB hz hk hS1 => ?_)
    have hp : r1 = x := hp
    subst hp
    exact hn.go C hfr hlo hc hs (by have hB : mRel D cy ad xs ys XL σ' t.heap := hB; rw [ht] at hB; exact hB) hS1 hLR hokL ((hokS0 hokS).cs trivial) hfin
  · refine va_calll (a := a) hr hSS (fun q _ h => hF.2.2.2.2 q h) (fun q h => hF.2.2.2.2 q h) (fun r1 u t H1 locs1 ht hvm hp hB hz hk hS1 => ?_)
    have hp : r1 = y := hp
    subst hp
    exact hn.go C hfr hlo hc hs (by have hB : mRel D cy ad xs ys XL σ' t.heap := hB; rw [ht] at hB; exact hB) hS1 hLR hokL ((hokS0 hokS).cs trivial) hfin
theorem snd_mcall (hF : mFix ad XL A) {Rf : mQ → Option mR} {K : mK} (hCall : CallH l D cy ad xs ys XL Rf) {rest : List mE} {pc idx n jc ml ret k kr : Nat} (hPL : PLs.contains jc = true) (hML : MLok ((mrow j).2.2.2.2.1, idx, jc, k, n)) (hk : (k = 0 ∧ kr < 11 ∧ kr = (mrow jc).2.2.2.2.1 ∧ decode (mrow j).2.1 pc = .ok (.invokevirtual idx, 3)) ∨ (k = 1 ∧ kr = 1000 ∧ decode (mrow j).2.1 pc = .ok (.invokestatic idx, 3)))
    (hml : ml = (mrow jc).2.2.1) (hret : retOk ret (mrow jc).2.2.2.1) (hfr0 : (mrow jc).2.2.2.2.2.1 + 1 ≤ (mrow j).2.2.2.2.2.1) (hlo0 : 8 + (ml + 11) + (mrow jc).2.2.2.2.2.2 ≤ (mrow j).2.2.2.2.2.2) {L : List (Option mV)} {S : List mV} {σ : mS} {r : mR} (hnx : ∀ (L : List (Option mV)) (S : List mV) (σ : mS), K rest L S σ = some r → SndB l D cy ad xs ys XL A b (j, pc + 3, L, S, σ) r)
    (h : mcall Rf K rest [jc, ml, ret] L σ kr n [] S = some r) : SndB l D cy ad xs ys XL A b (j, pc, L, S, σ) r := by
  obtain ⟨bs, S', rfl, hlen, h0⟩ := mcall_inv n [] S r h
  rw [List.append_nil] at h0
  unfold mcall at h0
  cases hb : (Nat.ble (swords S') 8 && Nat.ble (swords bs.reverse) ([jc, ml, ret].getD 1 0) && mrc kr bs.reverse)
  · rw [hb] at h0; cases h0
  · rw [hb] at h0
    simp only [cond_true] at h0
    simp only [Bool.and_eq_true] at hb
    obtain ⟨⟨hw1, hw2⟩, hrc⟩ := hb
    have hw1 : swords S' ≤ 8 := Nat.le_of_ble_eq_true hw1
    have hw2 : swords bs.reverse ≤ (mrow jc).2.2.1 := by rw [← hml]; exact Nat.le_of_ble_eq_true hw2
    have hres : ∃ (rv : Option mV) (σ' : mS), Rf (jc, 0, largs ml bs.reverse, [], σ) = some (some rv, σ') ∧ ∃ S1 : List mV, S1 = pushR rv S' ∧ (rv = none ∨ (∃ x, rv = some (.inl x)) ∨ ∃ y, rv = some (.inr (.inl y))) ∧ SndB l D cy ad xs ys XL A b (j, pc + 3, L, S1, σ') r := by
      rcases hret with ⟨rfl, -⟩ | ⟨rfl, -⟩ | ⟨rfl, -⟩
      · change bdV (Rf (jc, 0, largs ml bs.reverse, [], σ)) (fun σ' => K rest L S' σ') = some r at h0
        unfold bdV at h0
        split at h0
        · rename_i σ' heq
          exact ⟨none, σ', heq, S', rfl, Or.inl rfl, hnx _ _ _ h0⟩
        · cases h0
      · change bdI (Rf (jc, 0, largs ml bs.reverse, [], σ)) (fun x σ' => K rest L (.inl x :: S') σ') = some r at h0
        unfold bdI at h0
        split at h0
        · rename_i x σ' heq
          exact ⟨some (.inl x), σ', heq, .inl x :: S', rfl, Or.inr (Or.inl ⟨x, rfl⟩), hnx _ _ _ h0⟩
        · cases h0
      · change bdL (Rf (jc, 0, largs ml bs.reverse, [], σ)) (fun x σ' => K rest L (.inr (.inl x) :: S') σ') = some r at h0
        unfold bdL at h0
        split at h0
        · rename_i y σ' heq
          exact ⟨some (.inr (.inl y)), σ', heq, .inr (.inl y) :: S', rfl, Or.inr (Or.inr ⟨y, rfl⟩), hnx _ _ _ h0⟩
        · cases h0
    obtain ⟨rv, σ', hRf, hS1⟩ := hres
    rw [hml] at hRf hlo0
    rcases hk with ⟨rfl, hk11, hkr, hd⟩ | ⟨rfl, hkr, hd⟩
    · have hcl : (mrow jc).1.cls = cn (mrow jc).2.2.2.2.1 := hML.2.2.2.2.2.2
      have hacc : ∃ (o : mO) (acc : List mV), bs.reverse = .inr (.inr o) :: acc ∧ o.1 = kr := by
        unfold mrc at hrc
        rw [show Nat.beq kr 1000 = false from Bool.eq_false_iff.mpr (fun q => by have := Nat.eq_of_beq_eq_true q; omega)] at hrc
        simp only [cond_false] at hrc
        split at hrc
        · rename_i o acc heq
          exact ⟨o, acc, heq, Nat.eq_of_beq_eq_true hrc⟩
        · cases hrc
      obtain ⟨o, acc, hacc, hok⟩ := hacc
      have hbs : bs = acc.reverse ++ [.inr (.inr o)] := by
        have := congrArg List.reverse hacc
        simpa using this
      refine snd_behind hF (S := S') (a := (Value.ref (ad o) :: acc.map (toV ad)).toArray) (rv := rv) (σ' := σ') (jc := jc) (acc := acc) ?_ (fun q => (okS_split q).2) hS1
      intro p e R s m args below meth c H locs cells slots ls C hfr hlo hc hs hRel hSS hsz hokS
      have hM := hCall jc bs.reverse σ rv σ' hRf hPL (okS_split hokS).1 hw2 hcl
      rw [hacc] at hM
      have hoR : okR o := (okS_split hokS).1 (.inr (.inr o)) (by rw [hacc]; exact List.mem_cons_self)
      have := run_virt (S := S') hF hML hfr0 hlo0 (by omega) (by omega) (by rw [hbs] at hlen; simpa using hlen) hw1 hoR hM hd (e := e) (below := below) (meth := meth) C hfr hlo hc hs hRel hSS hsz
      rw [hbs]
      simpa [toV] using this
    · have hcl : (mrow jc).1.cls = cn (mrow jc).2.2.2.2.1 := hML.2.2.2.2.2
      refine snd_behind hF (S := S') (a := (bs.reverse.map (toV ad)).toArray) (rv := rv) (σ' := σ') (jc := jc) (acc := bs) ?_ (fun q => (okS_split q).2) hS1
      intro p e R s m args below meth c H locs cells slots ls C hfr hlo hc hs hRel hSS hsz hokS
      have hM := hCall jc bs.reverse σ rv σ' hRf hPL (okS_split hokS).1 hw2 hcl
      have := run_stat (S := S') hF hML hfr0 hlo0 (by simpa using hlen) hw1 hM hd (e := e) (below := below) (meth := meth) C hfr hlo hc hs hRel hSS hsz
      simpa using this
theorem retB_ok {ret : Nat} {t : Option FieldType} (h : retB ret t = true) : retOk ret t := by
  unfold retB at h
  split at h
  · exact Or.inl ⟨rfl, rfl⟩
  · exact Or.inr (Or.inl ⟨rfl, Or.inl rfl⟩)
  · exact Or.inr (Or.inl ⟨rfl, Or.inr rfl⟩)
  · exact Or.inr (Or.inr ⟨rfl, rfl⟩)
  · cases h
theorem eCall_of {own i k fr lo n jc : Nat} {info : List Nat} (h : eCall own i k fr lo (n :: jc :: info) = true) : ∃ ml ret : Nat, info = [ml, ret] ∧ PLs.contains jc = true ∧ MLok (own, i, jc, k, n) ∧ ml = (mrow jc).2.2.1 ∧ retOk ret (mrow jc).2.2.2.1 ∧ (mrow jc).2.2.2.2.2.1 + 1 ≤ fr ∧ 8 + (ml + 11) + (mrow jc).2.2.2.2.2.2 ≤ lo := by
  unfold eCall at h
  split at h
  · rename_i n' jc' ml ret heq
    cases heq
    obtain ⟨h, h5⟩ := (Bool.and_eq_true _ _).mp h
    obtain ⟨h, h4⟩ := (Bool.and_eq_true _ _).mp h
    obtain ⟨h, h3⟩ := (Bool.and_eq_true _ _).mp h
    obtain ⟨h, h2⟩ := (Bool.and_eq_true _ _).mp h
    obtain ⟨h0, h1⟩ := (Bool.and_eq_true _ _).mp h
    exact ⟨ml, ret, rfl, h0, ML_in h1, Nat.eq_of_beq_eq_true h2, retB_ok h3, Nat.le_of_ble_eq_true h4, Nat.le_of_ble_eq_true h5⟩
  · cases h
theorem snd_B {P : List mE → Prop} (hF : mFix ad XL A) {Rf : mQ → Option mR} {K : mK} (hCall : CallH l D cy ad xs ys XL Rf) (hK : KOk l D cy ad xs ys XL A b j P K) {e : mE} {rest : List mE} (hc : P (e :: rest)) (ho : eOk j e = true) {L : List (Option mV)} {S : List mV} {σ : mS} {r : mR} (h : mstepB Rf K e rest L S σ = some r) : SndB l D cy ad xs ys XL A b (j, e.1, L, S, σ) r := by
  obtain ⟨hd, hl, -, hcr⟩ := hK.1 _ _ hc
  obtain ⟨pc, i, len, info, cut⟩ := e
  cases i
  case getfield idx =>
    have hlen : len = 3 := Nat.eq_of_beq_eq_true hl
    subst hlen
    simp only [mstepB] at h
    split at h
    · rename_i o S ci f
      cases hb : Nat.beq o.1 ci
      · rw [hb] at h; cases h
      · rw [hb] at h
        simp only [cond_true] at h
        have ho : FL.contains ((mrow j).2.2.2.2.1, idx, ci, f) = true := ho
        split at h
        · rename_i o' hko
          exact snd_getf hd (FL_in ho) (Nat.eq_of_beq_eq_true hb) (by rw [hko]) (hK.nx hc rfl h)
        · rename_i hko
          exact snd_getf hd (FL_in ho) (Nat.eq_of_beq_eq_true hb) (by rw [hko]) (hK.nx hc rfl h)
    · cases h
  case putfield idx =>
    have hlen : len = 3 := Nat.eq_of_beq_eq_true hl
    subst hlen
    simp only [mstepB] at h
    split at h
    · rename_i x o S ci f
      cases hb : Nat.beq o.1 ci
      · rw [hb] at h; cases h
      · rw [hb] at h
        simp only [cond_true] at h
        have ho : (FL.contains ((mrow j).2.2.2.2.1, idx, ci, f) && !(fT ci f).2.2.2 && decide (fY ci f = .int) && decide (kFld f (ci, 0, 0, 0) = none)) = true := ho
        obtain ⟨ho, h4⟩ := (Bool.and_eq_true _ _).mp ho
        obtain ⟨ho, h3⟩ := (Bool.and_eq_true _ _).mp ho
        obtain ⟨h1, h2⟩ := (Bool.and_eq_true _ _).mp ho
        exact snd_putf hF hd (FL_in h1) (Nat.eq_of_beq_eq_true hb) (by simpa using h2) (of_decide_eq_true h3) rfl rfl (of_decide_eq_true h4) (hK.nx hc rfl h)
    · rename_i x o S ci f z
      cases hb : Nat.beq o.1 ci
      · rw [hb] at h; cases h
      · rw [hb] at h
        simp only [cond_true] at h
        have ho : (FL.contains ((mrow j).2.2.2.2.1, idx, ci, f) && !(fT ci f).2.2.2 && decide (fY ci f = .boolean) && decide (kFld f (ci, 0, 0, 0) = none)) = true := ho
        obtain ⟨ho, h4⟩ := (Bool.and_eq_true _ _).mp ho
        obtain ⟨ho, h3⟩ := (Bool.and_eq_true _ _).mp ho
        obtain ⟨h1, h2⟩ := (Bool.and_eq_true _ _).mp ho
        split at h
        · rename_i hx
          exact snd_putf hF hd (FL_in h1) (Nat.eq_of_beq_eq_true hb) (by simpa using h2) (of_decide_eq_true h3) (by rcases hx with rfl | rfl <;> rfl) (by rcases hx with rfl | rfl <;> rfl) (of_decide_eq_true h4) (hK.nx hc rfl h)
        · cases h
    · cases h
  case getstatic idx =>
    have hlen : len = 3 := Nat.eq_of_beq_eq_true hl
    subst hlen
    simp only [mstepB] at h
    split at h
    · rename_i k
      have ho : (Nat.beq (mrow j).2.2.2.2.1 9 && Nat.beq idx 92 && Nat.beq k 51) = true := ho
      obtain ⟨ho, h3⟩ := (Bool.and_eq_true _ _).mp ho
      obtain ⟨h1, h2⟩ := (Bool.and_eq_true _ _).mp ho
      have hk : k = 51 := Nat.eq_of_beq_eq_true h3
      subst hk
      exact snd_gets (Nat.eq_of_beq_eq_true h1) (Nat.eq_of_beq_eq_true h2) hd (hK.nx hc rfl h)
    · cases h
  case iaload =>
    have hlen : len = 1 := Nat.eq_of_beq_eq_true hl
    subst hlen
    simp only [mstepB] at h
    split at h
    · rename_i i o S
      split at h
      · rename_i n hr
        split at h
        · cases h
        · rename_i hin
          exact snd_rld hr (Or.inl rfl) hin (fun hx hb hK' hP he k' => va_iald hx hb hK' hP _ 0 he rfl (vp_of hin) hd k') (hK.nx hc rfl h)
      · rename_i n hr
        split at h
        · cases h
        · rename_i hin
          exact snd_tld hF hr hin hd (hK.nx hc rfl h)
      · rename_i n hr
        split at h
        · cases h
        · rename_i hin
          exact snd_sld hF hr hin hd (hK.nx hc rfl h)
      · cases h
    · cases h
  case baload =>
    have hlen : len = 1 := Nat.eq_of_beq_eq_true hl
    subst hlen
    simp only [mstepB] at h
    split at h
    · rename_i i o S
      split at h
      · rename_i n hr
        split at h
        · cases h
        · rename_i hin
          exact snd_rld hr (Or.inr (Or.inl rfl)) hin (fun hx hb hK' hP he k' => va_bald hx hb hK' hP _ 1 he rfl (vp_of hin) hd k') (hK.nx hc rfl h)
      · rename_i n hr
        split at h
        · cases h
        · rename_i hin
          exact snd_rld hr (Or.inr (Or.inr rfl)) hin (fun hx hb hK' hP he k' => va_zald hx hb hK' hP _ 2 he rfl (vp_of hin) hd k') (hK.nx hc rfl h)
      · cases h
    · cases h
  case laload =>
    have hlen : len = 1 := Nat.eq_of_beq_eq_true hl
    subst hlen
    simp only [mstepB] at h
    split at h
    · rename_i i o S
      split at h
      · rename_i n hr
        split at h
        · cases h
        · rename_i hin
          exact snd_lld hr hin hd (hK.nx hc rfl h)
      · cases h
    · cases h
  case aaload =>
    have hlen : len = 1 := Nat.eq_of_beq_eq_true hl
    subst hlen
    simp only [mstepB] at h
    split at h
    · rename_i i o S
      split at h
      · rename_i n hr
        split at h
        · cases h
        · rename_i hin
          split at h
          · rename_i o' ho'
            exact snd_ald hr hin ho' hd (hK.nx hc rfl h)
          · cases h
      · cases h
    · cases h
  case iastore =>
    have hlen : len = 1 := Nat.eq_of_beq_eq_true hl
    subst hlen
    simp only [mstepB] at h
    split at h
    · rename_i x i o S
      split at h
      · rename_i n hr
        split at h
        · cases h
        · rename_i hin
          exact snd_rst hF hr (Or.inl rfl) (fun hx hb hK' hP hD hS he k' => va_iast hx hb hK' hP hD hS _ 0 he rfl (vp_of hin) hd (fun H1 l1 h1 _ h3 => k' H1 l1 h1 h3)) (hK.nx hc rfl h)
      · cases h
    · cases h
  case bastore =>
    have hlen : len = 1 := Nat.eq_of_beq_eq_true hl
    subst hlen
    simp only [mstepB] at h
    split at h
    · rename_i x i o S
      split at h
      · rename_i n hr
        split at h
        · cases h
        · rename_i hin
          exact snd_rst hF hr (Or.inr (Or.inl rfl)) (fun hx hb hK' hP hD hS he k' => va_bast hx hb hK' hP hD hS _ 1 he rfl (vp_of hin) hd (fun H1 l1 h1 _ h3 => k' H1 l1 h1 h3)) (hK.nx hc rfl h)
      · rename_i n hr
        split at h
        · cases h
        · rename_i hin
          split at h
          · rename_i hx01
            have hnb : vp_nar .boolean x = x := by rcases hx01 with rfl | rfl <;> rfl
            exact snd_rst hF hr (Or.inr (Or.inr rfl)) (fun hx hb hK' hP hD hS he k' => va_zast hx hb hK' hP hD hS _ 2 he rfl (vp_of hin) hd (fun H1 l1 h1 _ h3 => k' H1 l1 (by rw [hnb] at h1; exact h1) h3)) (hK.nx hc rfl h)
          · cases h
      · cases h
    · cases h
  case lastore =>
    have hlen : len = 1 := Nat.eq_of_beq_eq_true hl
    subst hlen
    simp only [mstepB] at h
    split at h
    · rename_i x i o S
      split at h
      · rename_i n hr
        split at h
        · cases h
        · rename_i hin
          exact snd_lst hF hr hin hd (hK.nx hc rfl h)
      · cases h
    · cases h
  case arraylength =>
    have hlen : len = 1 := Nat.eq_of_beq_eq_true hl
    subst hlen
    simp only [mstepB] at h
    split at h
    · rename_i o S
      split at h
      · rename_i n hr
        exact snd_ilen hr hd (hK.nx hc rfl h)
      · rename_i n hr
        exact snd_slen hF hr hd (hK.nx hc rfl h)
      · cases h
    · cases h
  case invokevirtual idx =>
    have hlen : len = 3 := Nat.eq_of_beq_eq_true hl
    subst hlen
    simp only [mstepB] at h
    split at h
    · rename_i n k info
      cases info with
      | nil => cases ho
      | cons jc info =>
        have ho : (Nat.blt k 11 && Nat.beq k (mrow jc).2.2.2.2.1 && eCall (mrow j).2.2.2.2.1 idx 0 (mrow j).2.2.2.2.2.1 (mrow j).2.2.2.2.2.2 (n :: jc :: info)) = true := ho
        obtain ⟨ho, h3⟩ := (Bool.and_eq_true _ _).mp ho
        obtain ⟨h1, h2⟩ := (Bool.and_eq_true _ _).mp ho
        obtain ⟨ml, ret, rfl, a0, a1, a2, a3, a4, a5⟩ := eCall_of h3
        exact snd_mcall hF hCall a0 a1 (Or.inl ⟨rfl, Nat.le_of_ble_eq_true h1, Nat.eq_of_beq_eq_true h2, hd⟩) a2 a3 a4 a5 (fun L S σ h => hK.nx hc rfl h) h
    · cases h
  case invokestatic idx =>
    have hlen : len = 3 := Nat.eq_of_beq_eq_true hl
    subst hlen
    simp only [mstepB] at h
    split at h
    · have ho : (MM.contains ((mrow j).2.2.2.2.1, idx, 1000) && Nat.ble 1 (mrow j).2.2.2.2.2.1 && Nat.ble 21 (mrow j).2.2.2.2.2.2 && Nat.ble (8 + (nativeFrameWords "java/lang/System" "arraycopy" 5 + 11)) (mrow j).2.2.2.2.2.2) = true := ho
      obtain ⟨ho, h4⟩ := (Bool.and_eq_true _ _).mp ho
      obtain ⟨ho, h3⟩ := (Bool.and_eq_true _ _).mp ho
      obtain ⟨h1, h2⟩ := (Bool.and_eq_true _ _).mp ho
      simp only [ml1] at h
      split at h
      · rename_i y x S
        cases hb : Nat.ble (swords S) 8
        · rw [hb] at h; cases h
        · rw [hb] at h
          exact snd_math (Or.inl rfl) (MM_in h1) (Nat.le_of_ble_eq_true h2) (Nat.le_of_ble_eq_true h3) (Nat.le_of_ble_eq_true hb) hd (hK.nx hc rfl h)
      · cases h
    · have ho : (MM.contains ((mrow j).2.2.2.2.1, idx, 1001) && Nat.ble 1 (mrow j).2.2.2.2.2.1 && Nat.ble 21 (mrow j).2.2.2.2.2.2 && Nat.ble (8 + (nativeFrameWords "java/lang/System" "arraycopy" 5 + 11)) (mrow j).2.2.2.2.2.2) = true := ho
      obtain ⟨ho, h4⟩ := (Bool.and_eq_true _ _).mp ho
      obtain ⟨ho, h3⟩ := (Bool.and_eq_true _ _).mp ho
      obtain ⟨h1, h2⟩ := (Bool.and_eq_true _ _).mp ho
      simp only [ml1] at h
      split at h
      · rename_i y x S
        cases hb : Nat.ble (swords S) 8
        · rw [hb] at h; cases h
        · rw [hb] at h
          exact snd_math (Or.inr rfl) (MM_in h1) (Nat.le_of_ble_eq_true h2) (Nat.le_of_ble_eq_true h3) (Nat.le_of_ble_eq_true hb) hd (hK.nx hc rfl h)
      · cases h
    · have ho : (MM.contains ((mrow j).2.2.2.2.1, idx, 1002) && Nat.ble 1 (mrow j).2.2.2.2.2.1 && Nat.ble 21 (mrow j).2.2.2.2.2.2 && Nat.ble (8 + (nativeFrameWords "java/lang/System" "arraycopy" 5 + 11)) (mrow j).2.2.2.2.2.2) = true := ho
      obtain ⟨ho, h4⟩ := (Bool.and_eq_true _ _).mp ho
      obtain ⟨ho, h3⟩ := (Bool.and_eq_true _ _).mp ho
      obtain ⟨h1, h2⟩ := (Bool.and_eq_true _ _).mp ho
      split at h
      · rename_i nn p2 o2 p1 o1 S
        split at h
        · rename_i n1 n2 hr1 hr2
          cases hb : Nat.ble (swords S) 8
          · rw [hb] at h; cases h
          · rw [hb] at h
            simp only [cond_true] at h
            split at h
            · cases h
            · rename_i hb0
              exact snd_copy hF (MM_in h1) (Nat.le_of_ble_eq_true h2) (Nat.le_of_ble_eq_true h4) (Nat.le_of_ble_eq_true hb) hr1 hr2 hb0 hd (hK.nx hc rfl h)
        · cases h
      · cases h
    · rename_i n info hn1 hn2 hn3
      cases info with
      | nil =>
        obtain ⟨bs, S', -, -, h0⟩ := mcall_inv n [] S r h
        unfold mcall at h0
        cases hb : (Nat.ble (swords S') 8 && Nat.ble (swords (bs.reverse ++ [])) (([] : List Nat).getD 1 0) && mrc 1000 (bs.reverse ++ [])) <;> rw [hb] at h0 <;> cases h0
      | cons jc info =>
        obtain ⟨ml, ret, rfl, a0, a1, a2, a3, a4, a5⟩ := eCall_of (own := (mrow j).2.2.2.2.1) (i := idx) (k := 1) (fr := (mrow j).2.2.2.2.2.1) (lo := (mrow j).2.2.2.2.2.2) (n := n) ho
        exact snd_mcall hF hCall a0 a1 (Or.inr ⟨rfl, rfl, hd⟩) a2 a3 a4 a5 (fun L S σ h => hK.nx hc rfl h) h
    · cases h
  case ireturn =>
    have hlen : len = 1 := Nat.eq_of_beq_eq_true hl
    subst hlen
    simp only [mstepB] at h
    split at h
    · rename_i x
      cases h
      intro p e R s m args below meth c C hfr hlo Q H locs cells slots ls hc hs hRel hSS hLR hokL hokS hfin
      exact hfin H locs cells slots ls _ _ (Nat.le_add_right _ _) (Nat.le_add_right _ _) hRel hSS hLR.1 ⟨hd, rfl, Or.inl (of_decide_eq_true ho)⟩
    · rename_i x hne
      split at h
      · rename_i hx
        cases h
        intro p e R s m args below meth c C hfr hlo Q H locs cells slots ls hc hs hRel hSS hLR hokL hokS hfin
        refine hfin H locs cells slots ls _ _ (Nat.le_add_right _ _) (Nat.le_add_right _ _) hRel hSS hLR.1 ⟨hd, rfl, Or.inr ⟨?_, hx⟩⟩
        cases info with
        | nil => exact absurd rfl hne
        | cons a info => exact of_decide_eq_true ho
      · cases h
    · cases h
  case lreturn =>
    have hlen : len = 1 := Nat.eq_of_beq_eq_true hl
    subst hlen
    simp only [mstepB] at h
    split at h
    · rename_i x
      cases h
      intro p e R s m args below meth c C hfr hlo Q H locs cells slots ls hc hs hRel hSS hLR hokL hokS hfin
      exact hfin H locs cells slots ls _ _ (Nat.le_add_right _ _) (Nat.le_add_right _ _) hRel hSS hLR.1 ⟨hd, rfl, of_decide_eq_true ho⟩
    · cases h
  case return_ =>
    have hlen : len = 1 := Nat.eq_of_beq_eq_true hl
    subst hlen
    simp only [mstepB] at h
    split at h
    · cases h
      intro p e R s m args below meth c C hfr hlo Q H locs cells slots ls hc hs hRel hSS hLR hokL hokS hfin
      exact hfin H locs cells slots ls _ _ (Nat.le_add_right _ _) (Nat.le_add_right _ _) hRel hSS hLR.1 ⟨hd, rfl, of_decide_eq_true ho⟩
    · cases h
  case new idx =>
    have hlen : len = 3 := Nat.eq_of_beq_eq_true hl
    subst hlen
    simp only [mstepB] at h
    split at h
    · cases h
      intro p e R s m args below meth c C hfr hlo Q H locs cells slots ls hc hs hRel hSS hLR hokL hokS hfin
      exact hfin H locs cells slots ls _ _ (Nat.le_add_right _ _) (Nat.le_add_right _ _) hRel hSS hLR.1 ⟨idx, hd, rfl⟩
    · cases h
  all_goals (cases h; done)
theorem goF_ok {P : List mE → Prop} {Rf : mQ → Option mR} {k : mK} (hR : ∀ q r, Rf q = some r → q.1 = j → SndB l D cy ad xs ys XL A b q r) (hK : KOk l D cy ad xs ys XL A b j P k) : KOk l D cy ad xs ys XL A b j P (goF Rf j k) := by
  refine ⟨hK.1, ?_⟩
  intro rest L S σ r hc h
  unfold goF at h
  split at h
  · cases h
  · rename_i e rest'
    split at h
    · exact hK.2 _ L S σ r hc h
    · exact ⟨e, rest', rfl, (hR _ _ h rfl).mask⟩
theorem stepN_ok (hF : mFix ad XL A) {Rf : mQ → Option mR} (hR : ∀ q r, Rf q = some r → q.1 = j → SndB l D cy ad xs ys XL A b q r) (hCall : CallH l D cy ad xs ys XL Rf) : ∀ n, KOk l D cy ad xs ys XL A b j (fun c => cOk j c = true) (stepN Rf j n)
  | 0 => ⟨pOk_c j, fun rest L S σ r hc h => by unfold stepN at h; cases h⟩
  | n + 1 => ⟨pOk_c j, fun rest L S σ r hc h => by
    cases rest with
    | nil => unfold stepN at h; cases h
    | cons e rest =>
      unfold stepN at h
      refine ⟨e, rest, rfl, ?_⟩
      cases hb : mGrp e.2.1
      · rw [hb] at h
        exact snd_A hR (goF_ok hR (stepN_ok hF hR hCall n)) hc (cOk_inv hc).2.2.1 h
      · rw [hb] at h
        exact snd_B hF hCall (goF_ok hR (stepN_ok hF hR hCall n)) hc (cOk_inv hc).2.2.1 h⟩
theorem block_ok (hF : mFix ad XL A) {Rf : mQ → Option mR} {pc : Nat} {L : List (Option mV)} {S : List mV} {σ : mS} {r : mR} (hcj : cOk j (mcode j) = true) (hR : ∀ q r, Rf q = some r → q.1 = j → SndB l D cy ad xs ys XL A b q r) (hCall : CallH l D cy ad xs ys XL Rf) (h : mblockOf mcode Rf (j, pc, L, S, σ) = some r) : SndB l D cy ad xs ys XL A b (j, pc, L, S, σ) r := by
  obtain ⟨e, rest, he, hS⟩ := (stepN_ok hF hR hCall 400).2 _ L S σ r (cOk_drop _ pc hcj) h
  have := dropTo_head _ _ _ _ he
  rw [← this]
  exact hS
/-- what the small machine answers, the machine answers -/
theorem snd_all (hF : mFix ad XL (mA ad)) (hPL : ∀ jc, PLs.contains jc = true → cOk jc (mcode jc) = true) {q : mQ} {r : mR} (h : EvR mcode q r) : cOk q.1 (mcode q.1) = true → SndB l D cy ad xs ys XL (mA ad) 0 q r := by
  refine h (fun q r => cOk q.1 (mcode q.1) = true → SndB l D cy ad xs ys XL (mA ad) 0 q r) ?_
  intro Rf q r hR hb hcj
  obtain ⟨j, pc, L, S, σ⟩ := q
  refine block_ok hF hcj (fun q' r' h' hj => hR q' r' h' (by rw [hj]; exact hcj)) ?_ hb
  intro jc acc σ rv σ' h' hpl hok hw hcl
  exact met_of (fun z => by rw [z] at hpl; exact absurd hpl (by decide +kernel)) (hR _ _ h' (hPL jc hpl)) hcl hok hw
end SE

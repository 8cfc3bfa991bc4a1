/-! Both rows: asking, granting -/
section GR
variable {M x y r n : Nat} {C N P Q O W : Nat → Int32} {f v : Int32} {b : Int32} {pS : Nat → Prop}
theorem IS.mono {N' : Nat → Int32} (h : IS M N) (e : ∀ k, k < 51 → N' k = N k) : IS M N' := by
  obtain ⟨g1, g2, g3, g4, g5, g6⟩ := h
  refine ⟨by rw [e _ (by omega)]; exact g1, g2, fun j hj => ?_, fun u z hu hz => ?_, fun u hu => ?_, fun u z hu hz hm => ?_⟩
  · rw [e _ (by omega)]; exact g3 j hj
  · rw [e _ (by omega), e _ (by omega)]; exact g4 u z hu hz
  · rw [e _ (by omega)]; exact g5 u hu
  · rw [e _ (by omega)]; exact g6 u z hu hz hm
theorem upd_rot {F : Nat → Int32} {k j1 j2 j3 : Nat} {z z1 z2 z3 : Int32} (h1 : k ≠ j1) (h2 : k ≠ j2) (h3 : k ≠ j3) : upd (upd (upd (upd F k z) j1 z1) j2 z2) j3 z3 = upd (upd (upd (upd F j1 z1) j2 z2) j3 z3) k z := by
  rw [upd_c (f := F) h1, upd_c (f := upd F j1 z1) h2, upd_c (f := upd (upd F j1 z1) j2 z2) h3]
theorem Rl.x0f (h : Rl M C N P Q) (hM : M ≤ 6) (hx : x < M) : Rl M (upd (upd C (1179 + 16 * x + 15) f) (1179 + 16 * x) (nI 0)) (upd N (1179 + 16 * x) (nI 0)) P Q := by
  refine h.X hM hx ⟨by rw [upd_e rfl, upd_e rfl], fun h0 => ?_⟩ (fun j hj => ?_) (fun j hj => upd_n (by omega))
  · rw [upd_e rfl] at h0
    exact absurd h0 n01
  · rw [upd_n (by omega), upd_n (by omega)]
theorem nFb0_n {ans : Prop} {k : Nat} (hx : x < 6) (h : k < 1179 ∨ (1179 + 16 * x < k ∧ k < 1275) ∨ (1179 ≤ k ∧ k < 1179 + 16 * x)) : nFb0 N x y ans k = N k := by
  unfold nFb0
  rw [upd_n (by omega), upd_n (by omega), upd_n (by omega), upd_n (by omega), upd_n (by omega), upd_n (by omega)]
theorem j_failEx {a : Nat} {ans : Prop} (hI : IS M N) (hR : Rl M C N P Q) (hx : x < M) (hr : r < 4) (hn : n < 8) (hN : N (147 + (4 * x + r)) = nI (n + 1)) (hw : ∃ w, w ≤ 63 ∧ N (1131 + (4 * x + r)) = nI w) (hon : N (1179 + 16 * x) = nI 1) (hyN : N (1179 + 16 * x + 1) = nI y) (hrN : N (1179 + 16 * x + 2) = nI r)
    (hf : f = if 0 < N (1179 + 16 * x + 15) then N (1179 + 16 * x + 15) else @ite _ ans (Classical.propDecidable _) (nI 7) (nI 4)) :
    ∃ C', (∀ σ, e_X0_failExchange a (nI x) a x (wC a σ (upd C (1179 + 16 * x + 15) f)) = some (some none, wC a σ C')) ∧ Rl M C' (nFails (nFb0 N x y ans) x r n) P Q := by
  have hM := hI.2.1
  obtain ⟨e1, e2, -⟩ := (hR.ex hx).2 hon
  have hA : Rl M (upd (upd (upd (upd (upd (upd C (1179 + 16 * x + 15) f) (1179 + 16 * x) (nI 0)) (1342 + 3 * x) f) (1342 + 3 * x + 1) (N 1)) (1342 + 3 * x + 2) (nI y)) (1275 + 9 * x + 4) (N (1275 + 9 * x + 4) + nI 1)) (nFb0 N x y ans) P Q := by
    unfold nFb0
    rw [← hf]
    exact (((((hR.x0f hM hx).u hM (Or.inr (Or.inr (Or.inr (by omega))))).u hM (Or.inr (Or.inr (Or.inr (by omega))))).u hM (Or.inr (Or.inr (Or.inr (by omega))))).u hM (Or.inr (Or.inr (Or.inr (by omega))))).uN hM (by omega)
  have hq : ∀ j, j < 1179 → nFb0 N x y ans j = N j := fun j hj => nFb0_n (by omega) (Or.inl hj)
  obtain ⟨⟨C', c1, c2⟩, -, -⟩ := j_fail (a := a) (hI.mono fun k hk => hq k (by omega)) hA hx hr hn (by rw [hq _ (by omega)]; exact hN) (by rw [hq _ (by omega)]; exact hw)
  refine ⟨C', fun σ => ?_, c2⟩
  rw [q_X0_failExchange]
  simp (disch := omega) only [z01, if_true, nI_clamp, ck2, if_false, sC_on, rC_tally, sC_tally, rC_failure, sC_hfail, rC_time, sC_hfailSlot, rC_with, sC_hfailWith, rC_ofRank, upd_e, upd_n]
  rw [hR.pl (pd_ty hM hx (by omega)), hR.pl (pd_lo (k := 1) (by omega)), e1, e2, hyN, hrN]
  rw [upd_rot (by omega) (by omega) (by omega), c1]
  rfl
theorem j_ask_tail {a : Nat} {P1 Q1 C1 : Nat → Int32} (hI : IS M N) (hR : Rl M C1 (upd N (1179 + 16 * x + 15) v) P1 Q1) (hb : b = bv pS M) (hNb : N 1329 = b) (hx : x < M) (hon : N (1179 + 16 * x) = nI 1) (hph : N (1179 + 16 * x + 4) = nI 0) :
    ∃ C', (∀ σ, bdV (e_X0_spread a (nI x) (nI y) (nI x) (nI 0) (C1 (1179 + 16 * x + 10)) (wC a σ C1)) (fun σ4 => some (some none, st σ4 (2, a, x, 0) 5 (nI 1))) = some (some none, wC a σ C')) ∧ Rl M C' (upd (nSpans b M x (nI y) (N (1179 + 16 * x + 10)) x M 0 (upd N (1179 + 16 * x + 15) v)) (1179 + 16 * x + 4) (nI 1)) P1 Q1 := by
  have hM := hI.2.1
  have hon1 : upd N (1179 + 16 * x + 15) v (1179 + 16 * x) = nI 1 := by rw [upd_n (by omega)]; exact hon
  obtain ⟨e1, e2, e3, e4, e5, e6, e7, e8, e9, e10, e11, e12⟩ := (hR.ex hx).2 hon1
  obtain ⟨C2, c1, c2, c3⟩ := j_spread (a := a) (but := nI y) (e := N (1179 + 16 * x + 10)) (stp := nI 0) hb hx hx (hI.mono fun k hk => upd_n (by omega)) hR (by rw [hR.pl (pd_hi (by omega)), upd_n (by omega)]; exact hNb) (by rw [upd_n (by omega)]; exact hph)
  refine ⟨upd C2 (1179 + 16 * x + 4) (nI 1), fun σ => ?_, ?_⟩
  · rw [e7, upd_n (by omega), c1]
    dsimp only [bdV]
    rw [sC_step (by omega)]
  · have hg : ∀ k, ¬ spc k → nSpans b M x (nI y) (N (1179 + 16 * x + 10)) x M 0 (upd N (1179 + 16 * x + 15) v) k = upd N (1179 + 16 * x + 15) v k := fun k hk => nSpans_n hM (by omega) hk (by omega)
    refine c2.xp hM hx (fun q => absurd q (by decide)) (fun _ => ?_)
    rw [c3 _ (by unfold spc; omega), hg _ (by unfold spc; omega)]
    refine e10 ?_
    rw [upd_n (by omega), hph]
    decide
theorem m_ask_tail {σ : mS} (hI : IS M N) (hx : x < M) (hy : y < M) (hv : v ≠ 0) : b_X10_stepSender_105 (nI x) (nI (1179 + 16 * x)) (nI y) (nI (1179 + 16 * x + 15)) v (wM σ N O W b) = some (some none, wM σ (upd (nSpans b M x (nI y) (N (1179 + 16 * x + 10)) x M 0 (upd N (1179 + 16 * x + 15) v)) (1179 + 16 * x + 4) (nI 1)) O W b) := by
  have hM := hI.2.1
  rw [q_X10_stepSender_105]
  simp (disch := omega) only [nI_add, nI_clamp, ck2, if_false, wM_N, wM_stN, upd_e, upd_n]
  rw [if_neg hv, m_spans hM (by rw [upd_n (by omega)]; exact hI.1) (by omega) (by omega)]
  dsimp only [bdV]
  rw [wM_stN]
theorem m_ask_tail0 {σ : mS} (hI : IS M N) (hx : x < M) (hy : y < M) : b_X10_stepSender_105 (nI x) (nI (1179 + 16 * x)) (nI y) (nI (1179 + 16 * x + 15)) (nI 0) (wM σ N O W b) = some (some none, wM σ (upd (nSpans b M x (nI y) (N (1179 + 16 * x + 10)) x M 0 (upd N (1179 + 16 * x + 15) (nI 0))) (1179 + 16 * x + 4) (nI 1)) (upd O y (nI x)) (upd W y (nI 1)) b) := by
  have hM := hI.2.1
  rw [q_X10_stepSender_105]
  simp (disch := omega) only [nI_add, nI_clamp, ck2, if_false, wM_N, wM_stN, upd_e, upd_n]
  rw [if_pos n00, m_owes (by omega)]
  dsimp only [bdV]
  simp (disch := omega) only [wM_N, upd_n]
  rw [m_spans hM (by rw [upd_n (by omega)]; exact hI.1) (by omega) (by omega)]
  dsimp only
  rw [wM_stN]
/-- what asking comes to -/
def AskTo (b : Int32) (M x y : Nat) (N O W P Q N' O' W' P' Q' : Nat → Int32) : Prop :=
  (∀ k, ¬ spc k → k ≠ 1179 + 16 * x + 4 → k ≠ 1179 + 16 * x + 15 → N' k = N k) ∧ N' (1179 + 16 * x + 4) = nI 1 ∧
  ((clr N b M y x ∧ N (1179 + 16 * y) = 0 ∧ N (135 + y) = -1 ∧ O y = -1 ∧ N' (1179 + 16 * x + 15) = nI 0 ∧ O' = upd O y (nI x) ∧ W' = upd W y (nI 1) ∧ P' = upd P y (nI x) ∧ Q' = upd Q y (nI 1)) ∨ (0 < N' (1179 + 16 * x + 15) ∧ O' = O ∧ W' = W ∧ P' = P ∧ Q' = Q))
theorem ask_to (hM : M ≤ 6) (hx : x < M) : (∀ k, ¬ spc k → k ≠ 1179 + 16 * x + 4 → k ≠ 1179 + 16 * x + 15 → upd (nSpans b M x (nI y) (N (1179 + 16 * x + 10)) x M 0 (upd N (1179 + 16 * x + 15) v)) (1179 + 16 * x + 4) (nI 1) k = N k) ∧ upd (nSpans b M x (nI y) (N (1179 + 16 * x + 10)) x M 0 (upd N (1179 + 16 * x + 15) v)) (1179 + 16 * x + 4) (nI 1) (1179 + 16 * x + 4) = nI 1 ∧ upd (nSpans b M x (nI y) (N (1179 + 16 * x + 10)) x M 0 (upd N (1179 + 16 * x + 15) v)) (1179 + 16 * x + 4) (nI 1) (1179 + 16 * x + 15) = v := by
  refine ⟨fun k h1 h2 h3 => ?_, upd_e rfl, ?_⟩
  · rw [upd_n h2, nSpans_n hM (by omega) h1 (by omega), upd_n h3]
  · rw [upd_n (by omega), nSpans_n hM (by omega) (by unfold spc; omega) (by omega), upd_e rfl]
theorem j_ask {a : Nat} (hI : IS M N) (hR : Rl M C N P Q) (hb : b = bv pS M) (hNb : N 1329 = b) (hx : x < M) (hy : y < M) (hon : N (1179 + 16 * x) = nI 1) (hyN : N (1179 + 16 * x + 1) = nI y) (hph : N (1179 + 16 * x + 4) = nI 0) (hr0 : N (1179 + 16 * x + 15) = nI 0)
    (hfree : clr N b M y x → ((N (1179 + 16 * y) = 0 ∧ Q y = 0) ↔ (N (1179 + 16 * y) = 0 ∧ N (135 + y) = -1 ∧ O y = -1))) :
    ∃ C' N' O' W' P' Q', (∀ σ, e_X0_goAsk a (nI x) (nI y) a x (wC a σ C) = some (some none, wC a σ C')) ∧ (∀ σ, e_X10_stepSender (nI x) (wM σ N O W b) = some (some none, wM σ N' O' W' b)) ∧ Rl M C' N' P' Q' ∧ AskTo b M x y N O W P Q N' O' W' P' Q' := by
  have hM := hI.2.1
  have hC : C 1329 = b := by rw [hR.pl (pd_hi (by omega))]; exact hNb
  have hRv : ∀ v, Rl M (upd C (1179 + 16 * x + 15) v) (upd N (1179 + 16 * x + 15) v) P Q := fun v => hR.xs hM hx (by omega)
  have pos : ∀ k, k < 8 → 0 < k → (0 < nI k ∧ nI k ≠ 0) := by decide
  have cl : ∀ (σ : mS) (v : Int32) (C' : Nat → Int32), (∀ σ, bdV (e_X0_spread a (nI x) (nI y) (nI x) (nI 0) (upd C (1179 + 16 * x + 15) v (1179 + 16 * x + 10)) (wC a σ (upd C (1179 + 16 * x + 15) v))) (fun σ4 => some (some none, st σ4 (2, a, x, 0) 5 (nI 1))) = some (some none, wC a σ C')) → (let σ3 := st (wC a σ C) (2, a, x, 0) 9 v
    bdV (e_X0_spread a (nI x) (nI y) (nI x) (nI 0) (σ3.1 (2, a, x, 0) 8) σ3) (fun σ4 => let σ5 := st σ4 (2, a, x, 0) 5 (nI 1)
      some (some none, σ5))) = some (some none, wC a σ C') := by
    intro σ v C' h
    dsimp only
    rw [sC_failure (by omega), rC_end (by omega)]
    exact h σ
  have me : ∀ σ, e_X10_stepSender (nI x) (wM σ N O W b) = (bdI (e_X10_isClear (nI y) (nI x) (wM σ N O W b)) (fun v4 σ3 =>
    if v4 = 0 then (
      b_X10_stepSender_105 (nI x) (nI (1179 + 16 * x)) (nI y) (nI (1179 + 16 * x + 15)) (nI 1) σ3)
    else (
      bdI (e_X10_isFree (nI y) σ3) (fun v6 σ5 =>
      if v6 = 0 then (
        b_X10_stepSender_105 (nI x) (nI (1179 + 16 * x)) (nI y) (nI (1179 + 16 * x + 15)) (nI 2) σ5)
      else (
        if nI 1 < 0 ∨ 1432 ≤ (nI 1).toNatClampNeg then none else (
        if (nI 129) + (nI y) < 0 ∨ 1432 ≤ ((nI 129) + (nI y)).toNatClampNeg then none else (
        if σ5.1 (30, 0, 0, 0) ((nI 1).toNatClampNeg) < σ5.1 (30, 0, 0, 0) (((nI 129) + (nI y)).toNatClampNeg) then (
          b_X10_stepSender_105 (nI x) (nI (1179 + 16 * x)) (nI y) (nI (1179 + 16 * x + 15)) (nI 3) σ5)
        else (
          b_X10_stepSender_105 (nI x) (nI (1179 + 16 * x)) (nI y) (nI (1179 + 16 * x + 15)) (nI 0) σ5)))))))) := by
    intro σ
    rw [q_X10_stepSender, m_exAt]
    dsimp only [bdI]
    rw [nI_add, nI_add, nI_add, nI_clamp (by omega), nI_clamp (by omega), if_neg (ckn (by omega) (by omega)), if_neg (ckn (by omega) (by omega)), wM_N, wM_N, if_pos hph, hyN]
  by_cases k1 : clr N b M y x
  · by_cases k2 : N (1179 + 16 * y) = 0 ∧ N (135 + y) = -1 ∧ O y = -1
    · by_cases k3 : N 1 < N (129 + y)
      · obtain ⟨C', c1, c2⟩ := j_ask_tail (a := a) (y := y) hI (hRv (nI 3)) hb hNb hx hon hph
        obtain ⟨t1, t2, t3⟩ := ask_to (b := b) (N := N) (y := y) (v := nI 3) hM hx
        refine ⟨C', _, O, W, P, Q, fun σ => ?_, fun σ => ?_, c2, t1, t2, Or.inr ⟨by rw [t3]; exact (pos 3 (by omega) (by omega)).1, rfl, rfl, rfl, rfl⟩⟩
        · rw [q_X0_goAsk, c_isClr hI hR.2.1 hb hC hy hx]
          dsimp only [bdI]
          rw [if_bI k1, nI_clamp (by omega), if_neg (ckn (by omega) (by omega)), c_isFree (by omega)]
          dsimp only
          rw [if_bI (by rw [hR.on hy, (hR.2.2.2.2 y hy).2]; exact (hfree k1).mpr k2), if_neg (ckn (by omega) (by omega)), rC_time, rC_span (by omega), hR.pl (pd_lo (k := 1) (by omega)), hR.pl (pd_sp hM hy), if_pos k3]
          exact cl σ (nI 3) C' c1
        · rw [me, m_isClear hM hI.1 (by omega) (by omega)]
          dsimp only [bdI]
          rw [if_bI k1, m_isFree (by omega)]
          dsimp only
          rw [if_bI k2]
          simp (disch := omega) only [nI_add, nI_clamp, ck2, if_false, wM_N]
          rw [if_pos k3, m_ask_tail hI hx hy (pos 3 (by omega) (by omega)).2]
      · have hr1 : Rl M (upd (upd C (135 + y) (nI x)) (141 + y) (nI 1)) (upd N (1179 + 16 * x + 15) (nI 0)) (upd P y (nI x)) (upd Q y (nI 1)) := by
          rw [← hr0, upd_id]
          exact hR.D2 hM hy
        obtain ⟨C', c1, c2⟩ := j_ask_tail (a := a) (y := y) hI hr1 hb hNb hx hon hph
        obtain ⟨t1, t2, t3⟩ := ask_to (b := b) (N := N) (y := y) (v := nI 0) hM hx
        refine ⟨C', _, upd O y (nI x), upd W y (nI 1), upd P y (nI x), upd Q y (nI 1), fun σ => ?_, fun σ => ?_, c2, t1, t2, Or.inl ⟨k1, k2.1, k2.2.1, k2.2.2, t3, rfl, rfl, rfl, rfl⟩⟩
        · rw [q_X0_goAsk, c_isClr hI hR.2.1 hb hC hy hx]
          dsimp only [bdI]
          rw [if_bI k1, nI_clamp (by omega), if_neg (ckn (by omega) (by omega)), c_isFree (by omega)]
          dsimp only
          rw [if_bI (by rw [hR.on hy, (hR.2.2.2.2 y hy).2]; exact (hfree k1).mpr k2), if_neg (ckn (by omega) (by omega)), rC_time, rC_span (by omega), hR.pl (pd_lo (k := 1) (by omega)), hR.pl (pd_sp hM hy), if_neg k3, if_neg (ckn (by omega) (by omega)), c_setOwing (by omega)]
          dsimp only [bdV]
          rw [rC_end (by omega)]
          exact c1 σ
        · rw [me, m_isClear hM hI.1 (by omega) (by omega)]
          dsimp only [bdI]
          rw [if_bI k1, m_isFree (by omega)]
          dsimp only
          rw [if_bI k2]
          simp (disch := omega) only [nI_add, nI_clamp, ck2, if_false, wM_N]
          rw [if_neg k3, m_ask_tail0 hI hx hy]
    · obtain ⟨C', c1, c2⟩ := j_ask_tail (a := a) (y := y) hI (hRv (nI 2)) hb hNb hx hon hph
      obtain ⟨t1, t2, t3⟩ := ask_to (b := b) (N := N) (y := y) (v := nI 2) hM hx
      refine ⟨C', _, O, W, P, Q, fun σ => ?_, fun σ => ?_, c2, t1, t2, Or.inr ⟨by rw [t3]; exact (pos 2 (by omega) (by omega)).1, rfl, rfl, rfl, rfl⟩⟩
      · rw [q_X0_goAsk, c_isClr hI hR.2.1 hb hC hy hx]
        dsimp only [bdI]
        rw [if_bI k1, nI_clamp (by omega), if_neg (ckn (by omega) (by omega)), c_isFree (by omega)]
        dsimp only
        rw [if_nbI (by rw [hR.on hy, (hR.2.2.2.2 y hy).2]; exact fun q => k2 ((hfree k1).mp q))]
        exact cl σ (nI 2) C' c1
      · rw [me, m_isClear hM hI.1 (by omega) (by omega)]
        dsimp only [bdI]
        rw [if_bI k1, m_isFree (by omega)]
        dsimp only
        rw [if_nbI k2, m_ask_tail hI hx hy (pos 2 (by omega) (by omega)).2]
  · obtain ⟨C', c1, c2⟩ := j_ask_tail (a := a) (y := y) hI (hRv (nI 1)) hb hNb hx hon hph
    obtain ⟨t1, t2, t3⟩ := ask_to (b := b) (N := N) (y := y) (v := nI 1) hM hx
    refine ⟨C', _, O, W, P, Q, fun σ => ?_, fun σ => ?_, c2, t1, t2, Or.inr ⟨by rw [t3]; exact (pos 1 (by omega) (by omega)).1, rfl, rfl, rfl, rfl⟩⟩
    · rw [q_X0_goAsk, c_isClr hI hR.2.1 hb hC hy hx]
      dsimp only [bdI]
      rw [if_nbI k1]
      exact cl σ (nI 1) C' c1
    · rw [me, m_isClear hM hI.1 (by omega) (by omega)]
      dsimp only [bdI]
      rw [if_nbI k1, m_ask_tail hI hx hy (pos 1 (by omega) (by omega)).2]
end GR

/-! A day, read and done by both -/
section DP
variable {M K K' s z r i n m k a b x y t h w lo hi j u L : Nat} {σ τ σ' σ1 σ2 : mS} {C N F F' G O W : Nat → Int32} {o : mO} {v p p1 p2 wr : Int32} {T P : Nat → Nat}
theorem alen_pos : 1 ≤ alen T j := by
  unfold alen
  split
  · omega
  · split <;> omega
theorem okA_le (h : okA n T j) : j + alen T j ≤ n := by
  obtain ⟨h1, h2 | ⟨h2, h3, h4⟩ | ⟨h2, h3, h4, h5, h6⟩⟩ := h
  · unfold alen
    rw [if_neg (by omega), if_neg (by omega)]
    omega
  · unfold alen
    rw [if_neg (by omega), if_pos h2]
    have := h4.1
    omega
  · unfold alen
    rw [if_pos h2]
    have := h6.1
    omega
/-- what a day's reading comes to -/
def DR (n : Nat) (T : Nat → Nat) (i j : Nat) : Prop :=
  (∃ p, p < 2 ^ 30 ∧ (∀ σ, TC σ n T → b_X9_faultInDay_4 (nI j) (nI i) σ = some (some (some (.inl (nI p))), σ)) ∧ ∀ τ F, TX τ n T → ∃ j' F', b_X10_day_11 (nI i) (rd (sF τ (37, 0, 0, 0) F) j (-1)) = some (some (some (.inl ((-1) - nI p))), rd (sF τ (37, 0, 0, 0) F') j' (nI p))) ∨
  (∃ (A : Nat) (P : Nat → Nat), (∀ σ, TC σ n T → b_X9_faultInDay_4 (nI j) (nI i) σ = some (some (some (.inl (-1))), σ)) ∧ (∀ τ F, TX τ n T → ∃ F', b_X10_day_11 (nI i) (rd (sF τ (37, 0, 0, 0) F) j (-1)) = b_X10_day_58 (nI A) (nI 0) (rd (sF τ (37, 0, 0, 0) F') n (-1)) ∧ (∀ k, k < 5 * i → F' k = F k) ∧ ∀ k, i ≤ k → k < A → AC F' T k (P k)) ∧ i ≤ A ∧ A + j ≤ n + i ∧ P i = j ∧ P A = n ∧ ∀ k, i ≤ k → k < A → okA n T (P k) ∧ P (k + 1) = P k + alen T (P k))
theorem m_day_w (h : wr ≠ -1) : b_X10_day_11 p1 (rd τ j wr) = some (some (some (.inl ((-1) - wr))), rd τ j wr) := by
  rw [q_X10_day_11, m_fine]
  dsimp only [bdI]
  rw [if_nbI h, m_right_f h]
  dsimp only
  rw [if_pos n00, rd_wr]
theorem AC.cong (h : AC F T i j) (e : ∀ k, k < 5 * (i + 1) → F' k = F k) : AC F' T i j := by
  obtain ⟨h1, h2, h3⟩ := h
  refine ⟨(e _ (by omega)).trans h1, fun q => (e _ (by omega)).trans (h2 q), fun q => ?_⟩
  obtain ⟨a1, a2, a3, a4⟩ := h3 q
  exact ⟨(e _ (by omega)).trans a1, (e _ (by omega)).trans a2, (e _ (by omega)).trans a3, (e _ (by omega)).trans a4⟩
theorem j_parse (hn : n ≤ 80) : ∀ d j i, n ≤ j + d → j ≤ n → i ≤ j → DR n T i j
  | d, j, i, hd, hj, hi => by
    by_cases h : j < n
    · rcases j_act1 (T := T) (i := i) hn h (by omega) with ⟨ok, c1, r1⟩ | ⟨p, hp, c1, r1⟩
      · have hl := okA_le ok
        have hp := alen_pos (T := T) (j := j)
        have cs : ∀ σ, TC σ n T → b_X9_faultInDay_4 (nI j) (nI i) σ = b_X9_faultInDay_4 (nI (j + alen T j)) (nI (i + 1)) σ := fun σ hT => by
          rw [q_X9_faultInDay_4, if_pos (nI_lt (by omega) (by omega)), hT.1, if_pos (nI_lt h (by omega)), c1 σ hT]
          dsimp only [bdI]
          rw [if_pos (by decide), c_len hT hn h]
          dsimp only
          rw [nI_add, nI_1]
        have rs : ∀ τ F, TX τ n T → ∃ F', b_X10_day_11 (nI i) (rd (sF τ (37, 0, 0, 0) F) j (-1)) = b_X10_day_11 (nI (i + 1)) (rd (sF τ (37, 0, 0, 0) F') (j + alen T j) (-1)) ∧ AC F' T i j ∧ ∀ k, k < 5 * i → F' k = F k := fun τ F hX => by
          obtain ⟨F', e1, e2, e3⟩ := r1 τ F hX
          refine ⟨F', ?_, e2, e3⟩
          rw [q_X10_day_11, m_fine]
          dsimp only [bdI]
          rw [if_bI rfl, rd_at, rd_10 (by decide) (by decide), hX.sF.1, if_pos (nI_lt h (by omega)), pk_mul, e1]
          dsimp only [bdV]
          rw [nI_1]
        rcases j_parse hn (d - 1) (j + alen T j) (i + 1) (by omega) (by omega) (by omega) with ⟨p, hp', c2, r2⟩ | ⟨A, P, c2, r2, q1, q2, q3, q4, q5⟩
        · refine Or.inl ⟨p, hp', fun σ hT => (cs σ hT).trans (c2 σ hT), fun τ F hX => ?_⟩
          obtain ⟨F1, e1, -, -⟩ := rs τ F hX
          obtain ⟨j', F', e2⟩ := r2 τ F1 hX
          exact ⟨j', F', e1.trans e2⟩
        · have hP : ∀ k, i + 1 ≤ k → (if k = i then j else P k) = P k := fun k hk => if_neg (by omega)
          refine Or.inr ⟨A, fun k => if k = i then j else P k, fun σ hT => (cs σ hT).trans (c2 σ hT), fun τ F hX => ?_, by omega, by omega, if_pos rfl, (hP A q1).trans q4, fun k hk hA => ?_⟩
          · obtain ⟨F1, e1, e2, e3⟩ := rs τ F hX
            obtain ⟨F', e4, e5, e6⟩ := r2 τ F1 hX
            refine ⟨F', e1.trans e4, fun k hk => (e5 k (by omega)).trans (e3 k hk), fun k hk hA => ?_⟩
            dsimp only
            by_cases e : k = i
            · rw [if_pos e, e]
              exact e2.cong e5
            · rw [if_neg e]
              exact e6 k (by omega) hA
          · dsimp only
            by_cases e : k = i
            · rw [if_pos e, hP (k + 1) (by omega), e, q3]
              exact ⟨ok, rfl⟩
            · rw [if_neg e, hP (k + 1) (by omega)]
              exact q5 k (by omega) hA
      · refine Or.inl ⟨p, hp, fun σ hT => ?_, fun τ F hX => ?_⟩
        · rw [q_X9_faultInDay_4, if_pos (nI_lt (by omega) (by omega)), hT.1, if_pos (nI_lt h (by omega)), c1 σ hT]
          dsimp only [bdI]
          rw [if_neg (nI_pos (by omega))]
        · obtain ⟨j', F', e1⟩ := r1 τ F hX
          refine ⟨j', F', ?_⟩
          rw [q_X10_day_11, m_fine]
          dsimp only [bdI]
          rw [if_bI rfl, rd_at, rd_10 (by decide) (by decide), hX.sF.1, if_pos (nI_lt h (by omega)), pk_mul, e1]
          dsimp only [bdV]
          rw [m_day_w (wrn hp)]
    · have e : j = n := by omega
      subst e
      refine Or.inr ⟨i, fun _ => j, fun σ hT => ?_, fun τ F hX => ⟨F, ?_, fun _ _ => rfl, fun k h1 h2 => by omega⟩, Nat.le_refl _, by omega, rfl, rfl, fun k h1 h2 => by omega⟩
      · rw [q_X9_faultInDay_4, hT.1, if_neg (nI_nlt (Nat.le_refl _) (by omega))]
        split <;> rfl
      · rw [q_X10_day_11, m_fine]
        dsimp only [bdI]
        rw [if_bI rfl, rd_at, rd_10 (by decide) (by decide), hX.sF.1, if_neg (nI_nlt (Nat.le_refl _) (by omega)), m_right_t hX.sF hn]
        dsimp only
        rw [if_neg n10]
termination_by d j => n - j
theorem TC.wC (h : TC σ n T) : TC (wC a σ C) n T := ⟨by rw [wC_same (by unfold aK; simp)]; exact h.1, by rw [wC_same (by unfold aK; simp)]; exact h.2⟩
theorem c_78_from (hn : n < 2 ^ 31) : ∀ d i, i + d = n → ∀ σ, b_X9_doAct_78 (nI n) (nI i) σ = bdV (rep (e_X0_passSlot 0) d σ) (fun σ => some (some (some (.inl (nI 1))), σ))
  | 0, i, hi => fun σ => by
    rw [show i = n from by omega, q_X9_doAct_78, if_neg (nI_nlt (by omega) (by omega)), if_pos o1]
    rfl
  | d + 1, i, hi => fun σ => by
    rw [q_X9_doAct_78, if_pos (nI_lt (by omega) (by omega)), nI_1]
    show _ = bdV (bdV (e_X0_passSlot 0 σ) (rep (e_X0_passSlot 0) d)) _
    rw [← bdV_as]
    congr 1
    funext σ1
    exact c_78_from hn d (i + 1) (by omega) σ1
/-- one act done, by both -/
def E1 (K n : Nat) (T : Nat → Nat) (i j : Nat) (C N O W : Nat → Int32) (b : Int32) : Prop := ∃ (r : Nat) (C' N' O' W' : Nat → Int32) (b' : Int32), (r = 0 ∨ r = 1) ∧ (∀ σ, TC σ n T → e_X9_doAct (nI j) (wC 0 σ C) = some (some (some (.inl (nI r))), wC 0 σ C')) ∧ (∀ τ : mS, AC (τ.1 (37, 0, 0, 0)) T i j → e_X10_act (nI (5 * i)) (wM τ N O W b) = some (some (some (.inl (nI r))), wM τ N' O' W' b')) ∧ PR (K + 20 * alen T j) C' N'
theorem wM_37 {b : Int32} : (wM τ N O W b).1 (37, 0, 0, 0) = τ.1 (37, 0, 0, 0) := wM_same (by decide)
theorem j_do {b : Int32} (hn : n ≤ 80) (hi : i < 80) (ok : okA n T j) (hP : PR K C N) (hK : K + 20 * alen T j < 2 ^ 24) : E1 K n T i j C N O W b := by
  have hP' := hP
  obtain ⟨M, hV, hR⟩ := hP'
  have hM := hV.1.2.1
  obtain ⟨hj, h1 | ⟨h1, h3, h4⟩ | ⟨h1, h3, h4, h5, h6⟩⟩ := ok
  · obtain ⟨C', N', c, s1, s2, s3, s4⟩ := j_draws (a := 0) hV hR
    refine ⟨1, C', N', O, W, b, Or.inr rfl, fun σ hT => ?_, fun τ ac => ?_, PR.le ⟨M, s3, s4⟩ (by omega) hK⟩
    · rw [q_X9_doAct, c_at hT.wC hn hj, h1]
      dsimp only [bdI]
      rw [if_pos rfl, s1]
      dsimp only
      rw [if_pos o1]
    · rw [q_X10_act, wM_37, nI_clamp (n := 5 * i) (by omega), ac.1, h1, if_neg (ckn (by omega) (by omega)), if_pos rfl, s2 _ wM_30, wM_30F]
      dsimp only [bdI]
      rw [if_pos o1]
  · have al : alen T j = 3 := by unfold alen; rw [if_neg (by omega), if_pos h1]
    have b3 := h3.2.2
    have b4 := h4.2.2
    have cs : ∀ σ, TC σ n T → e_X9_doAct (nI j) (wC 0 σ C) = if nI (10 * (T (j + 1) - 48) + (T (j + 2) - 48)) < nI 1 then some (some (some (.inl (nI 0))), wC 0 σ C) else if nI 60 < nI (10 * (T (j + 1) - 48) + (T (j + 2) - 48)) then some (some (some (.inl (nI 0))), wC 0 σ C) else b_X9_doAct_78 (nI (10 * (T (j + 1) - 48) + (T (j + 2) - 48))) (nI 0) (wC 0 σ C) := fun σ hT => by
      rw [q_X9_doAct, c_at hT.wC hn hj, h1]
      dsimp only [bdI]
      rw [if_neg (by decide), if_pos rfl, nI_add, nI_add, c_dig_t (lo := 0) (hi := 9) hT.wC hn (by omega) (by omega) h3]
      dsimp only
      rw [c_dig_t (lo := 0) (hi := 9) hT.wC hn (by omega) (by omega) h4]
      dsimp only
      rw [pk_mul, nI_add, if_pos z1]
    have rr : ∀ τ : mS, AC (τ.1 (37, 0, 0, 0)) T i j → e_X10_act (nI (5 * i)) (wM τ N O W b) = if bI (¬ nI (10 * (T (j + 1) - 48) + (T (j + 2) - 48)) < nI 1 ∧ ¬ nI 60 < nI (10 * (T (j + 1) - 48) + (T (j + 2) - 48))) = 0 then some (some (some (.inl (nI 0))), wM τ N O W b) else bdV (e_X10_goSlots (nI (10 * (T (j + 1) - 48) + (T (j + 2) - 48))) (wM τ N O W b)) (fun σ5 => some (some (some (.inl (nI 1))), σ5)) := fun τ ac => by
      have a1 := ac.2.1 h1
      rw [q_X10_act, wM_37, nI_add, nI_clamp (n := 5 * i) (by omega), nI_clamp (n := 5 * i + 1) (by omega), ac.1, a1, h1, if_neg (ckn (by omega) (by omega)), if_neg (by decide), if_neg (ckn (by omega) (by omega)), if_pos rfl, if_neg (ckn (by omega) (by omega)), m_in]
      dsimp only [bdI]
      rw [wM_37, a1, if_pos z1, if_neg (ckn (by omega) (by omega))]
      simp only [if_pos o1]
    generalize hk : 10 * (T (j + 1) - 48) + (T (j + 2) - 48) = q at cs rr
    have q99 : q < 100 := by omega
    by_cases g : 1 ≤ q ∧ q ≤ 60
    · obtain ⟨C', N', O', W', b', s1, s2, s3⟩ := pr_slots (a := 0) q K C N O W b hP (by omega)
      refine ⟨1, C', N', O', W', b', Or.inr rfl, fun σ hT => ?_, fun τ ac => ?_, s3.le (by omega) hK⟩
      · rw [cs σ hT, if_neg (nI_nlt (by omega) (by omega)), if_neg (nI_nlt (by omega) (by omega)), c_78_from (by omega) q 0 (by omega), s1]
        rfl
      · rw [rr τ ac, if_bI ⟨nI_nlt (by omega) (by omega), nI_nlt (by omega) (by omega)⟩, m_go (by omega), s2]
        rfl
    · refine ⟨0, C, N, O, W, b, Or.inl rfl, fun σ hT => ?_, fun τ ac => ?_, hP.le (by omega) hK⟩
      · rw [cs σ hT]
        by_cases g1 : q < 1
        · rw [if_pos (nI_lt g1 (by omega))]
        · rw [if_neg (nI_nlt (by omega) (by omega)), if_pos (nI_lt (by omega) (by omega))]
      · rw [rr τ ac, if_nbI]
        rintro ⟨q1, q2⟩
        rw [nI_ltI (by omega) (by omega)] at q1 q2
        omega
  · have al : alen T j = 5 := by unfold alen; rw [if_pos h1]
    have b3 := h3.2.2
    have b4 := h4.2.2
    have b5 := h5.2.2
    have b6 := h6.2
    have cs : ∀ σ, TC σ n T → e_X9_doAct (nI j) (wC 0 σ C) = bdI (e_X0_whyNotOffer 0 (nI (T (j + 1) - 97)) (nI (T (j + 2) - 48)) (nI (T (j + 3) - 97)) (nI (T (j + 4) - 48)) (wC 0 σ C)) (fun v18 σ17 => if v18 < 0 then some (some (some (.inl (nI 0))), σ17) else bdI (e_X0_takeFrame 0 (nI (T (j + 1) - 97)) (nI (T (j + 2) - 48)) (nI (T (j + 3) - 97)) (nI (T (j + 4) - 48)) σ17) (fun v20 σ19 => some (some (some (.inl (nI 1))), σ19))) := fun σ hT => by
      rw [q_X9_doAct, c_at hT.wC hn hj, h1]
      dsimp only [bdI]
      rw [if_neg (by decide), if_neg (by decide), nI_add, nI_add, nI_add, nI_add, c_let_t hT.wC hn (by omega) h3]
      dsimp only
      rw [c_dig_t (lo := 0) (hi := 3) hT.wC hn (by omega) (by omega) h4]
      dsimp only
      rw [c_let_t hT.wC hn (by omega) h5]
      dsimp only
      rw [c_dig_t (lo := 1) (hi := 9) hT.wC hn (by omega) (by omega) h6]
      dsimp only
      simp only [if_pos z1, if_pos o1]
    have rr : ∀ τ : mS, AC (τ.1 (37, 0, 0, 0)) T i j → e_X10_act (nI (5 * i)) (wM τ N O W b) = bdI (e_X10_refusesOffer (nI (T (j + 1) - 97)) (nI (T (j + 2) - 48)) (nI (T (j + 3) - 97)) (nI (T (j + 4) - 48)) (wM τ N O W b)) (fun v7 σ6 => if v7 < 0 then some (some (some (.inl (nI 0))), σ6) else bdV (e_X10_put (σ6.1 (37, 0, 0, 0) (5 * i + 1)) (σ6.1 (37, 0, 0, 0) (5 * i + 2)) (σ6.1 (37, 0, 0, 0) (5 * i + 3)) (σ6.1 (37, 0, 0, 0) (5 * i + 4)) (nI 0) σ6) (fun σ8 => some (some (some (.inl (nI 1))), σ8))) := fun τ ac => by
      obtain ⟨a1, a2, a3, a4⟩ := ac.2.2 h1
      rw [q_X10_act, wM_37, nI_add, nI_add, nI_add, nI_add, nI_clamp (n := 5 * i) (by omega), nI_clamp (n := 5 * i + 1) (by omega), nI_clamp (n := 5 * i + 2) (by omega), nI_clamp (n := 5 * i + 3) (by omega), nI_clamp (n := 5 * i + 4) (by omega), ac.1, a1, a2, a3, a4, h1]
      simp (disch := omega) only [ck2, if_false]
      rw [if_neg (by decide), if_neg (by decide)]
      simp only [if_pos z1, if_pos o1]
    generalize g1 : T (j + 1) - 97 = d1 at cs rr
    generalize g2 : T (j + 2) - 48 = d2 at cs rr
    generalize g3 : T (j + 3) - 97 = d3 at cs rr
    generalize g4 : T (j + 4) - 48 = d4 at cs rr
    obtain ⟨v, -, v2, v3⟩ := j_why (a := 0) (σ := wC 0 default C) (p1 := nI d1) (p2 := nI d2) (p3 := nI d3) (p4 := nI d4) Hd.mk' hV hR
    have v1 : ∀ σ, e_X0_whyNotOffer 0 (nI d1) (nI d2) (nI d3) (nI d4) (wC 0 σ C) = some (some (some (.inl v)), wC 0 σ C) := fun σ => by
      obtain ⟨u, u1, u2, -⟩ := j_why (a := 0) (σ := wC 0 σ C) (p1 := nI d1) (p2 := nI d2) (p3 := nI d3) (p4 := nI d4) Hd.mk' hV hR
      have e1 := u2 (wM default N O W b) wM_30
      rw [v2 (wM default N O W b) wM_30] at e1
      injection e1 with e1
      injection e1 with e1
      injection e1 with e1
      injection e1 with e1
      injection e1 with e1
      rw [e1]
      exact u1
    rcases v3 with ⟨v3, -⟩ | ⟨rfl, v3⟩
    · refine ⟨0, C, N, O, W, b, Or.inl rfl, fun σ hT => ?_, fun τ ac => ?_, hP.le (by omega) hK⟩
      · rw [cs σ hT, v1]
        dsimp only [bdI]
        rw [if_pos v3]
      · rw [rr τ ac, v2 _ wM_30]
        dsimp only [bdI]
        rw [if_pos v3]
    · obtain ⟨x, r, y, u, q, e1, e2, e3, e4, hx, hr, hy, hyx, hq', hu1, hu9, hj', hsz⟩ := v3
      have hx6 : x < 6 := by omega
      have csz : C (147 + (4 * x + r)) = nI q := (hR.pl (pd_sz hM hx hr)).trans hsz
      have e11 : C 1 = N 1 := hR.pl (pd_lo (by omega))
      refine ⟨1, nPut C x r q (nI y) (nI u) (C 1) (nI 0), nPut N x r q (nI y) (nI u) (N 1) (nI 0), O, W, b, Or.inr rfl, fun σ hT => ?_, fun τ ac => ?_, PR.le (K := K) ⟨M, hV.put hx hr hy hyx hq' hu1 hu9 hj' hsz, ?_⟩ (by omega) hK⟩
      · rw [cs σ hT, v1]
        dsimp only [bdI]
        rw [if_neg (by decide), e1, e2, e3, e4, c_take hx6 hr hj' csz]
      · have mp := m_put (σ := wM τ N O W b) (to := nI y) (uu := nI u) (mk := nI 0) hx6 hr hj' (by rw [wM_30]; exact hsz)
        rw [wM_30, wM_30F] at mp
        obtain ⟨a1, a2, a3, a4⟩ := ac.2.2 h1
        rw [g1, e1] at a1
        rw [g2, e2] at a2
        rw [g3, e3] at a3
        rw [g4, e4] at a4
        rw [rr τ ac, v2 _ wM_30]
        dsimp only [bdI]
        rw [if_neg (by decide), wM_37, a1, a2, a3, a4, mp]
        rfl
      · rw [e11]
        exact (hR.put hM hx hr hj' hsz).pq fun z hz => ⟨nPut_n (by omega) (by omega), nPut_n (by omega) (by omega)⟩
end DP

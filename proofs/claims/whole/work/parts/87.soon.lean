/-! What would be: soonest -/
section SO
variable {M K K' s z r i n m k a b x y t h w lo sz la u : Nat} {σ τ σ' σ'' σp σm σ1 σ2 : mS} {A C C1 D N N' N0 N1 C' Cp O W P Q U F G : Nat → Int32} {o o' : mO} {v p p1 p2 p3 p4 p5 mk kd e c fF step : Int32} {S S' : mO → Prop} {l : List Int64} {f g : mS → Option mR}
theorem IV.mrk (h : IV M K N) : IV M K (upd N 1340 (nI 0)) := by
  obtain ⟨i1, i2, i3, i4, i5, ⟨m0, m1, m2, m3, m4⟩, t, t1, t2, t3, t4, t5⟩ := h
  have hM := i1.2.1
  have hs : ∀ t, t < 9 → sumT N t M = sumT (upd N 1340 (nI 0)) t M := fun t ht => (sumT_c ht fun s hs => upd_n (by omega)).symm
  refine ⟨i1.mono14 fun k _ _ => upd_n (by omega), i2.mono hM fun k _ _ => upd_n (by omega), i3.mono hM (fun k _ _ => upd_n (by omega)) (fun k _ _ => upd_n (by omega)), fun z hz => (i4 z hz).mono hz hM (fun k _ _ => upd_n (by omega)) (fun k _ _ _ _ => upd_n (by omega)) (fun k _ _ => upd_n (by omega)) (fun k hk => upd_n (by omega)), i5.mono hM (fun k _ _ => upd_n (by omega)) (fun k _ _ => upd_n (by omega)), ⟨Or.inl (upd_e rfl), ?_, ?_, ?_, ?_⟩, t, t1, t2, (upd_n (by omega)).trans t3, (upd_n (by omega)).trans t4, fun s hs => ?_⟩
  · rw [upd_n (by omega), m1]; exact hs 0 (by omega)
  · rw [upd_n (by omega), m2]; exact hs 2 (by omega)
  · rw [upd_n (by omega), m3]; exact hs 4 (by omega)
  · rw [upd_n (by omega), m4]; exact hs 6 (by omega)
  · obtain ⟨u, u1, u2⟩ := t5 s hs
    exact ⟨u, u1, (upd_n (by omega)).trans u2⟩
theorem nPut_mark {to uu tt : Int32} (hs : s < 6) (hr : r < 4) (hn : n < 8) : upd (upd (nPut C s r n to uu tt (nI 0)) (171 + 5 * (8 * (4 * s + r) + n) + 4) (nI 1)) 1340 (nI 0) = nPut (upd C 1340 (nI 0)) s r n to uu tt (nI 1) := by
  unfold nPut
  rw [upd_c (k := 147 + (4 * s + r)) (j := 171 + 5 * (8 * (4 * s + r) + n) + 4) (by omega), upd_u, upd_c (k := 147 + (4 * s + r)) (j := 1340) (by omega), upd_c (k := 171 + 5 * (8 * (4 * s + r) + n) + 4) (j := 1340) (by omega), upd_c (k := 171 + 5 * (8 * (4 * s + r) + n) + 3) (j := 1340) (by omega), upd_c (k := 171 + 5 * (8 * (4 * s + r) + n) + 2) (j := 1340) (by omega), upd_c (k := 171 + 5 * (8 * (4 * s + r) + n) + 1) (j := 1340) (by omega), upd_c (k := 171 + 5 * (8 * (4 * s + r) + n)) (j := 1340) (by omega)]
theorem c_mark (hs : s < 6) (hr : r < 4) (hn : n < 8) (hN : C (147 + (4 * s + r)) = nI (n + 1)) : e_X0_markLast a (nI s) (nI r) (wC a σ C) = some (some none, wC a σ (upd (upd C (171 + 5 * (8 * (4 * s + r) + n) + 4) (nI 1)) 1340 (nI 0))) := by
  rw [q_X0_markLast, if_neg (nI_in (by omega) (by omega)), if_neg (nI_in (by omega) (by omega)), nI_clamp (n := s) (by omega), nI_clamp (n := r) (by omega), rC_size hs hr, hN, if_pos (by rw [nI_0lt (by omega)]; omega), pk_sub (by omega), Nat.add_sub_cancel, pk_mul, nI_add, if_neg (nI_in (by omega) (by omega)), nI_clamp (by omega), if_pos (Or.inl n00), sC_fr hs hr (by omega), fr_ix]
  dsimp only
  rw [wC_st ix_marked]
theorem j_takes : ∀ d k K C N O W b, k + d = 99 → PR K C N → K + d < 2 ^ 24 → N 1340 = nI 0 → ∃ v j C' N' O' W' b', (∀ σ, b_X9_slotsTillDelivered_34 (nI (k + 1)) (wC 1 σ C) = some (some (some (.inl (nI v))), wC 1 σ C')) ∧ (∀ τ, b_X10_takes_24 (nI k) (wM (lay τ) N O W b) = some (some (some (.inl (nI j))), bck τ N' O' W' b')) ∧ ((v = 100 ∧ j = 0) ∨ (1 ≤ v ∧ v < 100 ∧ j = v))
  | 0, k, K, C, N, O, W, b, hk, hP, hK, h0 => by
    refine ⟨100, 0, C, N, O, W, b, fun σ => ?_, fun τ => ?_, Or.inl ⟨rfl, rfl⟩⟩
    · rw [q_X9_slotsTillDelivered_34, if_pos (nI_lt (by omega) (by omega))]
    · rw [q_X10_takes_24, if_neg (nI_nlt (by omega) (by omega)), if_neg (nI_in (by omega) (by omega)), nI_clamp (by omega), wM_30, h0, if_neg (by decide), m_bck]
      dsimp only [bdV]
      rw [if_pos n00]
  | d + 1, k, K, C, N, O, W, b, hk, hP, hK, h0 => by
    obtain ⟨C2, N2, O2, W2, b2, s1, s2, s3, -⟩ := pr_slot (a := 1) hP (by omega) O W b
    have s3' := s3
    obtain ⟨M2, hV2, hR2⟩ := s3'
    have e40 : C2 1340 = N2 1340 := hR2.pl (pd_hi (by omega))
    have hf : ∀ σ, b_X9_slotsTillDelivered_34 (nI (k + 1)) (wC 1 σ C) = if N2 1340 = 0 then b_X9_slotsTillDelivered_34 (nI (k + 1 + 1)) (wC 1 σ C2) else some (some (some (.inl (nI (k + 1)))), wC 1 σ C2) := fun σ => by
      have hd1 : Hd 1 (wC 1 σ C2) C2 := Hd.mk'
      rw [q_X9_slotsTillDelivered_34, if_neg (nI_nlt (by omega) (by omega)), s1]
      dsimp only [bdV]
      rw [hd1.rd ix_marked, e40, nI_1]
    have hg : ∀ τ : mS, b_X10_takes_24 (nI k) (wM (lay τ) N O W b) = b_X10_takes_24 (nI (k + 1)) (wM (lay τ) N2 O2 W2 b2) := fun τ => by
      rw [q_X10_takes_24, if_pos (nI_lt (by omega) (by omega)), if_neg (nI_in (by omega) (by omega)), nI_clamp (n := 1340) (by omega), wM_30, h0, if_pos n00, s2]
      dsimp only [bdV]
      rw [nI_1]
    rcases hV2.2.2.2.2.2.1.1 with g | g
    · obtain ⟨v, j, C', N', O', W', b', g1, g2, g3⟩ := j_takes d (k + 1) (K + 1) C2 N2 O2 W2 b2 (by omega) s3 (by omega) g
      refine ⟨v, j, C', N', O', W', b', fun σ => ?_, fun τ => ?_, g3⟩
      · rw [hf, if_pos (show N2 1340 = 0 from g)]
        exact g1 σ
      · rw [hg]
        exact g2 τ
    · have g' : ¬ N2 1340 = 0 := fun e => by rw [g] at e; exact absurd e (by decide)
      refine ⟨k + 1, k + 1, C2, N2, O2, W2, b2, fun σ => ?_, fun τ => ?_, Or.inr ⟨by omega, by omega, rfl⟩⟩
      · rw [hf, if_neg g']
      · rw [hg, q_X10_takes_24, nI_clamp (n := 1340) (by omega), wM_30, m_bck]
        simp (disch := omega) only [ck2, if_false]
        dsimp only [bdV]
        rw [if_neg g', if_pos g, if_neg n10]
        split <;> rfl
/-- how long it would take: both -/
theorem j_till (hd : Hd 0 σ C) (hV : IV M K (σ.1 (30, 0, 0, 0))) (hR : Rl M C (σ.1 (30, 0, 0, 0)) (dO (σ.1 (30, 0, 0, 0))) (dW (σ.1 (30, 0, 0, 0)))) (hx : x < M) (hy : y < M) (hyx : y ≠ x) (hq : 0 < σ.1 (30, 0, 0, 0) (15 + 6 * x + y)) (hn : n < 8) (hsz : σ.1 (30, 0, 0, 0) (147 + (4 * x + 0)) = nI n) (hK : K + 99 < 2 ^ 24) (hB : Bo (wC 1 σ D)) : ∃ v C', e_X9_slotsTillDelivered (nI x) (nI y) (wC 1 σ D) = some (some (some (.inl (nI v))), wC 1 σ C') ∧ ∀ τ : mS, (∀ k, k < 1432 → τ.1 (30, 0, 0, 0) k = σ.1 (30, 0, 0, 0) k) → ∃ j N' O' W' b', e_X10_takes (nI x) (nI y) τ = some (some (some (.inl (nI j))), bck τ N' O' W' b') ∧ ((v = 100 ∧ j = 0) ∨ (1 ≤ v ∧ v < 100 ∧ j = v)) := by
  have hM := hV.1.2.1
  have h0 : C 0 = nI M := (hR.pl (pd_lo (by omega))).trans hV.1.1
  have hx6 : x < 6 := by omega
  obtain ⟨C1, c1, c2⟩ := c_become (b := 1) (hd.oth (b := 1) (D := D) (by omega)) (by omega) hB hM h0
  rw [wC_wC] at c1
  have hR1 := hR.congC hM c2
  have csz : C1 (147 + (4 * x + 0)) = nI n := (hR1.pl (pd_sz hM hx (by omega))).trans hsz
  have e11 : C1 1 = σ.1 (30, 0, 0, 0) 1 := hR1.pl (pd_lo (by omega))
  have hc : e_X9_slotsTillDelivered (nI x) (nI y) (wC 1 σ D) = b_X9_slotsTillDelivered_34 (nI (0 + 1)) (wC 1 σ (nPut (upd C1 1340 (nI 0)) x 0 n (nI y) (nI 1) (σ.1 (30, 0, 0, 0) 1) (nI 1))) := by
    rw [q_X9_slotsTillDelivered, c1]
    dsimp only [bdV]
    rw [c_take (r := 0) hx6 (by omega) hn csz]
    dsimp only [bdI]
    rw [c_mark (r := 0) hx6 (by omega) hn nPut_sz, nPut_mark hx6 (by omega) hn, e11]
  have key : ∀ τ : mS, (∀ k, k < 1432 → τ.1 (30, 0, 0, 0) k = σ.1 (30, 0, 0, 0) k) → ∃ v C' j N' O' W' b', e_X9_slotsTillDelivered (nI x) (nI y) (wC 1 σ D) = some (some (some (.inl (nI v))), wC 1 σ C') ∧ e_X10_takes (nI x) (nI y) τ = some (some (some (.inl (nI j))), bck τ N' O' W' b') ∧ ((v = 100 ∧ j = 0) ∨ (1 ≤ v ∧ v < 100 ∧ j = v)) := fun τ hτ => by
    have hV2 := (hV.cong hτ).mrk
    have hR2 : Rl M (upd C1 1340 (nI 0)) (upd (τ.1 (30, 0, 0, 0)) 1340 (nI 0)) (dO (σ.1 (30, 0, 0, 0))) (dW (σ.1 (30, 0, 0, 0))) := (hR1.congN hM hτ).u hM (by unfold UK; omega)
    have sz2 : upd (τ.1 (30, 0, 0, 0)) 1340 (nI 0) (147 + (4 * x + 0)) = nI n := by rw [upd_n (by omega), hτ _ (by omega)]; exact hsz
    have hP : PR K (nPut (upd C1 1340 (nI 0)) x 0 n (nI y) (nI 1) (σ.1 (30, 0, 0, 0) 1) (nI 1)) (nPut (upd (τ.1 (30, 0, 0, 0)) 1340 (nI 0)) x 0 n (nI y) (nI 1) (σ.1 (30, 0, 0, 0) 1) (nI 1)) := by
      refine ⟨M, hV2.put hx (by omega) hy hyx ?_ (by omega) (by omega) hn sz2, (hR2.put hM hx (by omega) hn sz2).pq fun z hz => ⟨?_, ?_⟩⟩
      · rw [upd_n (by omega), hτ _ (by omega)]; exact hq
      · exact (nPut_n (by omega) (by omega)).trans ((upd_n (by omega)).trans (hτ _ (by omega)))
      · exact (nPut_n (by omega) (by omega)).trans ((upd_n (by omega)).trans (hτ _ (by omega)))
    obtain ⟨v, j, C', N', O', W', b', g1, g2, g3⟩ := j_takes 99 0 K _ _ (τ.1 (34, 0, 0, 0)) (τ.1 (35, 0, 0, 0)) (τ.1 (10, 0, 0, 0) 12) (by omega) hP (by omega) ((nPut_n (by omega) (by omega)).trans (upd_e rfl))
    refine ⟨v, C', j, N', O', W', b', hc.trans (g1 σ), ?_, g3⟩
    have mp := m_put (σ := wM (lay τ) (upd (τ.1 (30, 0, 0, 0)) 1340 (nI 0)) (τ.1 (34, 0, 0, 0)) (τ.1 (35, 0, 0, 0)) (τ.1 (10, 0, 0, 0) 12)) (r := 0) (to := nI y) (uu := nI 1) (mk := nI 1) hx6 (by omega) hn (by rw [wM_30]; exact sz2)
    rw [wM_30, wM_30F, upd_n (j := 1) (by omega), hτ 1 (by omega)] at mp
    rw [q_X10_takes, lay5 rfl rfl rfl rfl]
    dsimp only [bdV]
    rw [if_neg (nI_in (by omega) (by omega)), nI_clamp (by omega), wM_stN, mp]
    exact g2 τ
  obtain ⟨v, C', j, N', O', W', b', g1, g2, g3⟩ := key σ (fun _ _ => rfl)
  refine ⟨v, C', g1, fun τ hτ => ?_⟩
  obtain ⟨v2, C2, j2, N2, O2, W2, b2, k1, k2, k3⟩ := key τ hτ
  rw [g1] at k1
  injection k1 with k1
  injection k1 with k1 _
  injection k1 with k1
  injection k1 with k1
  injection k1 with k1
  have hv : v = v2 := nI_inj (by omega) (by omega) k1
  subst hv
  exact ⟨j2, N2, O2, W2, b2, k2, k3⟩
/-- may a frame of rank 0 come: the class -/
theorem c_why_at (hd : Hd a σ C) (hV : IV M K N) (hR : Rl M C N P Q) (hx : x < M) (hy : y < M) (hyx : y ≠ x) (hn : n ≤ 8) (hsz : N (147 + (4 * x + 0)) = nI n) : e_X0_whyNotOffer a (nI x) (nI 0) (nI y) (nI 1) σ = if 0 < N (15 + 6 * x + y) then (if n < 8 then some (some (some (.inl (nI 0))), σ) else some (some (some (.inl (-2))), σ)) else some (some (some (.inl (-3))), σ) := by
  have hM := hV.1.2.1
  have h0 : C 0 = nI M := (hR.pl (pd_lo (by omega))).trans hV.1.1
  have csz : C (147 + (4 * x + 0)) = nI n := (hR.pl (pd_sz hM hx (by omega))).trans hsz
  have h4 : ¬ nI x = nI y := fun e => hyx (nI_inj (by omega) (by omega) e.symm)
  have h2 : isS 4 (nI 0) := ⟨0, by omega, rfl⟩
  rw [q_X0_whyNotOffer, hd.rd ix_many, h0, if_neg (nI_pos (by omega)), if_pos (nI_lt hx (by omega)), if_neg (nI_pos (by omega)), if_pos (nI_lt hy (by omega)), if_neg h4, c_isRk]
  dsimp only [bdI]
  rw [if_bI h2, if_neg (by decide), if_neg (by decide), c_hear hd h0 hM (hR.2.1 x hx) hx hy]
  dsimp only
  by_cases g : 0 < N (15 + 6 * x + y)
  · rw [if_bI g, if_pos g, if_neg (nI_in (by omega) (by omega)), if_neg (nI_in (by omega) (by omega)), nI_clamp (n := x) (by omega), nI_clamp (n := 0) (by omega), hd.rd (ix_size (by omega) (by omega)), csz]
    by_cases g2 : n < 8
    · rw [if_pos g2, if_pos (nI_lt g2 (by omega))]
    · rw [if_neg g2, if_neg (nI_nlt (by omega) (by omega))]
  · rw [if_nbI g, if_neg g]
/-- the best so far, in both -/
def Bst (x2 x3 y2 y3 : Int32) : Prop := (x2 = -2 ∧ x3 = nI 100 ∧ y2 = -1 ∧ y3 = nI 0) ∨ ∃ q L, q < 6 ∧ L < 100 ∧ x2 = nI q ∧ y2 = nI q ∧ x3 = nI L ∧ y3 = nI L
theorem j_soon (hd : Hd 0 σ C) (hV : IV M K (σ.1 (30, 0, 0, 0))) (hR : Rl M C (σ.1 (30, 0, 0, 0)) (dO (σ.1 (30, 0, 0, 0))) (dW (σ.1 (30, 0, 0, 0)))) (hy : y < M) (hK : K + 99 < 2 ^ 24) : ∀ d i D x2 x3 y2 y3, i + d = M → Bo (wC 1 σ D) → Bst x2 x3 y2 y3 → ∃ D' u2 u3 w2 w3, Bst u2 u3 w2 w3 ∧ b_X9_soonest_19 (nI y) x2 x3 (nI i) (wC 1 σ D) = b_X9_soonest_19 (nI y) u2 u3 (nI M) (wC 1 σ D') ∧ ∀ τ : mS, (∀ k, k < 1432 → τ.1 (30, 0, 0, 0) k = σ.1 (30, 0, 0, 0) k) → ∃ τ', Sw τ τ' ∧ τ'.1 (4, 0, 0, 0) = τ.1 (4, 0, 0, 0) ∧ τ'.1 (10, 0, 0, 0) 4 = τ.1 (10, 0, 0, 0) 4 ∧ τ'.2 = τ.2 ∧ b_X10_soonest_22 (nI y) y2 y3 (nI i) τ = b_X10_soonest_22 (nI y) w2 w3 (nI M) τ'
  | 0, i, D, x2, x3, y2, y3, hi, hB, hb => by
    refine ⟨D, x2, x3, y2, y3, hb, ?_, fun τ _ => ⟨τ, Sm.rf.sw, rfl, rfl, rfl, ?_⟩⟩
    · rw [show i = M from by omega]
    · rw [show i = M from by omega]
  | d + 1, i, D, x2, x3, y2, y3, hi, hB, hb => by
    have hM := hV.1.2.1
    have h0 : C 0 = nI M := (hR.pl (pd_lo (by omega))).trans hV.1.1
    have hx : i < M := by omega
    have hd0 : Hd 0 (wC 1 σ D) C := hd.oth (by omega)
    obtain ⟨n, q1, q2, -⟩ := hV.2.2.1 i 0 hx (by omega)
    have cc : b_X9_soonest_19 (nI y) x2 x3 (nI i) (wC 1 σ D) = bdI (e_X0_whyNotOffer 0 (nI i) (nI 0) (nI y) (nI 1) (wC 1 σ D)) (fun v2 σ1 => if v2 = 0 then (bdI (e_X9_slotsTillDelivered (nI i) (nI y) σ1) (fun v4 σ3 => if v4 < x3 then b_X9_soonest_19 (nI y) (nI i) v4 (nI (i + 1)) σ3 else b_X9_soonest_19 (nI y) x2 x3 (nI (i + 1)) σ3)) else b_X9_soonest_19 (nI y) x2 x3 (nI (i + 1)) σ1) := by
      rw [q_X9_soonest_19, hd0.rd ix_many, h0, if_pos (nI_lt hx (by omega)), nI_1]
    have rr : ∀ τ : mS, (∀ k, k < 1432 → τ.1 (30, 0, 0, 0) k = σ.1 (30, 0, 0, 0) k) → b_X10_soonest_22 (nI y) y2 y3 (nI i) τ = if 0 < σ.1 (30, 0, 0, 0) (15 + 6 * i + y) then (if nI n = nI 8 then b_X10_soonest_22 (nI y) y2 y3 (nI (i + 1)) τ else bdI (e_X10_takes (nI i) (nI y) τ) (fun v6 σ5 => if v6 = 0 then b_X10_soonest_22 (nI y) y2 y3 (nI (i + 1)) σ5 else if y2 = (-1) then b_X10_soonest_22 (nI y) (nI i) v6 (nI (i + 1)) σ5 else if v6 < y3 then b_X10_soonest_22 (nI y) (nI i) v6 (nI (i + 1)) σ5 else b_X10_soonest_22 (nI y) y2 y3 (nI (i + 1)) σ5)) else b_X10_soonest_22 (nI y) y2 y3 (nI (i + 1)) τ := fun τ hτ => by
      rw [q_X10_soonest_22, if_neg c0, c0c, hτ 0 (by omega), hV.1.1, if_pos (nI_lt hx (by omega)), M_h (by omega) (by omega), hτ _ (by omega), nI_1]
      dsimp only [bdI]
      by_cases g : 0 < σ.1 (30, 0, 0, 0) (15 + 6 * i + y)
      · rw [if_bI g, if_pos g, r_at]
        dsimp only
        rw [nI_add, if_neg (nI_in (by omega) (by omega)), nI_clamp (by omega), hτ _ (by omega), q2]
      · rw [if_nbI g, if_neg g]
    have skip : (b_X9_soonest_19 (nI y) x2 x3 (nI i) (wC 1 σ D) = b_X9_soonest_19 (nI y) x2 x3 (nI (i + 1)) (wC 1 σ D)) → (∀ τ : mS, (∀ k, k < 1432 → τ.1 (30, 0, 0, 0) k = σ.1 (30, 0, 0, 0) k) → b_X10_soonest_22 (nI y) y2 y3 (nI i) τ = b_X10_soonest_22 (nI y) y2 y3 (nI (i + 1)) τ) → ∃ D' u2 u3 w2 w3, Bst u2 u3 w2 w3 ∧ b_X9_soonest_19 (nI y) x2 x3 (nI i) (wC 1 σ D) = b_X9_soonest_19 (nI y) u2 u3 (nI M) (wC 1 σ D') ∧ ∀ τ : mS, (∀ k, k < 1432 → τ.1 (30, 0, 0, 0) k = σ.1 (30, 0, 0, 0) k) → ∃ τ', Sw τ τ' ∧ τ'.1 (4, 0, 0, 0) = τ.1 (4, 0, 0, 0) ∧ τ'.1 (10, 0, 0, 0) 4 = τ.1 (10, 0, 0, 0) 4 ∧ τ'.2 = τ.2 ∧ b_X10_soonest_22 (nI y) y2 y3 (nI i) τ = b_X10_soonest_22 (nI y) w2 w3 (nI M) τ' := fun e1 e2 => by
      obtain ⟨D', u2, u3, w2, w3, k1, k2, k3⟩ := j_soon hd hV hR hy hK d (i + 1) D x2 x3 y2 y3 (by omega) hB hb
      refine ⟨D', u2, u3, w2, w3, k1, e1.trans k2, fun τ hτ => ?_⟩
      obtain ⟨τ', t1, t2, t3, t4, t5⟩ := k3 τ hτ
      exact ⟨τ', t1, t2, t3, t4, (e2 τ hτ).trans t5⟩
    by_cases hyx : y = i
    · subst hyx
      refine skip ?_ (fun τ hτ => ?_)
      · rw [cc, c_why_no hd0 h0 hM (fun q => q.2.2.2.1 rfl)]
        dsimp only [bdI]
        rw [if_neg (by decide)]
      · rw [rr τ hτ, hV.1.2.2.2.2.1 y (by omega), if_neg (by decide)]
    · have cw := c_why_at (n := n) hd0 hV hR hx hy hyx q1 q2
      by_cases g : 0 < σ.1 (30, 0, 0, 0) (15 + 6 * i + y)
      · by_cases g2 : n < 8
        · obtain ⟨v, C', k1, k2⟩ := j_till (D := D) hd hV hR hx hy hyx g g2 q2 hK hB
          have hB' : Bo (wC 1 σ C') := (Ev_gn k1).2 hB
          have n8 : ¬ nI n = nI 8 := fun e => by have := nI_inj (by omega) (by omega) e; omega
          have cc2 : b_X9_soonest_19 (nI y) x2 x3 (nI i) (wC 1 σ D) = if nI v < x3 then b_X9_soonest_19 (nI y) (nI i) (nI v) (nI (i + 1)) (wC 1 σ C') else b_X9_soonest_19 (nI y) x2 x3 (nI (i + 1)) (wC 1 σ C') := by
            rw [cc, cw, if_pos g, if_pos g2]
            dsimp only [bdI]
            rw [if_pos n00, k1]
          have hb' : Bst (if nI v < x3 then nI i else x2) (if nI v < x3 then nI v else x3) (if nI v < x3 then nI i else y2) (if nI v < x3 then nI v else y3) ∧ v ≤ 100 := by
            obtain ⟨j, -, -, -, -, -, r3⟩ := k2 σ (fun _ _ => rfl)
            refine ⟨?_, by omega⟩
            by_cases g3 : nI v < x3
            · rw [if_pos g3, if_pos g3, if_pos g3, if_pos g3]
              right
              refine ⟨i, v, by omega, ?_, rfl, rfl, rfl, rfl⟩
              rcases hb with ⟨b1, b2, b3, b4⟩ | ⟨q, L, b1, b2, b3, b4, b5, b6⟩
              · rw [b2, nI_ltI (by omega) (by omega)] at g3
                omega
              · rw [b5, nI_ltI (by omega) (by omega)] at g3
                omega
            · rw [if_neg g3, if_neg g3, if_neg g3, if_neg g3]
              exact hb
          obtain ⟨D', u2, u3, w2, w3, m1, m2, m3⟩ := j_soon hd hV hR hy hK d (i + 1) C' _ _ _ _ (by omega) hB' hb'.1
          refine ⟨D', u2, u3, w2, w3, m1, ?_, fun τ hτ => ?_⟩
          · rw [cc2, ← m2]
            split <;> rfl
          · obtain ⟨j, N', O', W', b', r1, r2⟩ := k2 τ hτ
            have hτ' : ∀ k, k < 1432 → (bck τ N' O' W' b').1 (30, 0, 0, 0) k = σ.1 (30, 0, 0, 0) k := fun k hk => (bck_30 hk).trans (hτ k hk)
            obtain ⟨τ', t1, t2, t3, t4, t5⟩ := m3 _ hτ'
            refine ⟨τ', Sw.bk.tr t1, t2.trans (bck_ne (by decide) (by decide)), t3.trans (bck_10 (by decide)), t4, ?_⟩
            rw [rr τ hτ, if_pos g, if_neg n8, r1]
            dsimp only [bdI]
            rw [← t5]
            have jz : nI j = 0 ↔ j = 0 := by rw [nI_eq0 (by omega)]
            rcases hb with ⟨b1, b2, b3, b4⟩ | ⟨q, L, b1, b2, b3, b4, b5, b6⟩
            · have lt : nI v < x3 ↔ v < 100 := by rw [b2, nI_ltI (by omega) (by omega)]
              by_cases g3 : v < 100
              · rw [if_neg (fun e => by have := jz.mp e; omega), if_pos b3, if_pos (lt.mpr g3), if_pos (lt.mpr g3), show j = v from by omega]
              · rw [if_pos (jz.mpr (by omega)), if_neg (fun e => g3 (lt.mp e)), if_neg (fun e => g3 (lt.mp e))]
            · have lt : nI v < x3 ↔ v < L := by rw [b5, nI_ltI (by omega) (by omega)]
              by_cases g4 : v = 100
              · rw [if_pos (jz.mpr (by omega)), if_neg (fun e => by have := lt.mp e; omega), if_neg (fun e => by have := lt.mp e; omega)]
              · have ej : j = v := by omega
                have n1 : ¬ y2 = -1 := by rw [b4]; exact fun e => by have := congrArg Int32.toInt e; rw [nI_toInt (by omega)] at this; exact absurd this (by rw [show (-1 : Int32).toInt = -1 from by decide]; omega)
                rw [if_neg (fun e => by have := jz.mp e; omega), if_neg n1, ej, b6, ← b5]
                by_cases g5 : nI v < x3
                · rw [if_pos g5, if_pos g5, if_pos g5]
                · rw [if_neg g5, if_neg g5, if_neg g5]
        · refine skip ?_ (fun τ hτ => ?_)
          · rw [cc, cw, if_pos g, if_neg g2]
            dsimp only [bdI]
            rw [if_neg (by decide)]
          · rw [rr τ hτ, if_pos g, if_pos (by rw [show n = 8 from by omega])]
      · refine skip ?_ (fun τ hτ => ?_)
        · rw [cc, cw, if_neg g]
          dsimp only [bdI]
          rw [if_neg (by decide)]
        · rw [rr τ hτ, if_neg g]
theorem o_soonest (hJ : J K σ) (hK : K + 99 ≤ K') (h24 : K' < 2 ^ 24) : Res K' (e_X9_soonest p) (e_X10_soonest p) σ := by
  obtain ⟨C, M, hd, hV, hR⟩ := jget hJ
  have hM := hV.1.2.1
  have hN0 := hV.1.1
  have h0 : C 0 = nI M := (hR.pl (pd_lo (by omega))).trans hN0
  by_cases h1 : isS M p
  · have h1' := h1
    obtain ⟨y, hy, rfl⟩ := h1'
    obtain ⟨D, hD⟩ := hd_ex 1 σ
    obtain ⟨D', u2, u3, w2, w3, k1, k2, k3⟩ := j_soon hd hV hR hy (by omega) M 0 D (-2) (nI 100) (-1) (nI 0) (by omega) (by rw [show wC 1 σ D = σ from hD]; exact hJ.2.2.2.2.2) (Or.inl ⟨rfl, rfl, rfl, rfl⟩)
    rw [show wC 1 σ D = σ from hD] at k2
    have hd0 : Hd 0 (wC 1 σ D') C := hd.oth (by omega)
    have hc : e_X9_soonest (nI y) σ = if u2 < 0 then some (some (some (.inl u2)), wC 1 σ D') else some (some (some (.inl u2)), tC (wC 1 σ D') [u3.toInt64]) := by
      rw [q_X9_soonest, c_isSt hd h0 hM]
      dsimp only [bdI]
      rw [if_bI h1, k2, q_X9_soonest_19, hd0.rd ix_many, h0, if_neg (nI_nlt (by omega) (by omega)), k_one]
      rfl
    have hg : ∀ τ : mS, τ.1 (30, 0, 0, 0) = σ.1 (30, 0, 0, 0) → ∃ τ', Sw (st τ (10, 0, 0, 0) 5 (nI 0)) τ' ∧ τ'.1 (4, 0, 0, 0) = (st τ (10, 0, 0, 0) 5 (nI 0)).1 (4, 0, 0, 0) ∧ τ'.1 (10, 0, 0, 0) 4 = (st τ (10, 0, 0, 0) 5 (nI 0)).1 (10, 0, 0, 0) 4 ∧ τ'.2 = τ.2 ∧ e_X10_soonest (nI y) τ = if w2 = -1 then some (some (some (.inl (-2))), τ') else some (some (some (.inl w2)), tM τ' [w3.toInt64]) := fun τ hτ => by
      obtain ⟨τ', t1, t2, t3, t4, t5⟩ := k3 (st τ (10, 0, 0, 0) 5 (nI 0)) (fun k _ => by rw [s30, hτ])
      refine ⟨τ', t1, t2, t3, t4, ?_⟩
      have e0 : τ'.1 (30, 0, 0, 0) 0 = nI M := by rw [t1.2.1 0 (by omega), s30, hτ]; exact hN0
      rw [q_X10_soonest]
      dsimp only
      rw [m_isSt (by rw [s30, hτ]; exact hN0) hM]
      dsimp only [bdI]
      rw [if_bI h1, t5, q_X10_soonest_22, if_neg c0, c0c, e0, if_neg (nI_nlt (by omega) (by omega)), r_empty]
      dsimp only
      rw [r_t0]
      rfl
    rcases k1 with ⟨b1, b2, b3, b4⟩ | ⟨q, L, b1, b2, b3, b4, b5, b6⟩
    · rw [b1, if_pos (by decide)] at hc
      obtain ⟨τ', t1, t2, t3, t4, t5⟩ := hg (wC 1 σ D') w1_30
      rw [if_pos b3] at t5
      refine ⟨_, _, _, hc, t5, hJ.sw ((Sm.w1.sw.tr Sw.st5).tr t1) (hJ.2.2.2.2.1.same ?_ ?_ ?_ ?_) ((Ev_gn t5).2 ((Ev_gn hc).2 hJ.2.2.2.2.2)) (by omega) h24⟩
      · rw [t2, st5_x (by decide), w1_4]
      · rw [t3, st5_10 (by decide), w1_10]
      · rw [t4]; rfl
      · rw [t4]; rfl
    · rw [b3, if_neg (nI_pos (by omega)), b5] at hc
      have n1 : ¬ w2 = -1 := by rw [b4]; exact fun e => by have := congrArg Int32.toInt e; rw [nI_toInt (by omega)] at this; exact absurd this (by rw [show (-1 : Int32).toInt = -1 from by decide]; omega)
      obtain ⟨τ', t1, t2, t3, t4, t5⟩ := hg (tC (wC 1 σ D') [(nI L).toInt64]) (by rw [c30, w1_30])
      rw [if_neg n1, b4, b6] at t5
      refine ⟨_, _, _, hc, t5, hJ.sw (((Sm.w1.tr Sm.cT).sw.tr Sw.st5).tr (t1.tr Sm.mT.sw)) (JN.told (Nat.le_of_ble_eq_true rfl) ?_ (fun k hk => ?_)) ((Ev_gn t5).2 ((Ev_gn hc).2 hJ.2.2.2.2.2)) (by omega) h24⟩
      · rw [t2, st5_x (by decide)]; exact tC_len
      · rw [t4]; exact tC_at hk
  · refine fin0 (v := -1) hJ (by omega) h24 (fun _ _ h => Ev_gn h) (fun _ _ h => Ev_gn h) ?_ ?_
    · rw [q_X9_soonest, c_isSt hd h0 hM]
      dsimp only [bdI]
      rw [if_nbI h1]
    · rw [q_X10_soonest]
      dsimp only
      rw [m_isSt (by rw [s30]; exact hN0) hM]
      dsimp only [bdI]
      rw [if_nbI h1]
end SO

/-! Calls that change: slots, draws, sets -/
section MV
variable {M K K' s z r i n m k a b x y t h w lo sz la u : Nat} {σ τ σ' σ'' σp σm σ1 σ2 : mS} {A C C1 D N N' N1 C' Cp O W P Q U F G : Nat → Int32} {E E' : Nat → Nat → Int32} {o o' : mO} {v p p1 p2 p3 p4 mk : Int32} {S S' : mO → Prop} {l : List Int64} {f g : mS → Option mR}
/-- behind a push and a change: air 0 and the reference's row are new -/
theorem mutJ (hJ : J K σ) (hK : K ≤ K') (h24 : K' < 2 ^ 24) (hV : IV M K (σ.1 (30, 0, 0, 0))) (hR : Rl M C (σ.1 (30, 0, 0, 0)) (dO (σ.1 (30, 0, 0, 0))) (dW (σ.1 (30, 0, 0, 0)))) (hsz : sz ≤ 6) (hE : ∀ i, i < sz → PR K (E i) (E' i))
    (p2 : UC σp (nx sz) (nl la) (cons0 Cp E)) (p3 : ∀ m, needC M m → Cp m = C m) (p4 : ∀ o : mO, o ≠ (5, 0, 0, 0) → ¬ (aK o.1 ∧ 4 ≤ o.2.1) → σp.1 o = σ.1 o)
    (h1 : Hd 0 σ1 C1) (h1f : ∀ o : mO, ¬ (aK o.1 ∧ o.2.1 = 0) → o.1 ≠ 4 → σ1.1 o = σp.1 o)
    (m2 : UM σm (nx sz) (cons0 N' E')) (mN : ∀ k, k < 1432 → N' k = σ.1 (30, 0, 0, 0) k) (m3 : ∀ o : mO, o ≠ (10, 0, 0, 0) → o ≠ (38, 0, 0, 0) → o ≠ (39, 0, 0, 0) → σm.1 o = σ1.1 o) (m4 : ∀ f, f ≠ 17 → f ≠ 5 → σm.1 (10, 0, 0, 0) f = σ1.1 (10, 0, 0, 0) f)
    (h2f : ∀ o : mO, o.1 ≠ 30 → o.1 ≠ 34 → o.1 ≠ 35 → o.1 ≠ 10 → σ2.1 o = σm.1 o) (h2t : σ2.1 (10, 0, 0, 0) 2 = σm.1 (10, 0, 0, 0) 2) (h2u : σ2.1 (10, 0, 0, 0) 17 = σm.1 (10, 0, 0, 0) 17)
    (hP : PR K' C1 (σ2.1 (30, 0, 0, 0))) (hN : JN σ2) (hB : Bo σ2) : J K' σ2 := by
  have f1 : ∀ o : mO, ¬ BC o → σ1.1 o = σ.1 o := fun o ho => by
    rw [h1f o (fun e => ho (Or.inr (Or.inr (Or.inr (Or.inr ⟨e.1, by omega⟩))))) (fun e => ho (Or.inr (Or.inl e))), p4 o (fun e => ho (by rw [e]; exact Or.inl rfl)) (fun e => ho (Or.inr (Or.inr (Or.inr (Or.inr ⟨e.1, Or.inr e.2⟩)))))]
  have f2 : ∀ o : mO, ¬ BM o → σ2.1 o = σ1.1 o := fun o ho => by
    rw [h2f o (fun e => ho (by unfold BM; omega)) (fun e => ho (by unfold BM; omega)) (fun e => ho (by unfold BM; omega)) (fun e => ho (by unfold BM; omega)), m3 o (fun e => ho (by rw [e]; unfold BM; omega)) (fun e => ho (by rw [e]; unfold BM; omega)) (fun e => ho (by rw [e]; unfold BM; omega))]
  have fr : ∀ o : mO, ¬ BC o → ¬ BM o → σ2.1 o = σ.1 o := fun o h1 h2 => (f2 o h2).trans (f1 o h1)
  refine hJ.mk2 hK h24 ⟨C1, h1.mono fun o ho hk => f2 o (by unfold BM; unfold aK at hk; omega), hP⟩ (ju_mk (sz := nx sz) (la := nl la) (E := cons0 Cp E) (E' := cons0 N' E') (p2.mono ?_ (fun o h1 h2 => ?_)) (m2.mono h2u (h2f _ (by decide) (by decide) (by decide) (by decide))) (PR.le' (ju_next hV hR p3 mN hE hsz) hK h24)) fr (hJ.2.2.2.1.same ?_ ?_ fr) hN hB
  · rw [f2 _ (by unfold BM; decide), h1f _ (by unfold aK; decide) (by decide)]
  · rw [f2 o (by unfold BM; unfold aK at h2; omega), h1f o (fun e => by omega) (fun e => by rw [e] at h2; unfold aK at h2; omega)]
  · rw [f2 _ (by unfold BM; decide), h1f _ (by unfold aK; decide) (by decide), p4 _ (by decide) (by unfold aK; decide)]
  · rw [h2t, m4 _ (by decide) (by decide), h1f _ (by unfold aK; decide) (by decide), p4 _ (by decide) (by unfold aK; decide)]
theorem one_n (hn : n ≤ 1000) (h : ¬ p < nI 1 ∧ ¬ nI n < p) : ∃ k, 1 ≤ k ∧ k ≤ n ∧ p = nI k := by
  obtain ⟨j, h1, h2⟩ := (in_S2 (k := n) hn).mp (⟨fun q => h.1 (by rw [i32_lt, nI_toInt (by omega)] at q ⊢; omega), h.2⟩ : ¬ p < nI 0 ∧ ¬ nI n < p)
  subst h2
  have h3 : ¬ nI j < nI 1 := h.1
  rw [nI_ltI (by omega) (by omega)] at h3
  exact ⟨j, by omega, by omega, rfl⟩
theorem c_sl_from {x2 x3 x4 x5 : Int32} (hn : n < 2 ^ 31) : ∀ d i, i + d = n → ∀ σ, b_X9_slots_66 (nI n) x2 x3 x4 x5 (nI i) σ = bdV (rep (e_X0_passSlot 0) d σ) (fun σ => b_X9_slots_66 (nI n) x2 x3 x4 x5 (nI n) σ)
  | 0, i, hi => fun σ => by rw [show i = n from by omega]; rfl
  | d + 1, i, hi => fun σ => by
    rw [q_X9_slots_66, if_pos (nI_lt (by omega) (by omega)), nI_1]
    show _ = bdV (bdV (e_X0_passSlot 0 σ) (rep (e_X0_passSlot 0) d)) _
    rw [← bdV_as]
    congr 1
    funext σ1
    exact c_sl_from hn d (i + 1) (by omega) σ1
/-- what push leaves of air 0, and of the rest -/
theorem push_hd (hd : Hd 0 σ C) (p4 : ∀ o : mO, o ≠ (5, 0, 0, 0) → ¬ (aK o.1 ∧ 4 ≤ o.2.1) → σp.1 o = σ.1 o) : Hd 0 σp C := hd.mono fun o h1 h2 => p4 o (fun e => by rw [e] at h2; unfold aK at h2; omega) (fun e => by omega)
theorem o_slots (hJ : J K σ) (hK : K + 60 ≤ K') (h24 : K' < 2 ^ 24) : Res K' (e_X9_slots p) (e_X10_slots p) σ := by
  obtain ⟨C, M, hd, hV, hR⟩ := jget hJ
  have hM := hV.1.2.1
  have hN0 := hV.1.1
  have h0 : C 0 = nI M := (hR.pl (pd_lo (by omega))).trans hN0
  by_cases h1 : ¬ p < nI 1 ∧ ¬ nI 60 < p
  · have h1' := h1
    obtain ⟨n, n1, n2, rfl⟩ := one_n (by omega) h1'
    obtain ⟨sz, la, E, E', uc, um, hE⟩ := ju_get hJ.2.1
    obtain ⟨σp, Cp, q1, q2, q3, q4, q5⟩ := c_push uc hd (by omega) hJ.2.2.2.2.2 hM h0
    have hdp : Hd 0 σp C := push_hd hd q4
    obtain ⟨C1, N1, O1, W1, b1, s1, s2, M1, s3, s4⟩ := pr_slots (a := 0) n K C (σ.1 (30, 0, 0, 0)) (σ.1 (34, 0, 0, 0)) (σ.1 (35, 0, 0, 0)) (σ.1 (10, 0, 0, 0) 12) ⟨M, hV, hR⟩ (by omega)
    have hM1 := s3.1.2.1
    have hN1 := s3.1.1
    have hh : Hd 0 (wC 0 σp C1) C1 := Hd.mk'
    have sp := s1 σp
    rw [show wC 0 σp C = σp from hdp] at sp
    obtain ⟨i1, i2, i3, i4⟩ := hV.2.2.2.2.2.1.2
    obtain ⟨j1, j2, j3, j4⟩ := s3.2.2.2.2.2.1.2
    have hf : e_X9_slots (nI n) σ = some (some (some (.inl (N1 1336 - σ.1 (30, 0, 0, 0) 1336))), tC (wC 0 σp C1) [(N1 1337 - σ.1 (30, 0, 0, 0) 1337).toInt64, (N1 1338 - σ.1 (30, 0, 0, 0) 1338).toInt64, (N1 1339 - σ.1 (30, 0, 0, 0) 1339).toInt64]) := by
      rw [q_X9_slots, if_neg h1.1, if_neg h1.2, q1]
      dsimp only [bdV]
      rw [c_sumOf hdp hR hM hN0 (by omega)]
      dsimp only [bdI]
      rw [c_sumOf hdp hR hM hN0 (by omega)]
      dsimp only
      rw [c_sumOf hdp hR hM hN0 (by omega)]
      dsimp only
      rw [c_sumOf hdp hR hM hN0 (by omega)]
      dsimp only
      rw [c_sl_from (by omega) n 0 (by omega), sp]
      dsimp only [bdV]
      rw [q_X9_slots_66, if_neg (nI_nlt (by omega) (by omega)), c_sumOf hh s4 hM1 hN1 (by omega)]
      dsimp only [bdI]
      rw [c_sumOf hh s4 hM1 hN1 (by omega)]
      dsimp only
      rw [c_sumOf hh s4 hM1 hN1 (by omega)]
      dsimp only
      rw [k_three]
      dsimp only [bdV]
      rw [c_sumOf hh.cT s4 hM1 hN1 (by omega)]
      dsimp only
      rw [i1, i2, i3, i4, j1, j2, j3, j4]
    generalize hl : [(N1 1337 - σ.1 (30, 0, 0, 0) 1337).toInt64, (N1 1338 - σ.1 (30, 0, 0, 0) 1338).toInt64, (N1 1339 - σ.1 (30, 0, 0, 0) 1339).toInt64] = l at hf
    have hlen : l.length = 3 := by rw [← hl]; rfl
    have f1 : ∀ o : mO, ¬ BC o → (tC (wC 0 σp C1) l).1 o = σ.1 o := fun o ho => by
      rw [tC_same (fun e => ho (Or.inr (Or.inl e))), wC_same (fun e => ho (Or.inr (Or.inr (Or.inr (Or.inr ⟨e.1, by omega⟩))))), q4 o (fun e => ho (by rw [e]; exact Or.inl rfl)) (fun e => ho (Or.inr (Or.inr (Or.inr (Or.inr ⟨e.1, Or.inr e.2⟩)))))]
    have e30 := f1 (30, 0, 0, 0) (by unfold BC aK; decide)
    have e34 := f1 (34, 0, 0, 0) (by unfold BC aK; decide)
    have e35 := f1 (35, 0, 0, 0) (by unfold BC aK; decide)
    have e10 := f1 (10, 0, 0, 0) (by unfold BC aK; decide)
    have e38 := f1 (38, 0, 0, 0) (by unfold BC aK; decide)
    obtain ⟨σm, m1, m2, m3, m4, m5⟩ := m_change (σ := st (tC (wC 0 σp C1) l) (10, 0, 0, 0) 5 (nI 0)) (um.mono (by rw [st_self, upd_n (by decide), e10]) (by rw [st_ne (by decide), e38]))
    have m30 : σm.1 (30, 0, 0, 0) = σ.1 (30, 0, 0, 0) := by rw [m3 _ (by decide) (by decide) (by decide), s30, e30]
    have m34 : σm.1 (34, 0, 0, 0) = σ.1 (34, 0, 0, 0) := by rw [m3 _ (by decide) (by decide) (by decide), st_ne (by decide), e34]
    have m35 : σm.1 (35, 0, 0, 0) = σ.1 (35, 0, 0, 0) := by rw [m3 _ (by decide) (by decide) (by decide), st_ne (by decide), e35]
    have m12 : σm.1 (10, 0, 0, 0) 12 = σ.1 (10, 0, 0, 0) 12 := by rw [m4 _ (by decide), st_self, upd_n (by decide), e10]
    have ws := wM_self σm
    rw [m30, m34, m35, m12] at ws
    have sm2 := s2 σm
    rw [ws] at sm2
    have hg : e_X10_slots (nI n) (tC (wC 0 σp C1) l) = some (some (some (.inl (N1 1336 - σ.1 (30, 0, 0, 0) 1336))), tM (wM σm N1 O1 W1 b1) l) := by
      rw [q_X10_slots]
      dsimp only
      rw [m_in]
      dsimp only [bdI]
      rw [if_bI h1, m1]
      dsimp only [bdV]
      rw [if_neg (nI_in (by omega) (by omega)), if_neg (nI_in (by omega) (by omega)), if_neg (nI_in (by omega) (by omega)), if_neg (nI_in (by omega) (by omega)), m_go (by omega), sm2]
      dsimp only [bdV]
      rw [r_empty]
      simp (disch := omega) only [nI_clamp, ck2, if_false, t30, wM_30, m30, r_t0, r_t1, r_t2]
      rw [← hl]
    refine ⟨_, _, _, hf, hg, mutJ (C1 := C1) (σ1 := tC (wC 0 σp C1) l) (σm := σm) (Cp := Cp) hJ (by omega) h24 hV hR uc.1 hE q2 q3 q4 hh.cT (fun o g1 g2 => ?_) m2 (fun k hk => ?_) (fun o g1 g2 g3 => ?_) (fun f g1 g2 => ?_) (fun o g1 g2 g3 g4 => ?_) ?_ ?_ ?_ ?_ ((Ev_gn hg).2 ((Ev_gn hf).2 hJ.2.2.2.2.2))⟩
    · rw [tC_same g2, wC_same g1]
    · rw [cpl_lt hk, s30, e30]
    · rw [m3 o g1 g2 g3, st_ne g1]
    · rw [m4 f g1, st_self, upd_n g2]
    · rw [tM_same g4, wM_same ⟨g1, g2, g3, g4⟩]
    · rw [tM_10 (by decide), wM_10 (by decide)]
    · rw [tM_10 (by decide), wM_10 (by decide)]
    · rw [t30, wM_30]
      exact PR.le ⟨M1, s3, s4⟩ (by omega) h24
    · refine JN.told (by omega) ?_ (fun k hk => ?_)
      · rw [wM_same (by decide), m3 _ (by decide) (by decide) (by decide), st_ne (by decide)]; exact tC_len
      · rw [show (wM σm N1 O1 W1 b1).2 = (tC (wC 0 σp C1) l).2 from m5]; exact tC_at hk
  · refine fin0 (v := -1) hJ (by omega) h24 (fun _ _ h => Ev_gn h) (fun _ _ h => Ev_gn h) ?_ ?_
    · rw [q_X9_slots]
      by_cases h3 : p < nI 1
      · rw [if_pos h3]
      · rw [if_neg h3, if_pos (Classical.byContradiction fun q => h1 ⟨h3, q⟩)]
    · rw [q_X10_slots]
      dsimp only
      rw [m_in]
      dsimp only [bdI]
      rw [if_nbI h1]
theorem nDraws_q (hs : s < 6) (hr : r < 4) (h1 : k ≠ 14) (h2 : k ≠ 1155 + (4 * s + r)) : nDraws N s r k = N k := by
  unfold nDraws nDraw
  rw [upd_n h2, upd_n h1]
theorem IV.drs (hV : IV M K N) (hs : s < M) (hr : r < 4) : IV M K (nDraws N s r) := by
  have hM := hV.1.2.1
  have q : ∀ k, k ≠ 14 → (k < 1155 ∨ 1179 ≤ k) → nDraws N s r k = N k := fun k h1 h2 => nDraws_q (by omega) hr h1 (by omega)
  obtain ⟨t, t1, t2, t3, t4, t5⟩ := hV.2.2.2.2.2.2
  refine IV.mk' (hV.ic.mono14 (fun k _ g => q k g (by omega)) (fun k _ _ => q k (by omega) (by omega)) (fun k _ _ => q k (by omega) (by omega)) (fun s t _ _ => q _ (by omega) (by omega)) (fun k _ _ => q k (by omega) (by omega))) (hV.2.2.2.2.1.mono hM (fun k _ _ => q k (by omega) (by omega)) (fun k _ _ => q k (by omega) (by omega))) ⟨t, t1, t2, (q _ (by omega) (by omega)).trans t3, (q _ (by omega) (by omega)).trans t4, fun s hs => ?_⟩
  obtain ⟨u, u1, u2⟩ := t5 s hs
  exact ⟨u, u1, (q _ (by omega) (by omega)).trans u2⟩
theorem j_dr14 (hs : s < M) : ∀ d r (C N : Nat → Int32) (c : Int32), r + d = 4 → IV M K N → Rl M C N (dO N) (dW N) → ∃ C' N' c', (∀ σ, b_X0_drawAll_14 a c (nI s) (nI r) (wC a σ C) = b_X0_drawAll_4 a c' (nI (s + 1)) (wC a σ C')) ∧ (∀ σ O W b, b_X10_drawAll_16 c (nI s) (nI r) (wM σ N O W b) = b_X10_drawAll_4 c' (nI (s + 1)) (wM σ N' O W b)) ∧ IV M K N' ∧ Rl M C' N' (dO N') (dW N')
  | 0, r, C, N, c, hr, hV, hR => by
    refine ⟨C, N, c, fun σ => ?_, fun σ O W b => ?_, hV, hR⟩
    · rw [show r = 4 from by omega, q_X0_drawAll_14, if_neg (by decide), nI_1]
    · rw [show r = 4 from by omega, q_X10_drawAll_16, if_neg (by decide), nI_1]
  | d + 1, r, C, N, c, hr, hV, hR => by
    have hM := hV.1.2.1
    have hs6 : s < 6 := by omega
    have hr4 : r < 4 := by omega
    obtain ⟨n, q1, q2, ⟨w, w1, w2⟩, -⟩ := hV.2.2.1 s r hs hr4
    have c2 : C (147 + (4 * s + r)) = nI n := (hR.pl (pd_sz hM hs hr4)).trans q2
    have cw : C (1131 + (4 * s + r)) = nI w := (hR.pl (pd_wi hM hs hr4)).trans w2
    by_cases hn : n = 0
    · obtain ⟨C', N', c', e1, e2, e3, e4⟩ := j_dr14 hs d (r + 1) C N c (by omega) hV hR
      refine ⟨C', N', c', fun σ => ?_, fun σ O W b => ?_, e3, e4⟩
      · rw [q_X0_drawAll_14, if_pos (nI_lt hr4 (by omega)), if_neg (nI_in (by omega) (by omega)), if_neg (nI_in (by omega) (by omega)), nI_clamp (by omega), nI_clamp (by omega), rC_size hs6 hr4, c2, hn, if_neg (by decide), nI_1]
        exact e1 σ
      · rw [q_X10_drawAll_16, if_pos (nI_lt hr4 (by omega)), r_at]
        dsimp only [bdI]
        rw [nI_add, if_neg (nI_in (by omega) (by omega)), nI_clamp (by omega), wM_N, q2, hn, if_pos n00, nI_1]
        exact e2 σ O W b
    · have hl := lt1 w1
      have hdO : ∀ z, z < M → dO (nDraws N s r) z = dO N z ∧ dW (nDraws N s r) z = dW N z := fun z hz => ⟨nDraws_q hs6 hr4 (by omega) (by omega), nDraws_q hs6 hr4 (by omega) (by omega)⟩
      obtain ⟨C', N', c', e1, e2, e3, e4⟩ := j_dr14 hs d (r + 1) (nDraws C s r) (nDraws N s r) (c + nI 1) (by omega) (hV.drs hs hr4) ((hR.drs hM hs hr4).pq hdO)
      refine ⟨C', N', c', fun σ => ?_, fun σ O W b => ?_, e3, e4⟩
      · rw [q_X0_drawAll_14, if_pos (nI_lt hr4 (by omega)), if_neg (nI_in (by omega) (by omega)), if_neg (nI_in (by omega) (by omega)), nI_clamp (n := s) (by omega), nI_clamp (n := r) (by omega), rC_size hs6 hr4, c2, if_pos (by rw [nI_0lt (by omega)]; omega), rC_window hs6 hr4, c_draw (by rw [cw]; exact hl.1) (by rw [cw]; exact hl.2)]
        dsimp only [bdI]
        rw [sC_count hs6 hr4, nI_1]
        exact e1 σ
      · rw [q_X10_drawAll_16, if_pos (nI_lt hr4 (by omega)), r_at]
        dsimp only [bdI]
        rw [nI_add, if_neg (nI_in (by omega) (by omega)), nI_clamp (by omega), wM_N, q2, if_neg (nI_ne0 (by omega) (by omega)), m_drawsCount hs6 hr4 (by rw [w2]; exact hl.2)]
        dsimp only [bdV]
        rw [nI_1]
        exact e2 σ O W b
theorem j_drAll : ∀ d s (C N : Nat → Int32) (c : Int32), s + d = M → IV M K N → Rl M C N (dO N) (dW N) → ∃ C' N' c', (∀ σ, b_X0_drawAll_4 a c (nI s) (wC a σ C) = some (some (some (.inl c')), wC a σ C')) ∧ (∀ σ O W b, b_X10_drawAll_4 c (nI s) (wM σ N O W b) = some (some (some (.inl c')), wM σ N' O W b)) ∧ IV M K N' ∧ Rl M C' N' (dO N') (dW N')
  | 0, s, C, N, c, hs, hV, hR => by
    have hM := hV.1.2.1
    have : s = M := by omega
    subst this
    refine ⟨C, N, c, fun σ => ?_, fun σ O W b => ?_, hV, hR⟩
    · rw [q_X0_drawAll_4, rC_many, hR.pl (pd_lo (by omega)), hV.1.1, if_neg (nI_nlt (by omega) (by omega))]
    · rw [q_X10_drawAll_4, if_neg c0, c0c, wM_N, hV.1.1, if_neg (nI_nlt (by omega) (by omega))]
  | d + 1, s, C, N, c, hs, hV, hR => by
    have hM := hV.1.2.1
    obtain ⟨C1, N1, c1, e1, e2, e3, e4⟩ := j_dr14 (a := a) (s := s) (by omega) 4 0 C N c (by omega) hV hR
    obtain ⟨C2, N2, c2, g1, g2, g3, g4⟩ := j_drAll d (s + 1) C1 N1 c1 (by omega) e3 e4
    refine ⟨C2, N2, c2, fun σ => ?_, fun σ O W b => ?_, g3, g4⟩
    · rw [q_X0_drawAll_4, rC_many, hR.pl (pd_lo (by omega)), hV.1.1, if_pos (nI_lt (by omega) (by omega)), e1, g1]
    · rw [q_X10_drawAll_4, if_neg c0, c0c, wM_N, hV.1.1, if_pos (nI_lt (by omega) (by omega)), e2, g2]
/-- all counts drawn, in both -/
theorem j_draws (hV : IV M K N) (hR : Rl M C N (dO N) (dW N)) : ∃ C' N' c', (∀ σ, e_X0_drawAll a (wC a σ C) = some (some (some (.inl c')), wC a σ C')) ∧ (∀ σ, σ.1 (30, 0, 0, 0) = N → e_X10_drawAll σ = some (some (some (.inl c')), sF σ (30, 0, 0, 0) N')) ∧ IV M K N' ∧ Rl M C' N' (dO N') (dW N') := by
  obtain ⟨C', N', c', e1, e2, e3, e4⟩ := j_drAll (a := a) M 0 C N (nI 0) (by omega) hV hR
  refine ⟨C', N', c', fun σ => ?_, fun σ hσ => ?_, e3, e4⟩
  · rw [q_X0_drawAll]; exact e1 σ
  · have h := e2 σ (σ.1 (34, 0, 0, 0)) (σ.1 (35, 0, 0, 0)) (σ.1 (10, 0, 0, 0) 12)
    have ws := wM_self σ
    rw [hσ] at ws
    rw [ws, wM_sF] at h
    rw [q_X10_drawAll]
    exact h
theorem o_draws (hJ : J K σ) (hK : K ≤ K') (h24 : K' < 2 ^ 24) : Res K' e_X9_draws e_X10_draws σ := by
  obtain ⟨C, M, hd, hV, hR⟩ := jget hJ
  have hM := hV.1.2.1
  have hN0 := hV.1.1
  have h0 : C 0 = nI M := (hR.pl (pd_lo (by omega))).trans hN0
  obtain ⟨sz, la, E, E', uc, um, hE⟩ := ju_get hJ.2.1
  obtain ⟨σp, Cp, q1, q2, q3, q4, q5⟩ := c_push uc hd (by omega) hJ.2.2.2.2.2 hM h0
  have hdp : Hd 0 σp C := push_hd hd q4
  obtain ⟨C1, N1, c, s1, s2, s3, s4⟩ := j_draws (a := 0) hV hR
  have sp := s1 σp
  rw [show wC 0 σp C = σp from hdp] at sp
  have hf : e_X9_draws σ = some (some (some (.inl c)), wC 0 σp C1) := by
    rw [q_X9_draws, q1]
    dsimp only [bdV]
    rw [sp]
    rfl
  have f1 : ∀ o : mO, ¬ BC o → (wC 0 σp C1).1 o = σ.1 o := fun o ho => by
    rw [wC_same (fun e => ho (Or.inr (Or.inr (Or.inr (Or.inr ⟨e.1, by omega⟩))))), q4 o (fun e => ho (by rw [e]; exact Or.inl rfl)) (fun e => ho (Or.inr (Or.inr (Or.inr (Or.inr ⟨e.1, Or.inr e.2⟩)))))]
  have e30 := f1 (30, 0, 0, 0) (by unfold BC aK; decide)
  have e10 := f1 (10, 0, 0, 0) (by unfold BC aK; decide)
  have e38 := f1 (38, 0, 0, 0) (by unfold BC aK; decide)
  obtain ⟨σm, m1, m2, m3, m4, m5⟩ := m_change (σ := st (wC 0 σp C1) (10, 0, 0, 0) 5 (nI 0)) (um.mono (by rw [st_self, upd_n (by decide), e10]) (by rw [st_ne (by decide), e38]))
  have m30 : σm.1 (30, 0, 0, 0) = σ.1 (30, 0, 0, 0) := by rw [m3 _ (by decide) (by decide) (by decide), s30, e30]
  have hg : e_X10_draws (wC 0 σp C1) = some (some (some (.inl c)), sF σm (30, 0, 0, 0) N1) := by
    rw [q_X10_draws]
    dsimp only
    rw [m1]
    dsimp only [bdV]
    rw [s2 σm m30]
    rfl
  refine ⟨_, _, _, hf, hg, mutJ (C1 := C1) (σ1 := wC 0 σp C1) (σm := σm) (Cp := Cp) hJ hK h24 hV hR uc.1 hE q2 q3 q4 Hd.mk' (fun o g1 g2 => wC_same g1) m2 (fun k hk => ?_) (fun o g1 g2 g3 => ?_) (fun f g1 g2 => ?_) (fun o g1 g2 g3 g4 => ?_) ?_ ?_ ?_ (hJ.2.2.2.2.1.same ?_ ?_ ?_ ?_) ((Ev_gn hg).2 ((Ev_gn hf).2 hJ.2.2.2.2.2))⟩
  · rw [cpl_lt hk, s30, e30]
  · rw [m3 o g1 g2 g3, st_ne g1]
  · rw [m4 f g1, st_self, upd_n g2]
  · rw [sF_ne (fun e => g1 (by rw [e]))]
  · rw [sF_ne (by decide)]
  · rw [sF_ne (by decide)]
  · rw [sF_at]
    exact PR.le ⟨M, s3, s4⟩ hK h24
  · rw [sF_ne (by decide), m3 _ (by decide) (by decide) (by decide), st_ne (by decide), wC_same (by unfold aK; decide), q4 _ (by decide) (by unfold aK; decide)]
  · rw [sF_ne (by decide), m4 _ (by decide), st_self, upd_n (by decide), e10]
  · show σm.2 _ = _
    rw [m5, st_2]
    show σp.2 _ = _
    rw [q5]
  · show σm.2 _ = _
    rw [m5, st_2]
    show σp.2 _ = _
    rw [q5]
end MV

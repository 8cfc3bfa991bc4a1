/-! What would be: ahead, quiet, next -/
section TS
variable {M K K' s z r i n m k a b x y t h w lo sz la u : Nat} {σ τ σ' σ'' σp σm σ1 σ2 : mS} {A C C1 D N N' N0 N1 C' Cp O W P Q U F G : Nat → Int32} {E E' : Nat → Nat → Int32} {o o' : mO} {v p p1 p2 p3 p4 p5 mk kd e c fF step : Int32} {S S' : mO → Prop} {l : List Int64} {f g : mS → Option mR}
/-- the trial air as the call begins -/
theorem tri (hJ : J K σ) : ∃ C M C1, Hd 0 σ C ∧ IV M K (σ.1 (30, 0, 0, 0)) ∧ Rl M C (σ.1 (30, 0, 0, 0)) (dO (σ.1 (30, 0, 0, 0))) (dW (σ.1 (30, 0, 0, 0))) ∧ e_X0_become 1 0 σ = some (some none, wC 1 σ C1) ∧ Rl M C1 (σ.1 (30, 0, 0, 0)) (dO (σ.1 (30, 0, 0, 0))) (dW (σ.1 (30, 0, 0, 0))) := by
  obtain ⟨C, M, hd, hV, hR⟩ := jget hJ
  have hM := hV.1.2.1
  have h0 : C 0 = nI M := (hR.pl (pd_lo (by omega))).trans hV.1.1
  obtain ⟨C1, c1, c2⟩ := c_become (b := 1) hd (by omega) hJ.2.2.2.2.2 hM h0
  exact ⟨C, M, C1, hd, hV, hR, c1, hR.congC hM c2⟩
theorem c_ah_from (hn : n < 2 ^ 31) : ∀ d i, i + d = n → ∀ σ, b_X9_ahead_35 (nI n) p2 (nI i) σ = bdV (rep (e_X0_passSlot 1) d σ) (fun σ => b_X9_ahead_35 (nI n) p2 (nI n) σ)
  | 0, i, hi => fun σ => by rw [show i = n from by omega]; rfl
  | d + 1, i, hi => fun σ => by
    rw [q_X9_ahead_35, if_pos (nI_lt (by omega) (by omega)), nI_1]
    show _ = bdV (bdV (e_X0_passSlot 1 σ) (rep (e_X0_passSlot 1) d)) _
    rw [← bdV_as]
    congr 1
    funext σ1
    exact c_ah_from hn d (i + 1) (by omega) σ1
theorem Sw.st5 : Sw σ (st σ (10, 0, 0, 0) 5 (nI 0)) := (Sm.s10 (by decide) (by decide)).sw
/-- both ways to the end of a call that tries -/
theorem finB (hJ : J K σ) (hK : K ≤ K') (h24 : K' < 2 ^ 24) (gf : Gd f) (gg : Gd g) (hs1 : Sw σ σ1) (e4 : σ1.1 (4, 0, 0, 0) = σ.1 (4, 0, 0, 0)) (e10 : σ1.1 (10, 0, 0, 0) = σ.1 (10, 0, 0, 0)) (en : σ1.2 = σ.2) {b : Int32} {τ : mS} (hτ : Sw σ1 τ) (t4 : τ.1 (4, 0, 0, 0) = σ1.1 (4, 0, 0, 0)) (t10 : τ.1 (10, 0, 0, 0) 4 = σ1.1 (10, 0, 0, 0) 4) (tn : τ.2 = σ1.2) (hf : f σ = some (some (some (.inl v)), σ1)) (hg : g σ1 = some (some (some (.inl v)), bck τ N O W b)) : Res K' f g σ := by
  refine ⟨v, _, _, hf, hg, hJ.sw ((hs1.tr hτ).tr Sw.bk) (hJ.2.2.2.2.1.same ?_ ?_ ?_ ?_) ((gg _ _ hg).2 ((gf _ _ hf).2 hJ.2.2.2.2.2)) hK h24⟩
  · rw [bck_ne (by decide) (by decide), t4, e4]
  · rw [bck_10 (by decide), t10, e10]
  · show τ.2 _ = _
    rw [tn, en]
  · show τ.2 _ = _
    rw [tn, en]
theorem finBT (hJ : J K σ) (hK : K ≤ K') (h24 : K' < 2 ^ 24) (gf : Gd f) (gg : Gd g) (hl : l.length ≤ 16) (hs1 : Sw σ σ1) {b : Int32} {τ : mS} (hτ : Sw (tC σ1 l) τ) (t4 : τ.1 (4, 0, 0, 0) = (tC σ1 l).1 (4, 0, 0, 0)) (tn : τ.2 = (tC σ1 l).2) (hf : f σ = some (some (some (.inl v)), tC σ1 l)) (hg : g (tC σ1 l) = some (some (some (.inl v)), tM (bck τ N O W b) l)) : Res K' f g σ := by
  refine ⟨v, _, _, hf, hg, hJ.sw (((hs1.tr Sm.cT.sw).tr hτ).tr (Sw.bk.tr Sm.mT.sw)) (JN.told hl ?_ (fun k hk => ?_)) ((gg _ _ hg).2 ((gf _ _ hf).2 hJ.2.2.2.2.2)) hK h24⟩
  · rw [bck_ne (by decide) (by decide), t4]; exact tC_len
  · show l[k]? = some (τ.2 (24, 0, 0, 0) k)
    rw [tn]; exact tC_at hk
theorem w1_4 : (wC 1 σ C).1 (4, 0, 0, 0) = σ.1 (4, 0, 0, 0) := wC_same (by unfold aK; decide)
theorem w1_10 : (wC 1 σ C).1 (10, 0, 0, 0) = σ.1 (10, 0, 0, 0) := wC_same (by unfold aK; decide)
theorem w1_30 : (wC 1 σ C).1 (30, 0, 0, 0) = σ.1 (30, 0, 0, 0) := wC_same (by unfold aK; decide)
theorem w1_34 : (wC 1 σ C).1 (34, 0, 0, 0) = σ.1 (34, 0, 0, 0) := wC_same (by unfold aK; decide)
theorem w1_35 : (wC 1 σ C).1 (35, 0, 0, 0) = σ.1 (35, 0, 0, 0) := wC_same (by unfold aK; decide)
/-- the reference's store as it begins to try -/
theorem lay5 {N O W : Nat → Int32} {b : Int32} (e30 : τ.1 (30, 0, 0, 0) = N) (e34 : τ.1 (34, 0, 0, 0) = O) (e35 : τ.1 (35, 0, 0, 0) = W) (e12 : τ.1 (10, 0, 0, 0) 12 = b) : e_X10_layAside τ = some (some none, wM (lay τ) N O W b) := by
  rw [← e30, ← e34, ← e35, ← e12, lay_w]
  exact m_lay
theorem st5_x (h : o ≠ (10, 0, 0, 0)) : (st σ (10, 0, 0, 0) 5 (nI 0)).1 o = σ.1 o := st_ne h
theorem st5_10 (h : i ≠ 5) : (st σ (10, 0, 0, 0) 5 (nI 0)).1 (10, 0, 0, 0) i = σ.1 (10, 0, 0, 0) i := by rw [st_self]; exact upd_n h
theorem o_ahead (hJ : J K σ) (hK : K + 60 ≤ K') (h24 : K' < 2 ^ 24) : Res K' (e_X9_ahead p1 p2) (e_X10_ahead p1 p2) σ := by
  by_cases h1 : ¬ p1 < nI 1 ∧ ¬ nI 60 < p1
  · by_cases h2 : isS 5 p2
    · obtain ⟨C, M, C1, hd, hV, hR, tb, hR1⟩ := tri hJ
      have hM := hV.1.2.1
      have hN0 := hV.1.1
      have h1' := h1
      obtain ⟨n, n1, n2, rfl⟩ := one_n (by omega) h1'
      obtain ⟨C', N', O', W', b', s1, s2, M', hV', hR'⟩ := pr_slots (a := 1) n K C1 (σ.1 (30, 0, 0, 0)) (σ.1 (34, 0, 0, 0)) (σ.1 (35, 0, 0, 0)) (σ.1 (10, 0, 0, 0) 12) ⟨M, hV, hR1⟩ (by omega)
      have hM' := hV'.1.2.1
      have hN0' := hV'.1.1
      have h2' := h2
      obtain ⟨j, hj, rfl⟩ := h2'
      have hd1 : Hd 1 (wC 1 σ C') C' := Hd.mk'
      have hd0 : Hd 0 (wC 1 σ C') C := hd.oth (by omega)
      obtain ⟨i1, i2, i3, i4⟩ := hV.2.2.2.2.2.1.2
      obtain ⟨j1, j2, j3, j4⟩ := hV'.2.2.2.2.2.1.2
      have hf : e_X9_ahead (nI n) (nI j) σ = some (some (some (.inl (if nI j = nI 0 then N' 1336 - σ.1 (30, 0, 0, 0) 1336 else if nI j = nI 1 then N' 1337 - σ.1 (30, 0, 0, 0) 1337 else if nI j = nI 2 then N' 1338 - σ.1 (30, 0, 0, 0) 1338 else if nI j = nI 3 then sW N' M' else N' 1329))), wC 1 σ C') := by
        rw [q_X9_ahead, if_neg h1.1, if_neg h1.2, if_neg (nI_pos (by omega)), if_neg (nI_nlt (by omega) (by omega)), tb]
        dsimp only [bdV]
        rw [c_ah_from (by omega) n 0 (by omega), s1]
        dsimp only [bdV]
        rw [q_X9_ahead_35, if_neg (nI_nlt (by omega) (by omega)), c_sumOf hd1 hR' hM' hN0' (by omega), c_sumOf hd1 hR' hM' hN0' (by omega), c_sumOf hd1 hR' hM' hN0' (by omega), c_allW hd1 hR' hM' hN0', hd1.rd ix_sending, hR'.pl (pd_hi (by omega)), ← j1, ← j2, ← j3]
        dsimp only [bdI]
        rw [c_sumOf hd0 hR hM hN0 (by omega), c_sumOf hd0 hR hM hN0 (by omega), c_sumOf hd0 hR hM hN0 (by omega), ← i1, ← i2, ← i3]
        dsimp only
        (repeat' split) <;> rfl
      have lw := lay5 (τ := st (wC 1 σ C') (10, 0, 0, 0) 5 (nI 0)) (N := σ.1 (30, 0, 0, 0)) (O := σ.1 (34, 0, 0, 0)) (W := σ.1 (35, 0, 0, 0)) (b := σ.1 (10, 0, 0, 0) 12) (by rw [st5_x (by decide), w1_30]) (by rw [st5_x (by decide), w1_34]) (by rw [st5_x (by decide), w1_35]) (by rw [st5_10 (by decide), w1_10])
      have l36 : (st (wC 1 σ C') (10, 0, 0, 0) 5 (nI 0)).1 (30, 0, 0, 0) = σ.1 (30, 0, 0, 0) := by rw [st5_x (by decide), w1_30]
      have hg : e_X10_ahead (nI n) (nI j) (wC 1 σ C') = some (some (some (.inl (if nI j = nI 0 then N' 1336 - σ.1 (30, 0, 0, 0) 1336 else if nI j = nI 1 then N' 1337 - σ.1 (30, 0, 0, 0) 1337 else if nI j = nI 2 then N' 1338 - σ.1 (30, 0, 0, 0) 1338 else if nI j = nI 3 then sW N' M' else N' 1329))), bck (st (wC 1 σ C') (10, 0, 0, 0) 5 (nI 0)) N' O' W' b') := by
        rw [q_X10_ahead]
        dsimp only
        rw [m_in]
        dsimp only [bdI]
        rw [if_bI h1, m_in, propext (in_S2 (by omega))]
        dsimp only
        rw [if_bI h2, lw]
        dsimp only [bdV]
        rw [m_go (by omega), s2]
        dsimp only [bdV]
        rw [M_allW (by rw [wM_30]; exact hN0') hM']
        dsimp only [bdI]
        rw [m_bck]
        dsimp only
        simp (disch := omega) only [nI_clamp, ck2, if_false, lay_36, wM_30]
        rw [cpl_lt (by omega), cpl_lt (by omega), cpl_lt (by omega), l36]
        by_cases q0 : nI j = nI 0
        · rw [if_pos (show nI j = 0 from q0), if_pos q0]
        · rw [if_neg (show ¬ nI j = 0 from q0), if_neg q0]
          (repeat' split) <;> rfl
      exact finB hJ (by omega) h24 (fun _ _ h => Ev_gn h) (fun _ _ h => Ev_gn h) Sm.w1.sw w1_4 w1_10 rfl Sw.st5 (st5_x (by decide)) (st5_10 (by decide)) rfl hf hg
    · refine fin0 (v := -1) hJ (by omega) h24 (fun _ _ h => Ev_gn h) (fun _ _ h => Ev_gn h) ?_ ?_
      · rw [q_X9_ahead, if_neg h1.1, if_neg h1.2]
        rcases nS_cases (k := 4) (by omega) h2 with h3 | h3
        · rw [if_pos h3]
        · by_cases h4 : p2 < 0
          · rw [if_pos h4]
          · rw [if_neg h4, if_pos h3]
      · rw [q_X10_ahead]
        dsimp only
        rw [m_in]
        dsimp only [bdI]
        rw [if_bI h1, m_in, propext (in_S2 (by omega))]
        dsimp only
        rw [if_nbI h2]
  · refine fin0 (v := -1) hJ (by omega) h24 (fun _ _ h => Ev_gn h) (fun _ _ h => Ev_gn h) ?_ ?_
    · rw [q_X9_ahead]
      by_cases h3 : p1 < nI 1
      · rw [if_pos h3]
      · rw [if_neg h3, if_pos (Classical.byContradiction fun q => h1 ⟨h3, q⟩)]
    · rw [q_X10_ahead]
      dsimp only
      rw [m_in]
      dsimp only [bdI]
      rw [if_nbI h1]
/-- quiet -/
def Qt (N : Nat → Int32) (M : Nat) : Prop := sW N M = 0 ∧ ¬ ∃ s, s < M ∧ N (1179 + 16 * s) = nI 1
theorem c_qt (hd : Hd a σ C) (hV : IV M K N) (hR : Rl M C N P Q) : e_X0_isQuiet a σ = some (some (some (.inl (bI (Qt N M)))), σ) := by
  have hM := hV.1.2.1
  have so := (sX_on hV.2.2.2.1 hM).1
  rw [q_X0_isQuiet, c_allW hd hR hM hV.1.1]
  dsimp only [bdI]
  by_cases g : sW N M = 0
  · rw [if_pos g, c_exOn hd hR hM hV.1.1 hV.2.2.2.1]
    dsimp only
    by_cases g2 : sX N M = 0
    · rw [if_pos g2, if_pos o1, bI_t ⟨g, so.mp g2⟩]
    · rw [if_neg g2, if_pos z1, bI_f (fun q => g2 (so.mpr q.2))]
  · rw [if_neg g, if_pos z1, bI_f (fun q => g q.1)]
theorem M_qt (hN0 : σ.1 (30, 0, 0, 0) 0 = nI M) (hM : M ≤ 6) : e_X10_isQuiet σ = some (some (some (.inl (bI (Qt (σ.1 (30, 0, 0, 0)) M)))), σ) := by
  rw [q_X10_isQuiet, M_allW hN0 hM]
  dsimp only [bdI]
  by_cases g : sW (σ.1 (30, 0, 0, 0)) M = 0
  · rw [if_pos g, M_goes hN0 hM]
    dsimp only
    by_cases g2 : ∃ s, s < M ∧ σ.1 (30, 0, 0, 0) (1179 + 16 * s) = nI 1
    · rw [if_bI g2, if_pos z1, bI_f (fun q => q.2 g2)]
    · rw [if_nbI g2, if_pos o1, bI_t ⟨g, g2⟩]
  · rw [if_neg g, if_pos z1, bI_f (fun q => g q.1)]
end TS

/-! Calls that may throw, as the law's helpers make them -/
section O6
variable {M K K' s z r i n m k a b x t h : Nat} {σ τ σ' σ1 σ2 : mS} {C D N N' C' O W P Q : Nat → Int32} {o : mO} {v w p p1 p2 p3 p4 : Int32} {l : List Int64} {f g : mS → Option mR}
theorem in_S2 (hk : k ≤ 1000) : (¬ p < nI 0 ∧ ¬ nI k < p) ↔ isS (k + 1) p := by
  rw [isS_iff (by omega), i32_lt, i32_lt, nI_toInt (by omega), nI_toInt (by omega)]
  omega
theorem nS_cases (hk : k ≤ 1000) (h : ¬ isS (k + 1) p) : p < 0 ∨ nI k < p := by
  rw [← in_S2 hk] at h
  by_cases h1 : p < nI 0
  · exact Or.inl h1
  · exact Or.inr (Classical.byContradiction fun q => h ⟨h1, q⟩)
theorem nS_cases' (hk : k ≤ 1000) (h : ¬ isS k p) : p < 0 ∨ (¬ p < 0 ∧ ¬ p < nI k) := by
  rw [isS_iff (by omega)] at h
  rw [i32_lt, i32_lt, Int32.toInt_zero, nI_toInt (by omega)]
  omega
theorem finXa (hJ : J K σ) (hK : K ≤ K') (h24 : K' < 2 ^ 24) (gf : Gd f) (gg : Gd g) {E : Option mR} (hL : f σ = bdX E (fun v2 σ1 => if nI 0 < 0 ∨ 1 ≤ (nI 0).toNatClampNeg then none else some (some (some (.inl (nI 0))), stL σ1 (45, 0, 0, 0) ((nI 0).toNatClampNeg) (v2.toInt64))) (fun σ1 => some (some (some (.inl (nI 1))), σ1))) (hE : E = some (some (some (.inl v)), σ)) (hg : ∀ τ : mS, τ.1 = σ.1 → g τ = some (some (some (.inl v)), st τ (10, 0, 0, 0) 5 (nI 0))) : ResX K' f g σ := by
  refine finX0 (v := v) hJ hK h24 gf gg ?_ (hg _ rfl)
  rw [hL, hE]
  dsimp only [bdX]
  rw [if_neg (by decide), nI_clamp (by omega)]
theorem finXr (hJ : J K σ) (hK : K ≤ K') (h24 : K' < 2 ^ 24) (gf : Gd f) (gg : Gd g) {E : Option mR} {k2 : Int32 → mS → Option mR} (hL : f σ = bdX E k2 (fun σ1 => some (some (some (.inl (nI 1))), σ1))) (hE : E = some (none, σ)) (hg : g σ = some (some (some (.inl v)), st (st σ (10, 0, 0, 0) 5 (nI 0)) (10, 0, 0, 0) 5 (nI 1))) : ResX K' f g σ := by
  refine finX1 hJ hK h24 gf gg ?_ hg
  rw [hL, hE]
  rfl
theorem o_setting (hJ : J K σ) (hK : K ≤ K') (h24 : K' < 2 ^ 24) : ResX K' (e_L_setting p) (e_X10_setting p) σ := by
  obtain ⟨C, M, hd, hV, hR⟩ := jget hJ
  by_cases h1 : isS 13 p
  · have h1' := h1
    obtain ⟨i, hi, rfl⟩ := h1'
    refine finXa (v := σ.1 (30, 0, 0, 0) (2 + i)) hJ hK h24 (fun _ _ h => Ev_gn h) (fun _ _ h => Ev_gn h) (q_L_setting _ _) ?_ (fun τ hτ => ?_)
    · rw [q_X9_setting, if_neg (nI_pos (by omega)), if_neg (nI_nlt (by omega) (by omega))]
      by_cases hi2 : i = 12
      · subst hi2
        rw [if_pos rfl, hd.rd ix_seed, hR.pl (pd_lo (by omega))]
      · rw [if_neg (fun e => hi2 (nI_inj (by omega) (by omega) e)), if_neg (nI_in (by omega) (by omega)), nI_clamp (by omega), hd.rd (ix_set (by omega)), hR.pl (pd_lo (by omega))]
    · rw [q_X10_setting]
      dsimp only
      rw [m_in, propext (in_S2 (by omega))]
      dsimp only [bdI]
      rw [if_bI h1, nI_add, if_neg (nI_in (by omega) (by omega)), nI_clamp (by omega), s30, hτ]
  · refine finXr (v := nI 0) hJ hK h24 (fun _ _ h => Ev_gn h) (fun _ _ h => Ev_gn h) (q_L_setting _ _) ?_ ?_
    · rw [q_X9_setting]
      rcases nS_cases (k := 12) (by omega) h1 with h2 | h2
      · rw [if_pos h2]
      · by_cases h3 : p < 0
        · rw [if_pos h3]
        · rw [if_neg h3, if_pos h2]
    · rw [q_X10_setting]
      dsimp only
      rw [m_in, propext (in_S2 (by omega))]
      dsimp only [bdI]
      rw [if_nbI h1, q_X10_lost]
theorem o_tally (hJ : J K σ) (hK : K ≤ K') (h24 : K' < 2 ^ 24) : ResX K' (e_L_tally p1 p2) (e_X10_tally p1 p2) σ := by
  obtain ⟨C, M, hd, hV, hR⟩ := jget hJ
  have hM := hV.1.2.1
  have hN0 := hV.1.1
  have h0 : C 0 = nI M := (hR.pl (pd_lo (by omega))).trans hN0
  by_cases h1 : isS M p1
  · by_cases h2 : isS 9 p2
    · have h1' := h1
      obtain ⟨x, hx, rfl⟩ := h1'
      have h2' := h2
      obtain ⟨j, hj, rfl⟩ := h2'
      refine finXa (v := σ.1 (30, 0, 0, 0) (1275 + 9 * x + j)) hJ hK h24 (fun _ _ h => Ev_gn h) (fun _ _ h => Ev_gn h) (q_L_tally _ _ _) ?_ (fun τ hτ => ?_)
      · rw [q_X9_tally, c_isSt hd h0 hM]
        dsimp only [bdI]
        rw [if_bI h1, if_neg (nI_pos (by omega)), if_pos (nI_lt hj (by omega)), if_neg (nI_in (by omega) (by omega)), if_neg (nI_in (by omega) (by omega)), nI_clamp (by omega), nI_clamp (by omega), hd.rd (ix_tally (by omega) hj), hR.pl (pd_ty hM hx hj)]
      · rw [q_X10_tally]
        dsimp only
        rw [m_isSt (by rw [s30, hτ]; exact hN0) hM]
        dsimp only [bdI]
        rw [if_bI h1, m_in, propext (in_S2 (by omega))]
        dsimp only [bdI]
        rw [if_bI h2]
        simp (disch := omega) only [pk_mul, nI_add, nI_clamp, ck2, if_false, s30, hτ]
    · refine finXr (v := nI 0) hJ hK h24 (fun _ _ h => Ev_gn h) (fun _ _ h => Ev_gn h) (q_L_tally _ _ _) ?_ ?_
      · rw [q_X9_tally, c_isSt hd h0 hM]
        dsimp only [bdI]
        rw [if_bI h1]
        rcases nS_cases' (k := 9) (by omega) h2 with h3 | ⟨h3, h4⟩
        · rw [if_pos h3]
        · rw [if_neg h3, if_neg h4]
      · rw [q_X10_tally]
        dsimp only
        rw [m_isSt (by rw [s30]; exact hN0) hM]
        dsimp only [bdI]
        rw [if_bI h1, m_in, propext (in_S2 (by omega))]
        dsimp only [bdI]
        rw [if_nbI h2, q_X10_lost]
  · refine finXr (v := nI 0) hJ hK h24 (fun _ _ h => Ev_gn h) (fun _ _ h => Ev_gn h) (q_L_tally _ _ _) ?_ ?_
    · rw [q_X9_tally, c_isSt hd h0 hM]
      dsimp only [bdI]
      rw [if_nbI h1]
    · rw [q_X10_tally]
      dsimp only
      rw [m_isSt (by rw [s30]; exact hN0) hM]
      dsimp only [bdI]
      rw [if_nbI h1, q_X10_lost]
theorem o_rank (hJ : J K σ) (hK : K ≤ K') (h24 : K' < 2 ^ 24) : ResX K' (e_L_rank p1 p2 p3) (e_X10_rank p1 p2 p3) σ := by
  obtain ⟨C, M, hd, hV, hR⟩ := jget hJ
  have hM := hV.1.2.1
  have hN0 := hV.1.1
  have h0 : C 0 = nI M := (hR.pl (pd_lo (by omega))).trans hN0
  by_cases h1 : isS M p1
  · by_cases h2 : isS 4 p2
    · by_cases h3 : isS 4 p3
      · have h1' := h1
        obtain ⟨x, hx, rfl⟩ := h1'
        have h2' := h2
        obtain ⟨r, hr, rfl⟩ := h2'
        obtain ⟨j, hj, rfl⟩ := h3
        have hx6 : x < 6 := by omega
        have cs : e_X9_rank (nI x) (nI r) (nI j) σ = (if nI j = nI 0 then some (some (some (.inl (C (147 + (4 * x + r))))), σ) else if nI j = nI 1 then some (some (some (.inl (C (1155 + (4 * x + r))))), σ) else if nI j = nI 2 then some (some (some (.inl (C (1131 + (4 * x + r))))), σ) else some (some (some (.inl (bI (0 < C (147 + (4 * x + r)) ∧ C (1155 + (4 * x + r)) = 0 ∧ ¬ C (123 + x) < C (5 + r))))), σ)) := by
          have hrd := c_ready (a := 0) (s := x) (r := r) (σ := σ) (C := C) hx6 hr
          rw [show wC 0 σ C = σ from hd] at hrd
          rw [q_X9_rank, c_isSt hd h0 hM]
          dsimp only [bdI]
          rw [if_bI h1, c_isRk]
          dsimp only [bdI]
          rw [if_bI h2, if_neg (nI_pos (by omega)), if_neg (nI_nlt (by omega) (by omega)), if_neg (nI_in (by omega) (by omega)), if_neg (nI_in (by omega) (by omega)), nI_clamp (by omega), nI_clamp (by omega), hd.rd (ix_size hx6 hr), hd.rd (ix_count hx6 hr), hd.rd (ix_window hx6 hr), hrd]
          dsimp only [bdI]
          by_cases g : 0 < C (147 + (4 * x + r)) ∧ C (1155 + (4 * x + r)) = 0 ∧ ¬ C (123 + x) < C (5 + r)
          · rw [if_bI g, bI_t g]
          · rw [if_nbI g, bI_f g]
        have ms : ∀ τ : mS, τ.1 = σ.1 → e_X10_rank (nI x) (nI r) (nI j) τ = (if nI j = nI 0 then some (some (some (.inl (σ.1 (30, 0, 0, 0) (147 + (4 * x + r))))), st τ (10, 0, 0, 0) 5 (nI 0)) else if nI j = nI 1 then some (some (some (.inl (σ.1 (30, 0, 0, 0) (1155 + (4 * x + r))))), st τ (10, 0, 0, 0) 5 (nI 0)) else if nI j = nI 2 then some (some (some (.inl (σ.1 (30, 0, 0, 0) (1131 + (4 * x + r))))), st τ (10, 0, 0, 0) 5 (nI 0)) else some (some (some (.inl (bI (0 < σ.1 (30, 0, 0, 0) (147 + (4 * x + r)) ∧ σ.1 (30, 0, 0, 0) (1155 + (4 * x + r)) = 0 ∧ ¬ σ.1 (30, 0, 0, 0) (123 + x) < σ.1 (30, 0, 0, 0) (5 + r))))), st τ (10, 0, 0, 0) 5 (nI 0))) := by
          intro τ hτ
          have e30 : (st τ (10, 0, 0, 0) 5 (nI 0)).1 (30, 0, 0, 0) = σ.1 (30, 0, 0, 0) := by rw [s30, hτ]
          rw [q_X10_rank]
          dsimp only
          rw [m_isSt (by rw [e30]; exact hN0) hM]
          dsimp only [bdI]
          rw [if_bI h1, m_isRk]
          dsimp only [bdI]
          rw [if_bI h2, r_at, M_rd hx6 hr]
          simp (disch := omega) only [nI_add, nI_clamp, ck2, if_false, bdI, e30]
          by_cases g0 : nI j = nI 0
          · rw [if_pos g0, if_pos g0]
          rw [if_neg g0, if_neg g0]
          by_cases g1 : nI j = nI 1
          · rw [if_pos g1, if_pos g1]
          rw [if_neg g1, if_neg g1]
          by_cases g2 : nI j = nI 2
          · rw [if_pos g2, if_pos g2]
          rw [if_neg g2, if_neg g2, if_pos (show nI j = nI 3 from by
            have : j ≠ 0 := fun e => g0 (by rw [e])
            have : j ≠ 1 := fun e => g1 (by rw [e])
            have : j ≠ 2 := fun e => g2 (by rw [e])
            rw [show j = 3 from by omega])]
          by_cases g : 0 < σ.1 (30, 0, 0, 0) (147 + (4 * x + r)) ∧ σ.1 (30, 0, 0, 0) (1155 + (4 * x + r)) = 0 ∧ ¬ σ.1 (30, 0, 0, 0) (123 + x) < σ.1 (30, 0, 0, 0) (5 + r)
          · rw [if_bI g, bI_t g]
          · rw [if_nbI g, bI_f g]
        rw [hR.pl (pd_sz hM hx hr), hR.pl (pd_ct hM hx hr), hR.pl (pd_wi hM hx hr), hR.pl (pd_st hM hx), hR.pl (pd_lo (by omega))] at cs
        refine finXa (v := if nI j = nI 0 then σ.1 (30, 0, 0, 0) (147 + (4 * x + r)) else if nI j = nI 1 then σ.1 (30, 0, 0, 0) (1155 + (4 * x + r)) else if nI j = nI 2 then σ.1 (30, 0, 0, 0) (1131 + (4 * x + r)) else bI (0 < σ.1 (30, 0, 0, 0) (147 + (4 * x + r)) ∧ σ.1 (30, 0, 0, 0) (1155 + (4 * x + r)) = 0 ∧ ¬ σ.1 (30, 0, 0, 0) (123 + x) < σ.1 (30, 0, 0, 0) (5 + r))) hJ hK h24 (fun _ _ h => Ev_gn h) (fun _ _ h => Ev_gn h) (q_L_rank _ _ _ _) ?_ (fun τ hτ => ?_)
        · rw [cs]
          (repeat' split) <;> rfl
        · rw [ms τ hτ]
          (repeat' split) <;> rfl
      · refine finXr (v := nI 0) hJ hK h24 (fun _ _ h => Ev_gn h) (fun _ _ h => Ev_gn h) (q_L_rank _ _ _ _) ?_ ?_
        · rw [q_X9_rank, c_isSt hd h0 hM]
          dsimp only [bdI]
          rw [if_bI h1, c_isRk]
          dsimp only [bdI]
          rw [if_bI h2]
          rcases nS_cases (k := 3) (by omega) h3 with h4 | h4
          · rw [if_pos h4]
          · by_cases h5 : p3 < 0
            · rw [if_pos h5]
            · rw [if_neg h5, if_pos h4]
        · have ne : ∀ q, q < 4 → ¬ p3 = nI q := fun q hq e => h3 ⟨q, hq, e⟩
          rw [q_X10_rank]
          dsimp only
          rw [m_isSt (by rw [s30]; exact hN0) hM]
          dsimp only [bdI]
          rw [if_bI h1, m_isRk]
          dsimp only [bdI]
          rw [if_bI h2, if_neg (ne 0 (by omega)), if_neg (ne 1 (by omega)), if_neg (ne 2 (by omega)), if_neg (ne 3 (by omega)), q_X10_lost]
    · refine finXr (v := nI 0) hJ hK h24 (fun _ _ h => Ev_gn h) (fun _ _ h => Ev_gn h) (q_L_rank _ _ _ _) ?_ ?_
      · rw [q_X9_rank, c_isSt hd h0 hM]
        dsimp only [bdI]
        rw [if_bI h1, c_isRk]
        dsimp only [bdI]
        rw [if_nbI h2]
      · rw [q_X10_rank]
        dsimp only
        rw [m_isSt (by rw [s30]; exact hN0) hM]
        dsimp only [bdI]
        rw [if_bI h1, m_isRk]
        dsimp only [bdI]
        rw [if_nbI h2, q_X10_lost]
  · refine finXr (v := nI 0) hJ hK h24 (fun _ _ h => Ev_gn h) (fun _ _ h => Ev_gn h) (q_L_rank _ _ _ _) ?_ ?_
    · rw [q_X9_rank, c_isSt hd h0 hM]
      dsimp only [bdI]
      rw [if_nbI h1]
    · rw [q_X10_rank]
      dsimp only
      rw [m_isSt (by rw [s30]; exact hN0) hM]
      dsimp only [bdI]
      rw [if_nbI h1, q_X10_lost]
end O6

/-! Calls that only ask: the first ones -/
section O2
variable {M K K' s z r i n m k a b x : Nat} {σ τ σ' σ1 σ2 : mS} {C D N N' C' O W P Q : Nat → Int32} {o : mO} {v w p p1 p2 p3 : Int32} {l : List Int64} {f g : mS → Option mR}
theorem c_hear (hd : Hd a σ C) (h0 : C 0 = nI M) (hM : M ≤ 6) (hH : C (1436 + x) = bv (fun z => 0 < N (15 + 6 * x + z)) M) (hx : x < M) (hz : z < M) : e_X0_hear a (nI x) (nI z) σ = some (some (some (.inl (bI (0 < N (15 + 6 * x + z))))), σ) := by
  rw [q_X0_hear, if_neg (nI_pos (by omega)), hd.rd ix_many, h0, if_pos (nI_lt hx (by omega)), if_neg (nI_pos (by omega)), if_pos (nI_lt hz (by omega)), if_neg (nI_in (by omega) (by omega)), nI_clamp (by omega), hd.rd (ix_hears (by omega)), hH]
  by_cases h : 0 < N (15 + 6 * x + z)
  · rw [if_sn ((bv_sn hM (by omega)).mpr ⟨hz, h⟩), if_pos o1, bI_t h]
  · rw [if_ns (fun q => h ((bv_sn hM (by omega)).mp q).2), if_pos z1, bI_f h]
theorem o_busy (hJ : J K σ) (hK : K ≤ K') (h24 : K' < 2 ^ 24) : Res K' e_X9_busy e_X10_busy σ := by
  obtain ⟨C, M, hd, hV, hR⟩ := jget hJ
  refine finT (v := σ.1 (30, 0, 0, 0) 1333) hJ hK h24 (fun _ _ h => Ev_gn h) (fun _ _ h => Ev_gn h) [(σ.1 (30, 0, 0, 0) 1334).toInt64, (σ.1 (30, 0, 0, 0) 1335).toInt64] (Nat.le_of_ble_eq_true rfl) ?_ ?_
  · rw [q_X9_busy, hd.rd ix_none, hd.rd ix_more, k_two, hR.pl (pd_hi (by omega)), hR.pl (pd_hi (by omega))]
    dsimp only [bdV]
    rw [tC_same (by decide), hd.rd ix_one, hR.pl (pd_hi (by omega))]
  · rw [q_X10_busy]
    dsimp only
    rw [r_empty]
    simp (disch := omega) only [nI_clamp, ck2, if_false, t30, s30, c30, r_t0, r_t1, bdV]
theorem o_sent (hJ : J K σ) (hK : K ≤ K') (h24 : K' < 2 ^ 24) : Res K' e_X9_sent e_X10_sent σ := by
  obtain ⟨C, M, hd, hV, hR⟩ := jget hJ
  obtain ⟨t, t1, t2, t3, t4, -⟩ := hV.2.2.2.2.2.2
  have e4 : σ.1 (0, 0, 0, 0) 4 = nI t := by rw [hd.rd ix_time, hR.pl (pd_lo (by omega)), t3]
  by_cases ht : t = 0
  · refine fin0 (v := -2) hJ hK h24 (fun _ _ h => Ev_gn h) (fun _ _ h => Ev_gn h) ?_ ?_
    · rw [q_X9_sent, e4, ht, if_pos (by decide)]
    · rw [q_X10_sent]
      dsimp only
      simp (disch := omega) only [nI_clamp, ck2, if_false, s30, t4]
      rw [if_pos ht, if_pos (by decide)]
  · refine finT (v := σ.1 (30, 0, 0, 0) 1329) hJ hK h24 (fun _ _ h => Ev_gn h) (fun _ _ h => Ev_gn h) [(σ.1 (30, 0, 0, 0) 1330).toInt64, (σ.1 (30, 0, 0, 0) 1331).toInt64] (Nat.le_of_ble_eq_true rfl) ?_ ?_
    · rw [q_X9_sent, e4, if_neg (nI_ne0 (by omega) (by omega)), hd.rd ix_clear, hd.rd ix_ran, k_two, hR.pl (pd_hi (by omega)), hR.pl (pd_hi (by omega))]
      dsimp only [bdV]
      rw [tC_same (by decide), hd.rd ix_sending, hR.pl (pd_hi (by omega))]
    · rw [q_X10_sent]
      dsimp only
      rw [r_empty]
      simp (disch := omega) only [nI_clamp, ck2, if_false, t30, s30, c30, r_t0, r_t1, bdV, t4]
      rw [if_neg ht, if_neg (by decide)]
theorem o_spanOf (hJ : J K σ) (hK : K ≤ K') (h24 : K' < 2 ^ 24) : Res K' (e_X9_spanOf p) (e_X10_spanOf p) σ := by
  obtain ⟨C, M, hd, hV, hR⟩ := jget hJ
  have hM := hV.1.2.1
  have hN0 := hV.1.1
  have h0 : C 0 = nI M := (hR.pl (pd_lo (by omega))).trans hN0
  have st0 : ∀ {τ : mS} {p}, τ.1 (30, 0, 0, 0) = σ.1 (30, 0, 0, 0) → e_X10_isStation p τ = some (some (some (.inl (bI (isS M p)))), τ) := fun e => m_isSt (by rw [e]; exact hN0) hM
  by_cases h1 : isS M p
  · obtain ⟨x, hx, rfl⟩ := h1
    have h1 : isS M (nI x) := ⟨x, hx, rfl⟩
    have e1 : σ.1 (0, 0, 0, 0) 4 = σ.1 (30, 0, 0, 0) 1 := by rw [hd.rd ix_time, hR.pl (pd_lo (by omega))]
    have e2 : σ.1 (8, 0, x, 0) 8 = σ.1 (30, 0, 0, 0) (129 + x) := by rw [hd.rd (ix_span (by omega)), hR.pl (pd_sp hM hx)]
    have e3 : σ.1 (8, 0, x, 0) 10 = σ.1 (30, 0, 0, 0) (1426 + x) := by rw [hd.rd (ix_spanStep (by omega)), hR.pl (pd_se hM hx)]
    have e4 : σ.1 (8, 0, x, 0) 9 = σ.1 (30, 0, 0, 0) (1420 + x) := by rw [hd.rd (ix_spanBy (by omega)), hR.pl (pd_mk hM hx)]
    by_cases h2 : σ.1 (30, 0, 0, 0) 1 < σ.1 (30, 0, 0, 0) (129 + x)
    · refine finT (v := σ.1 (30, 0, 0, 0) (1420 + x)) hJ hK h24 (fun _ _ h => Ev_gn h) (fun _ _ h => Ev_gn h) [(σ.1 (30, 0, 0, 0) (1426 + x)).toInt64, (σ.1 (30, 0, 0, 0) (129 + x) - σ.1 (30, 0, 0, 0) 1).toInt64] (Nat.le_of_ble_eq_true rfl) ?_ ?_
      · rw [q_X9_spanOf, c_isSt hd h0 hM]
        dsimp only [bdI]
        rw [if_bI h1, if_neg (nI_in (by omega) (by omega)), nI_clamp (by omega), e1, e2, e3, if_pos h2, k_two]
        dsimp only [bdV]
        rw [tC_same (o := (8, 0, x, 0)) (by dsimp only; omega), e4]
      · rw [q_X10_spanOf]
        dsimp only
        rw [st0 (by rw [s30, c30])]
        dsimp only [bdI]
        rw [if_bI h1, r_empty]
        simp (disch := omega) only [nI_add, nI_clamp, ck2, if_false, t30, s30, c30, r_t0, r_t1, bdV]
        rw [if_pos h2]
    · refine fin0 (v := -2) hJ hK h24 (fun _ _ h => Ev_gn h) (fun _ _ h => Ev_gn h) ?_ ?_
      · rw [q_X9_spanOf, c_isSt hd h0 hM]
        dsimp only [bdI]
        rw [if_bI h1, if_neg (nI_in (by omega) (by omega)), nI_clamp (by omega), e1, e2, if_neg h2]
      · rw [q_X10_spanOf]
        dsimp only
        rw [st0 (by rw [s30])]
        dsimp only [bdI]
        rw [if_bI h1]
        simp (disch := omega) only [nI_add, nI_clamp, ck2, if_false, s30]
        rw [if_neg h2]
  · refine fin0 (v := -1) hJ hK h24 (fun _ _ h => Ev_gn h) (fun _ _ h => Ev_gn h) ?_ ?_
    · rw [q_X9_spanOf, c_isSt hd h0 hM]
      dsimp only [bdI]
      rw [if_nbI h1]
    · rw [q_X10_spanOf]
      dsimp only
      rw [st0 (by rw [s30])]
      dsimp only [bdI]
      rw [if_nbI h1]
theorem o_rate (hJ : J K σ) (hK : K ≤ K') (h24 : K' < 2 ^ 24) : Res K' (e_X9_rate p1 p2) (e_X10_rate p1 p2) σ := by
  obtain ⟨C, M, hd, hV, hR⟩ := jget hJ
  have hM := hV.1.2.1
  have hN0 := hV.1.1
  have h0 : C 0 = nI M := (hR.pl (pd_lo (by omega))).trans hN0
  have st0 : ∀ {τ : mS} {p}, τ.1 (30, 0, 0, 0) = σ.1 (30, 0, 0, 0) → e_X10_isStation p τ = some (some (some (.inl (bI (isS M p)))), τ) := fun e => m_isSt (by rw [e]; exact hN0) hM
  have no : (¬ isS M p1 ∨ ¬ isS M p2 ∨ p1 = p2) → Res K' (e_X9_rate p1 p2) (e_X10_rate p1 p2) σ := fun h => by
    refine fin0 (v := -1) hJ hK h24 (fun _ _ h => Ev_gn h) (fun _ _ h => Ev_gn h) ?_ ?_
    · rw [q_X9_rate, c_isSt hd h0 hM]
      dsimp only [bdI]
      by_cases h1 : isS M p1
      · rw [if_bI h1, c_isSt hd h0 hM]
        dsimp only [bdI]
        by_cases h2 : isS M p2
        · rw [if_bI h2, if_pos ((h.resolve_left (fun q => q h1)).resolve_left (fun q => q h2))]
        · rw [if_nbI h2]
      · rw [if_nbI h1]
    · rw [q_X10_rate]
      dsimp only
      rw [st0 (by rw [s30])]
      dsimp only [bdI]
      by_cases h1 : isS M p1
      · rw [if_bI h1, st0 (by rw [s30])]
        dsimp only [bdI]
        by_cases h2 : isS M p2
        · rw [if_bI h2, if_pos ((h.resolve_left (fun q => q h1)).resolve_left (fun q => q h2))]
        · rw [if_nbI h2]
      · rw [if_nbI h1]
  by_cases h1 : isS M p1
  · by_cases h2 : isS M p2
    · by_cases h3 : p1 = p2
      · exact no (Or.inr (Or.inr h3))
      · obtain ⟨x, hx, rfl⟩ := h1
        obtain ⟨z, hz, rfl⟩ := h2
        have h1 : isS M (nI x) := ⟨x, hx, rfl⟩
        have h2 : isS M (nI z) := ⟨z, hz, rfl⟩
        have e1 : σ.1 (19, 0, x, 0) z = σ.1 (30, 0, 0, 0) (87 + 6 * x + z) := by rw [hd.rd (ix_luck (by omega) (by omega)), hR.pl (pd_lk hM hx (by omega))]
        have e2 : σ.1 (17, 0, x, 0) z = σ.1 (30, 0, 0, 0) (15 + 6 * x + z) := by rw [hd.rd (ix_quality (by omega) (by omega)), hR.pl (pd_ql hM hx (by omega))]
        have e3 : σ.1 (18, 0, x, 0) z = σ.1 (30, 0, 0, 0) (51 + 6 * x + z) := by rw [hd.rd (ix_rate (by omega) (by omega)), hR.pl (pd_rt hM hx (by omega))]
        by_cases h4 : 0 < σ.1 (30, 0, 0, 0) (15 + 6 * x + z)
        · refine finT (v := σ.1 (30, 0, 0, 0) (51 + 6 * x + z)) hJ hK h24 (fun _ _ h => Ev_gn h) (fun _ _ h => Ev_gn h) [(σ.1 (30, 0, 0, 0) (87 + 6 * x + z)).toInt64, (σ.1 (30, 0, 0, 0) (15 + 6 * x + z)).toInt64] (Nat.le_of_ble_eq_true rfl) ?_ ?_
          · rw [q_X9_rate, c_isSt hd h0 hM]
            dsimp only [bdI]
            rw [if_bI h1, c_isSt hd h0 hM]
            dsimp only [bdI]
            rw [if_bI h2, if_neg h3, c_hear hd h0 hM (hR.2.1 x hx) hx hz]
            dsimp only [bdI]
            rw [if_bI h4]
            simp (disch := omega) only [nI_clamp, ck2, if_false, e1, e2, k_two, bdV]
            rw [tC_same (o := (18, 0, x, 0)) (by dsimp only; omega), e3]
          · rw [q_X10_rate]
            dsimp only
            rw [st0 (by rw [s30, c30])]
            dsimp only [bdI]
            rw [if_bI h1, st0 (by rw [s30, c30])]
            dsimp only [bdI]
            rw [if_bI h2, if_neg h3, M_h (by omega) (by omega), s30, c30]
            dsimp only [bdI]
            rw [if_bI h4, r_empty]
            simp (disch := omega) only [pk_mul, nI_add, nI_clamp, ck2, if_false, t30, s30, c30, r_t0, r_t1, bdV, M_q, bdI]
        · refine fin0 (v := -2) hJ hK h24 (fun _ _ h => Ev_gn h) (fun _ _ h => Ev_gn h) ?_ ?_
          · rw [q_X9_rate, c_isSt hd h0 hM]
            dsimp only [bdI]
            rw [if_bI h1, c_isSt hd h0 hM]
            dsimp only [bdI]
            rw [if_bI h2, if_neg h3, c_hear hd h0 hM (hR.2.1 x hx) hx hz]
            dsimp only [bdI]
            rw [if_nbI h4]
          · rw [q_X10_rate]
            dsimp only
            rw [st0 (by rw [s30])]
            dsimp only [bdI]
            rw [if_bI h1, st0 (by rw [s30])]
            dsimp only [bdI]
            rw [if_bI h2, if_neg h3, M_h (by omega) (by omega), s30]
            dsimp only [bdI]
            rw [if_nbI h4]
    · exact no (Or.inr (Or.inl h2))
  · exact no (Or.inl h1)
end O2

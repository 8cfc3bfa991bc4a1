/-! Calls that only ask: exchanges, what was had, hidden ones -/
section O4
variable {M K K' s z r i n m k a b x t h : Nat} {σ τ σ' σ1 σ2 : mS} {C D N N' C' O W P Q : Nat → Int32} {o : mO} {v w p p1 p2 p3 : Int32} {l : List Int64} {f g : mS → Option mR}
/-- calls that take a station: what refuses all others -/
theorem st_no (hJ : J K σ) (hK : K ≤ K') (h24 : K' < 2 ^ 24) (gf : Gd f) (gg : Gd g) {kc km : Int32 → mS → Option mR} (hf : f σ = bdI (e_X9_isStation p σ) kc) (hg : g σ = bdI (e_X10_isStation p (st σ (10, 0, 0, 0) 5 (nI 0))) km) (hkc : kc (nI 0) σ = some (some (some (.inl (-1))), σ)) (hkm : km (nI 0) (st σ (10, 0, 0, 0) 5 (nI 0)) = some (some (some (.inl (-1))), st σ (10, 0, 0, 0) 5 (nI 0))) (hN0 : σ.1 (30, 0, 0, 0) 0 = nI M) (hM : M ≤ 6) {C : Nat → Int32} (hd : Hd 0 σ C) (h0 : C 0 = nI M) (h1 : ¬ isS M p) : Res K' f g σ := by
  refine fin0 (v := -1) hJ hK h24 gf gg ?_ ?_
  · rw [hf, c_isSt hd h0 hM, bI_f h1]
    exact hkc
  · rw [hg, m_isSt (by rw [s30]; exact hN0) hM, bI_f h1]
    exact hkm
theorem o_why (hJ : J K σ) (hK : K ≤ K') (h24 : K' < 2 ^ 24) : Res K' (e_X9_why p) (e_X10_why p) σ := by
  obtain ⟨C, M, hd, hV, hR⟩ := jget hJ
  have hM := hV.1.2.1
  have hN0 := hV.1.1
  have h0 : C 0 = nI M := (hR.pl (pd_lo (by omega))).trans hN0
  by_cases h1 : isS M p
  · obtain ⟨x, hx, rfl⟩ := h1
    have h1 : isS M (nI x) := ⟨x, hx, rfl⟩
    have e1 : σ.1 (3, 0, x, 0) 3 = σ.1 (30, 0, 0, 0) (1342 + 3 * x) := (hd.rd (ix_hfail (by omega))).trans (hR.pl (pd_fs (i := 0) hM hx (by omega)))
    have e2 : σ.1 (3, 0, x, 0) 4 = σ.1 (30, 0, 0, 0) (1342 + 3 * x + 1) := by rw [hd.rd (ix_hfailSlot (by omega)), hR.pl (pd_fs hM hx (by omega))]
    have e3 : σ.1 (3, 0, x, 0) 5 = σ.1 (30, 0, 0, 0) (1342 + 3 * x + 2) := by rw [hd.rd (ix_hfailWith (by omega)), hR.pl (pd_fs hM hx (by omega))]
    by_cases h2 : σ.1 (30, 0, 0, 0) (1342 + 3 * x) = 0
    · refine fin0 (v := -2) hJ hK h24 (fun _ _ h => Ev_gn h) (fun _ _ h => Ev_gn h) ?_ ?_
      · rw [q_X9_why, c_isSt hd h0 hM]
        dsimp only [bdI]
        rw [if_bI h1, if_neg (nI_in (by omega) (by omega)), nI_clamp (by omega), e1, if_pos h2]
      · rw [q_X10_why]
        dsimp only
        rw [m_isSt (by rw [s30]; exact hN0) hM]
        dsimp only [bdI]
        rw [if_bI h1]
        simp (disch := omega) only [pk_mul, nI_add, nI_clamp, ck2, if_false, s30]
        rw [if_pos h2]
    · refine finT (v := σ.1 (30, 0, 0, 0) (1342 + 3 * x)) hJ hK h24 (fun _ _ h => Ev_gn h) (fun _ _ h => Ev_gn h) [(σ.1 (30, 0, 0, 0) (1342 + 3 * x + 1)).toInt64, (σ.1 (30, 0, 0, 0) (1342 + 3 * x + 2)).toInt64] (Nat.le_of_ble_eq_true rfl) ?_ ?_
      · rw [q_X9_why, c_isSt hd h0 hM]
        dsimp only [bdI]
        rw [if_bI h1, if_neg (nI_in (by omega) (by omega)), nI_clamp (by omega), e1, if_neg h2, e2, e3, k_two]
        dsimp only [bdV]
        rw [tC_same (o := (3, 0, x, 0)) (by dsimp only; omega), e1]
      · rw [q_X10_why]
        dsimp only
        rw [m_isSt (by rw [s30, c30]; exact hN0) hM]
        dsimp only [bdI]
        rw [if_bI h1, r_empty]
        simp (disch := omega) only [pk_mul, nI_add, nI_clamp, ck2, if_false, t30, s30, c30, r_t0, r_t1, bdV]
        rw [if_neg h2]
  · refine st_no hJ hK h24 (fun _ _ h => Ev_gn h) (fun _ _ h => Ev_gn h) (q_X9_why _ _) (q_X10_why _ _) ?_ ?_ hN0 hM hd h0 h1
    · exact if_pos rfl
    · exact if_pos rfl
theorem o_spoilt (hJ : J K σ) (hK : K ≤ K') (h24 : K' < 2 ^ 24) : Res K' (e_X9_spoilt p1 p2) (e_X10_spoilt p1 p2) σ := by
  obtain ⟨C, M, hd, hV, hR⟩ := jget hJ
  have hM := hV.1.2.1
  have hN0 := hV.1.1
  have h0 : C 0 = nI M := (hR.pl (pd_lo (by omega))).trans hN0
  by_cases h1 : isS M p1
  · by_cases h2 : isS M p2 ∧ p1 ≠ p2
    · obtain ⟨h2, h3⟩ := h2
      obtain ⟨x, hx, rfl⟩ := h1
      obtain ⟨z, hz, rfl⟩ := h2
      have h1 : isS M (nI x) := ⟨x, hx, rfl⟩
      have h2 : isS M (nI z) := ⟨z, hz, rfl⟩
      have hzx : z ≠ x := fun e => h3 (by rw [e])
      have e1 : σ.1 (3, 0, x, 0) 2 = σ.1 (30, 0, 0, 0) (1396 + x) := by rw [hd.rd (ix_dataPlaces (by omega)), hR.pl (pd_go hM hx)]
      have e2 : σ.1 (16, 0, x, 0) z = σ.1 (30, 0, 0, 0) (1360 + 6 * x + z) := by rw [hd.rd (ix_spoilt (by omega) (by omega)), hR.pl (pd_so hM hx (by omega) hzx)]
      refine finT (v := σ.1 (30, 0, 0, 0) (1360 + 6 * x + z)) hJ hK h24 (fun _ _ h => Ev_gn h) (fun _ _ h => Ev_gn h) [(σ.1 (30, 0, 0, 0) (1396 + x)).toInt64] (Nat.le_of_ble_eq_true rfl) ?_ ?_
      · rw [q_X9_spoilt, c_isSt hd h0 hM]
        dsimp only [bdI]
        rw [if_bI h1, c_isSt hd h0 hM]
        dsimp only [bdI]
        rw [if_bI h2, if_neg h3, if_neg (nI_in (by omega) (by omega)), nI_clamp (n := x) (by omega), e1, k_one]
        dsimp only [bdV]
        rw [if_neg (nI_in (by omega) (by omega)), nI_clamp (n := z) (by omega), tC_same (o := (16, 0, x, 0)) (by dsimp only; omega), e2]
      · rw [q_X10_spoilt]
        dsimp only
        rw [m_isSt (by rw [s30, c30]; exact hN0) hM]
        dsimp only [bdI]
        rw [if_bI h1, m_isSt (by rw [s30, c30]; exact hN0) hM]
        dsimp only [bdI]
        rw [if_bI h2, if_neg h3, r_empty]
        simp (disch := omega) only [pk_mul, nI_add, nI_clamp, ck2, if_false, t30, s30, c30, r_t0, bdV]
    · refine fin0 (v := -1) hJ hK h24 (fun _ _ h => Ev_gn h) (fun _ _ h => Ev_gn h) ?_ ?_
      · rw [q_X9_spoilt, c_isSt hd h0 hM]
        dsimp only [bdI]
        rw [if_bI h1, c_isSt hd h0 hM]
        dsimp only [bdI]
        by_cases h4 : isS M p2
        · rw [if_bI h4, if_pos (Classical.byContradiction fun q => h2 ⟨h4, q⟩)]
        · rw [if_nbI h4]
      · rw [q_X10_spoilt]
        dsimp only
        rw [m_isSt (by rw [s30]; exact hN0) hM]
        dsimp only [bdI]
        rw [if_bI h1, m_isSt (by rw [s30]; exact hN0) hM]
        dsimp only [bdI]
        by_cases h4 : isS M p2
        · rw [if_bI h4, if_pos (Classical.byContradiction fun q => h2 ⟨h4, q⟩)]
        · rw [if_nbI h4]
  · refine st_no hJ hK h24 (fun _ _ h => Ev_gn h) (fun _ _ h => Ev_gn h) (q_X9_spoilt _ _ _) (q_X10_spoilt _ _ _) ?_ ?_ hN0 hM hd h0 h1
    · exact if_pos rfl
    · exact if_pos rfl
theorem o_held (hJ : J K σ) (hK : K ≤ K') (h24 : K' < 2 ^ 24) : Res K' (e_X9_held p) (e_X10_held p) σ := by
  obtain ⟨C, M, hd, hV, hR⟩ := jget hJ
  have hM := hV.1.2.1
  have hN0 := hV.1.1
  have h0 : C 0 = nI M := (hR.pl (pd_lo (by omega))).trans hN0
  by_cases h1 : isS M p
  · obtain ⟨x, hx, rfl⟩ := h1
    have h1 : isS M (nI x) := ⟨x, hx, rfl⟩
    have e1 : σ.1 (3, 0, x, 0) 6 = σ.1 (30, 0, 0, 0) (1402 + 3 * x + 0) := by rw [hd.rd (ix_hspan (by omega)), ← hR.pl (pd_hd hM hx (by omega))]; rfl
    have e2 : σ.1 (3, 0, x, 0) 7 = σ.1 (30, 0, 0, 0) (1402 + 3 * x + 1) := by rw [hd.rd (ix_hhear (by omega)), hR.pl (pd_hd hM hx (by omega))]
    have e3 : σ.1 (3, 0, x, 0) 8 = σ.1 (30, 0, 0, 0) (1402 + 3 * x + 2) := by rw [hd.rd (ix_helse (by omega)), hR.pl (pd_hd hM hx (by omega))]
    refine finT (v := σ.1 (30, 0, 0, 0) (1402 + 3 * x + 0) + σ.1 (30, 0, 0, 0) (1402 + 3 * x + 1) + σ.1 (30, 0, 0, 0) (1402 + 3 * x + 2)) hJ hK h24 (fun _ _ h => Ev_gn h) (fun _ _ h => Ev_gn h) [(σ.1 (30, 0, 0, 0) (1402 + 3 * x + 0)).toInt64, (σ.1 (30, 0, 0, 0) (1402 + 3 * x + 1)).toInt64, (σ.1 (30, 0, 0, 0) (1402 + 3 * x + 2)).toInt64] (Nat.le_of_ble_eq_true rfl) ?_ ?_
    · rw [q_X9_held, c_isSt hd h0 hM]
      dsimp only [bdI]
      rw [if_bI h1, if_neg (nI_in (by omega) (by omega)), nI_clamp (by omega), e1, e2, e3, k_three]
      dsimp only [bdV]
      rw [tC_same (o := (3, 0, x, 0)) (by dsimp only; omega), e1, e2, e3]
    · rw [q_X10_held]
      dsimp only
      rw [m_isSt (by rw [s30, c30]; exact hN0) hM]
      dsimp only [bdI]
      rw [if_bI h1, r_empty, q_X10_held_24, if_pos (nI_lt (by omega) (by omega))]
      simp (disch := omega) only [pk_mul, nI_add, nI_1, nI_clamp, ck2, if_false, t30, s30, c30, r_t0, bdV]
      rw [q_X10_held_24, if_pos (nI_lt (by omega) (by omega))]
      simp (disch := omega) only [pk_mul, nI_add, nI_1, nI_clamp, ck2, if_false, t30, s30, c30, r_t1, bdV]
      rw [q_X10_held_24, if_pos (nI_lt (by omega) (by omega))]
      simp (disch := omega) only [pk_mul, nI_add, nI_1, nI_clamp, ck2, if_false, t30, s30, c30, r_t2, bdV]
      rw [q_X10_held_24, if_neg (nI_nlt (by omega) (by omega)), show nI 0 = 0 from rfl, Int32.zero_add]
  · refine st_no hJ hK h24 (fun _ _ h => Ev_gn h) (fun _ _ h => Ev_gn h) (q_X9_held _ _) (q_X10_held _ _) ?_ ?_ hN0 hM hd h0 h1
    · exact if_pos rfl
    · exact if_pos rfl
theorem M_places (hx : x < 6) (hh : σ.1 (30, 0, 0, 0) (1179 + 16 * x + 3) = nI h) (h4 : h ≤ 4) : ∀ d i, i + d = h → b_X10_placesOf_4 (nI (1179 + 16 * x)) (ps (σ.1 (30, 0, 0, 0)) x i) (nI i) σ = some (some (some (.inl (ps (σ.1 (30, 0, 0, 0)) x h))), σ)
  | 0, i, hi => by
    have : i = h := by omega
    subst this
    rw [q_X10_placesOf_4, nI_add, if_neg (nI_in (by omega) (by omega)), nI_clamp (by omega), hh, if_neg (nI_nlt (by omega) (by omega))]
  | d + 1, i, hi => by
    have ih := M_places hx hh h4 d (i + 1) (by omega)
    rw [show ps (σ.1 (30, 0, 0, 0)) x (i + 1) = ps (σ.1 (30, 0, 0, 0)) x i + σ.1 (30, 0, 0, 0) (1179 + 16 * x + 11 + i) from rfl] at ih
    rw [q_X10_placesOf_4, nI_add, if_neg (nI_in (by omega) (by omega)), nI_clamp (by omega), hh, if_pos (nI_lt (by omega) (by omega)), nI_add, nI_add, if_neg (nI_in (by omega) (by omega)), nI_clamp (by omega), nI_1]
    exact ih
theorem o_exchange (hJ : J K σ) (hK : K ≤ K') (h24 : K' < 2 ^ 24) : Res K' (e_X9_exchange p p2) (e_X10_exchange p p2) σ := by
  obtain ⟨C, M, hd, hV, hR⟩ := jget hJ
  have hM := hV.1.2.1
  have hN0 := hV.1.1
  have h0 : C 0 = nI M := (hR.pl (pd_lo (by omega))).trans hN0
  by_cases h1 : isS M p
  · obtain ⟨x, hx, rfl⟩ := h1
    have h1 : isS M (nI x) := ⟨x, hx, rfl⟩
    have hx6 : x < 6 := by omega
    have e0 : σ.1 (2, 0, x, 0) 0 = σ.1 (30, 0, 0, 0) (1179 + 16 * x) := by rw [hd.rd (ix_on hx6), hR.on hx]
    rcases hV.2.2.2.1 x hx with hon | ⟨y, r, hh, ph, c, q, ww, pp, hE⟩
    · refine fin0 (v := -1) hJ hK h24 (fun _ _ h => Ev_gn h) (fun _ _ h => Ev_gn h) ?_ ?_
      · rw [q_X9_exchange, c_isSt hd h0 hM]
        dsimp only [bdI]
        rw [if_bI h1, if_neg (nI_in (by omega) (by omega)), nI_clamp (by omega), e0, if_pos (by rw [hon]; rfl)]
      · rw [q_X10_exchange]
        dsimp only
        rw [m_isSt (by rw [s30]; exact hN0) hM]
        dsimp only [bdI]
        rw [if_bI h1, m_exAt]
        dsimp only [bdI]
        rw [nI_add, if_neg (nI_in (by omega) (by omega)), nI_clamp (by omega), s30, Nat.add_zero, if_pos (by rw [hon]; rfl)]
    · obtain ⟨⟨a0, a1, a2, a3, a4, a7, a8, a6⟩, ⟨-, -, -, -, -, h4, -⟩, -⟩ := hE
      obtain ⟨f1, f2, f3, f4, f6, f7, f10, f15, f5, f8, f9, f11⟩ := (hR.ex hx).2 a0
      have key : ∀ v, (∀ τ, τ = st σ (10, 0, 0, 0) 5 (nI 0) → e_X9_exchange (nI x) p2 σ = some (some (some (.inl v)), σ) ∧ e_X10_exchange (nI x) p2 σ = some (some (some (.inl v)), τ)) → Res K' (e_X9_exchange (nI x) p2) (e_X10_exchange (nI x) p2) σ := fun v hh => fin0 hJ hK h24 (fun _ _ h => Ev_gn h) (fun _ _ h => Ev_gn h) (hh _ rfl).1 (hh _ rfl).2
      have cs : e_X9_exchange (nI x) p2 σ = (if p2 = nI 0 then some (some (some (.inl (C (1179 + 16 * x + 1)))), σ) else if p2 = nI 1 then some (some (some (.inl (C (1179 + 16 * x + 2)))), σ) else if p2 = nI 2 then some (some (some (.inl (C (1179 + 16 * x + 3)))), σ) else if p2 = nI 3 then some (some (some (.inl (C (1179 + 16 * x + 11)))), σ) else if p2 = nI 4 then some (some (some (.inl (C (1179 + 16 * x + 4)))), σ) else if p2 = nI 5 then (if C (1179 + 16 * x + 4) = nI 2 then some (some (some (.inl (C (1179 + 16 * x + 5)))), σ) else some (some (some (.inl (nI 1))), σ)) else if p2 = nI 6 then some (some (some (.inl (C (1179 + 16 * x + 6)))), σ) else some (some (some (.inl (-1))), σ)) := by
        rw [q_X9_exchange, c_isSt hd h0 hM]
        dsimp only [bdI]
        rw [if_bI h1, if_neg (nI_in (by omega) (by omega)), nI_clamp (by omega), e0, a0, if_neg n10, hd.rd (ix_with hx6), hd.rd (ix_ofRank hx6), hd.rd (ix_frames hx6), hd.rd (ix_places hx6), hd.rd (ix_step hx6), hd.rd (ix_left hx6), hd.rd (ix_whole hx6)]
      have ms : ∀ τ, τ = st σ (10, 0, 0, 0) 5 (nI 0) → e_X10_exchange (nI x) p2 σ = (if p2 = nI 0 then some (some (some (.inl (σ.1 (30, 0, 0, 0) (1179 + 16 * x + 1)))), τ) else if p2 = nI 1 then some (some (some (.inl (σ.1 (30, 0, 0, 0) (1179 + 16 * x + 2)))), τ) else if p2 = nI 2 then some (some (some (.inl (σ.1 (30, 0, 0, 0) (1179 + 16 * x + 3)))), τ) else if p2 = nI 3 then some (some (some (.inl (ps (σ.1 (30, 0, 0, 0)) x hh))), τ) else if p2 = nI 4 then some (some (some (.inl (σ.1 (30, 0, 0, 0) (1179 + 16 * x + 4)))), τ) else if p2 = nI 5 then (if σ.1 (30, 0, 0, 0) (1179 + 16 * x + 4) = nI 2 then some (some (some (.inl (σ.1 (30, 0, 0, 0) (1179 + 16 * x + 5)))), τ) else some (some (some (.inl (nI 1))), τ)) else if p2 = nI 6 then some (some (some (.inl (σ.1 (30, 0, 0, 0) (1179 + 16 * x + 6)))), τ) else some (some (some (.inl (-1))), τ)) := by
        intro τ hτ
        have hp := M_places (σ := τ) (x := x) (h := hh) hx6 (by rw [hτ, s30]; exact a3) h4 hh 0 (by omega)
        have hp2 : ps (τ.1 (30, 0, 0, 0)) x hh = ps (σ.1 (30, 0, 0, 0)) x hh := by rw [hτ, s30]
        rw [hp2] at hp
        have hp3 : e_X10_placesOf (nI (1179 + 16 * x)) τ = some (some (some (.inl (ps (σ.1 (30, 0, 0, 0)) x hh))), τ) := by rw [q_X10_placesOf]; exact hp
        rw [q_X10_exchange]
        dsimp only
        rw [← hτ, m_isSt (by rw [hτ, s30]; exact hN0) hM]
        dsimp only [bdI]
        rw [if_bI h1, m_exAt]
        dsimp only [bdI]
        have e30 : τ.1 (30, 0, 0, 0) = σ.1 (30, 0, 0, 0) := by rw [hτ, s30]
        rw [nI_add, if_neg (nI_in (by omega) (by omega)), nI_clamp (by omega), e30, Nat.add_zero, a0, if_neg n10, m_exAt]
        dsimp only
        simp (disch := omega) only [nI_add, nI_clamp, ck2, if_false, bdI, hp3, e30]
      refine key (if p2 = nI 0 then σ.1 (30, 0, 0, 0) (1179 + 16 * x + 1) else if p2 = nI 1 then σ.1 (30, 0, 0, 0) (1179 + 16 * x + 2) else if p2 = nI 2 then σ.1 (30, 0, 0, 0) (1179 + 16 * x + 3) else if p2 = nI 3 then ps (σ.1 (30, 0, 0, 0)) x hh else if p2 = nI 4 then σ.1 (30, 0, 0, 0) (1179 + 16 * x + 4) else if p2 = nI 5 then (if σ.1 (30, 0, 0, 0) (1179 + 16 * x + 4) = nI 2 then σ.1 (30, 0, 0, 0) (1179 + 16 * x + 5) else nI 1) else if p2 = nI 6 then σ.1 (30, 0, 0, 0) (1179 + 16 * x + 6) else -1) fun τ hτ => ⟨?_, ?_⟩
      · rw [cs, f1, f2, f3, f4, f6, f11 hh h4 a3]
        (repeat' split) <;> first | rfl | (rename_i q; rw [f5 q])
      · rw [ms τ hτ]
        (repeat' split) <;> rfl
  · refine st_no hJ hK h24 (fun _ _ h => Ev_gn h) (fun _ _ h => Ev_gn h) (q_X9_exchange _ _ _) (q_X10_exchange _ _ _) ?_ ?_ hN0 hM hd h0 h1
    · exact if_pos rfl
    · exact if_pos rfl
end O4

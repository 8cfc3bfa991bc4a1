/-! Calls that may throw: station, frame, row -/
section O7
variable {M K K' s z r i n m k a b x t h : Nat} {σ τ σ' σ1 σ2 : mS} {C D N N' C' O W P Q : Nat → Int32} {o : mO} {v w p p1 p2 p3 p4 : Int32} {l : List Int64} {f g : mS → Option mR}
theorem o_station (hJ : J K σ) (hK : K ≤ K') (h24 : K' < 2 ^ 24) : ResX K' (e_L_station p1 p2) (e_X10_station p1 p2) σ := by
  obtain ⟨C, M, hd, hV, hR⟩ := jget hJ
  have hM := hV.1.2.1
  have hN0 := hV.1.1
  have h0 : C 0 = nI M := (hR.pl (pd_lo (by omega))).trans hN0
  by_cases h1 : isS M p1
  · by_cases h3 : isS 7 p2
    · have h1' := h1
      obtain ⟨x, hx, rfl⟩ := h1'
      obtain ⟨j, hj, rfl⟩ := h3
      have hx6 : x < 6 := by omega
      have hfree : (C (1179 + 16 * x) = 0 ∧ C (141 + x) = 0) ↔ (σ.1 (30, 0, 0, 0) (1179 + 16 * x) = 0 ∧ σ.1 (30, 0, 0, 0) (135 + x) = -1) := by
        rw [hR.on hx, (hR.2.2.2.2 x hx).2]
        exact and_congr_right fun _ => db_free hV.2.2.2.2.1 hM hx
      have cs : e_X9_station (nI x) (nI j) σ = (if nI j = nI 0 then some (some (some (.inl (C (123 + x)))), σ) else if nI j = nI 1 then some (some (some (.inl (C (129 + x)))), σ) else if nI j = nI 2 then some (some (some (.inl (bI (C (1179 + 16 * x) = 0 ∧ C (141 + x) = 0)))), σ) else if nI j = nI 3 then some (some (some (.inl (C (135 + x)))), σ) else if nI j = nI 4 then some (some (some (.inl (C (141 + x)))), σ) else if nI j = nI 5 then some (some (some (.inl (C (1436 + x)))), σ) else some (some (some (.inl (wt C x))), σ)) := by
        have hf := c_isFree (a := 0) (s := x) (σ := σ) (C := C) hx6
        have hw := c_swait (a := 0) (s := x) (σ := σ) (C := C) hx6
        rw [show wC 0 σ C = σ from hd] at hf hw
        rw [q_X9_station, c_isSt hd h0 hM]
        dsimp only [bdI]
        rw [if_bI h1, if_neg (nI_pos (by omega)), if_neg (nI_nlt (by omega) (by omega)), if_neg (nI_in (by omega) (by omega)), nI_clamp (by omega), hd.rd (ix_still hx6), hd.rd (ix_span hx6), hd.rd (ix_owesTo hx6), hd.rd (ix_owes hx6), hd.rd (ix_hears hx6), hf, hw]
        dsimp only [bdI]
        by_cases g : C (1179 + 16 * x) = 0 ∧ C (141 + x) = 0
        · rw [if_bI g, bI_t g]
        · rw [if_nbI g, bI_f g]
      have ms : ∀ τ : mS, τ.1 = σ.1 → e_X10_station (nI x) (nI j) τ = (if nI j = nI 0 then some (some (some (.inl (σ.1 (30, 0, 0, 0) (123 + x)))), st τ (10, 0, 0, 0) 5 (nI 0)) else if nI j = nI 1 then some (some (some (.inl (σ.1 (30, 0, 0, 0) (129 + x)))), st τ (10, 0, 0, 0) 5 (nI 0)) else if nI j = nI 2 then some (some (some (.inl (bI (σ.1 (30, 0, 0, 0) (1179 + 16 * x) = 0 ∧ σ.1 (30, 0, 0, 0) (135 + x) = -1)))), st τ (10, 0, 0, 0) 5 (nI 0)) else if nI j = nI 3 then some (some (some (.inl (σ.1 (30, 0, 0, 0) (135 + x)))), st τ (10, 0, 0, 0) 5 (nI 0)) else if nI j = nI 4 then some (some (some (.inl (σ.1 (30, 0, 0, 0) (141 + x)))), st τ (10, 0, 0, 0) 5 (nI 0)) else if nI j = nI 5 then some (some (some (.inl (bv (fun z => 0 < σ.1 (30, 0, 0, 0) (15 + 6 * x + z)) M))), st τ (10, 0, 0, 0) 5 (nI 0)) else some (some (some (.inl (wt (σ.1 (30, 0, 0, 0)) x))), st τ (10, 0, 0, 0) 5 (nI 0))) := by
        intro τ hτ
        have e30 : (st τ (10, 0, 0, 0) 5 (nI 0)).1 (30, 0, 0, 0) = σ.1 (30, 0, 0, 0) := by rw [s30, hτ]
        rw [q_X10_station]
        dsimp only
        rw [m_isSt (by rw [e30]; exact hN0) hM]
        dsimp only [bdI]
        rw [if_bI h1, m_exAt, M_hb (by rw [e30]; exact hN0) hM hx6, M_wt hx6]
        simp (disch := omega) only [nI_add, nI_clamp, ck2, if_false, bdI, e30, Nat.add_zero]
        by_cases g0 : nI j = nI 0
        · rw [if_pos g0, if_pos g0]
        rw [if_neg g0, if_neg g0]
        by_cases g1 : nI j = nI 1
        · rw [if_pos g1, if_pos g1]
        rw [if_neg g1, if_neg g1]
        by_cases g2 : nI j = nI 2
        · rw [if_pos g2, if_pos g2]
          by_cases g : σ.1 (30, 0, 0, 0) (1179 + 16 * x) = 0
          · rw [if_pos g]
            by_cases g' : σ.1 (30, 0, 0, 0) (135 + x) = -1
            · rw [if_pos g', bI_t ⟨g, g'⟩]
            · rw [if_neg g', bI_f (fun q => g' q.2)]
          · rw [if_neg g, bI_f (fun q => g q.1)]
        rw [if_neg g2, if_neg g2]
        by_cases g3 : nI j = nI 3
        · rw [if_pos g3, if_pos g3]
        rw [if_neg g3, if_neg g3]
        by_cases g4 : nI j = nI 4
        · rw [if_pos g4, if_pos g4]
        rw [if_neg g4, if_neg g4]
        by_cases g5 : nI j = nI 5
        · rw [if_pos g5, if_pos g5]
        rw [if_neg g5, if_neg g5, if_pos (show nI j = nI 6 from by
          have : j ≠ 0 := fun e => g0 (by rw [e])
          have : j ≠ 1 := fun e => g1 (by rw [e])
          have : j ≠ 2 := fun e => g2 (by rw [e])
          have : j ≠ 3 := fun e => g3 (by rw [e])
          have : j ≠ 4 := fun e => g4 (by rw [e])
          have : j ≠ 5 := fun e => g5 (by rw [e])
          rw [show j = 6 from by omega])]
      rw [hR.pl (pd_st hM hx), hR.pl (pd_sp hM hx), bI_c hfree, (hR.2.2.2.2 x hx).1, (hR.2.2.2.2 x hx).2, hR.2.1 x hx, wt_c (G := σ.1 (30, 0, 0, 0)) (fun r hr => hR.pl (pd_sz hM hx hr))] at cs
      refine finXa (v := if nI j = nI 0 then σ.1 (30, 0, 0, 0) (123 + x) else if nI j = nI 1 then σ.1 (30, 0, 0, 0) (129 + x) else if nI j = nI 2 then bI (σ.1 (30, 0, 0, 0) (1179 + 16 * x) = 0 ∧ σ.1 (30, 0, 0, 0) (135 + x) = -1) else if nI j = nI 3 then σ.1 (30, 0, 0, 0) (135 + x) else if nI j = nI 4 then σ.1 (30, 0, 0, 0) (141 + x) else if nI j = nI 5 then bv (fun z => 0 < σ.1 (30, 0, 0, 0) (15 + 6 * x + z)) M else wt (σ.1 (30, 0, 0, 0)) x) hJ hK h24 (fun _ _ h => Ev_gn h) (fun _ _ h => Ev_gn h) (q_L_station _ _ _) ?_ (fun τ hτ => ?_)
      · rw [cs]
        (repeat' split) <;> rfl
      · rw [ms τ hτ]
        (repeat' split) <;> rfl
    · refine finXr (v := nI 0) hJ hK h24 (fun _ _ h => Ev_gn h) (fun _ _ h => Ev_gn h) (q_L_station _ _ _) ?_ ?_
      · rw [q_X9_station, c_isSt hd h0 hM]
        dsimp only [bdI]
        rw [if_bI h1]
        rcases nS_cases (k := 6) (by omega) h3 with h4 | h4
        · rw [if_pos h4]
        · by_cases h5 : p2 < 0
          · rw [if_pos h5]
          · rw [if_neg h5, if_pos h4]
      · have ne : ∀ q, q < 7 → ¬ p2 = nI q := fun q hq e => h3 ⟨q, hq, e⟩
        rw [q_X10_station]
        dsimp only
        rw [m_isSt (by rw [s30]; exact hN0) hM]
        dsimp only [bdI]
        rw [if_bI h1, if_neg (ne 0 (by omega)), if_neg (ne 1 (by omega)), if_neg (ne 2 (by omega)), if_neg (ne 3 (by omega)), if_neg (ne 4 (by omega)), if_neg (ne 5 (by omega)), if_neg (ne 6 (by omega)), q_X10_lost]
  · refine finXr (v := nI 0) hJ hK h24 (fun _ _ h => Ev_gn h) (fun _ _ h => Ev_gn h) (q_L_station _ _ _) ?_ ?_
    · rw [q_X9_station, c_isSt hd h0 hM]
      dsimp only [bdI]
      rw [if_nbI h1]
    · rw [q_X10_station]
      dsimp only
      rw [m_isSt (by rw [s30]; exact hN0) hM]
      dsimp only [bdI]
      rw [if_nbI h1, q_X10_lost]
theorem o_frame (hJ : J K σ) (hK : K ≤ K') (h24 : K' < 2 ^ 24) : ResX K' (e_L_frame p1 p2 p3 p4) (e_X10_frame p1 p2 p3 p4) σ := by
  obtain ⟨C, M, hd, hV, hR⟩ := jget hJ
  have hM := hV.1.2.1
  have hN0 := hV.1.1
  have h0 : C 0 = nI M := (hR.pl (pd_lo (by omega))).trans hN0
  have lost : ∀ τ : mS, e_X10_lost τ = some (some (some (.inl (nI 0))), st τ (10, 0, 0, 0) 5 (nI 1)) := fun τ => by rw [q_X10_lost]
  by_cases h1 : isS M p1
  · by_cases h2 : isS 4 p2
    · have h1' := h1
      obtain ⟨x, hx, rfl⟩ := h1'
      have h2' := h2
      obtain ⟨r, hr, rfl⟩ := h2'
      have hx6 : x < 6 := by omega
      obtain ⟨n, hq1, hq2, -, -⟩ := hV.2.2.1 x r hx hr
      have csz : C (147 + (4 * x + r)) = nI n := (hR.pl (pd_sz hM hx hr)).trans hq2
      by_cases h3 : isS n p3
      · by_cases h4 : isS 4 p4
        · have h3' := h3
          obtain ⟨i, hi, rfl⟩ := h3'
          have h4' := h4
          obtain ⟨j, hj, rfl⟩ := h4'
          refine finXa (v := σ.1 (30, 0, 0, 0) (171 + 5 * (8 * (4 * x + r) + i) + j)) hJ hK h24 (fun _ _ h => Ev_gn h) (fun _ _ h => Ev_gn h) (q_L_frame _ _ _ _ _) ?_ (fun τ hτ => ?_)
          · rw [q_X9_frame, c_isSt hd h0 hM]
            dsimp only [bdI]
            rw [if_bI h1, c_isRk]
            dsimp only [bdI]
            rw [if_bI h2, if_neg (nI_pos (by omega)), if_neg (nI_nlt (by omega) (by omega)), if_neg (nI_in (by omega) (by omega)), if_neg (nI_in (by omega) (by omega)), if_neg (nI_pos (by omega)), nI_clamp (n := x) (by omega), nI_clamp (n := r) (by omega), hd.rd (ix_size hx6 hr), csz, if_pos (nI_lt hi (by omega)), pk_mul, nI_add, if_neg (nI_in (by omega) (by omega)), nI_clamp (by omega), hd.rd (ix_fr hx6 hr (by omega)), fr_ix, hR.frv hx hr hq1 hq2 hi (by omega)]
          · have e30 : (st τ (10, 0, 0, 0) 5 (nI 0)).1 (30, 0, 0, 0) = σ.1 (30, 0, 0, 0) := by rw [s30, hτ]
            rw [q_X10_frame]
            dsimp only
            rw [m_isSt (by rw [e30]; exact hN0) hM]
            dsimp only [bdI]
            rw [if_bI h1, m_isRk]
            dsimp only [bdI]
            rw [if_bI h2, r_at]
            dsimp only [bdI]
            rw [nI_add, if_neg (nI_in (by omega) (by omega)), nI_clamp (by omega), e30, hq2, m_in, propext (in_S (by omega))]
            dsimp only [bdI]
            rw [if_bI h3, m_in, propext (in_S2 (by omega))]
            dsimp only [bdI]
            rw [if_bI h4, r_frameAt]
            dsimp only [bdI]
            rw [nI_add, if_neg (nI_in (by omega) (by omega)), nI_clamp (by omega), e30]
        · refine finXr (v := nI 0) hJ hK h24 (fun _ _ h => Ev_gn h) (fun _ _ h => Ev_gn h) (q_L_frame _ _ _ _ _) ?_ ?_
          · rw [q_X9_frame, c_isSt hd h0 hM]
            dsimp only [bdI]
            rw [if_bI h1, c_isRk]
            dsimp only [bdI]
            rw [if_bI h2]
            rcases nS_cases (k := 3) (by omega) h4 with h5 | h5
            · rw [if_pos h5]
            · by_cases h6 : p4 < 0
              · rw [if_pos h6]
              · rw [if_neg h6, if_pos h5]
          · rw [q_X10_frame]
            dsimp only
            rw [m_isSt (by rw [s30]; exact hN0) hM]
            dsimp only [bdI]
            rw [if_bI h1, m_isRk]
            dsimp only [bdI]
            rw [if_bI h2, r_at]
            dsimp only [bdI]
            rw [nI_add, if_neg (nI_in (by omega) (by omega)), nI_clamp (by omega), s30, hq2, m_in, propext (in_S (by omega))]
            dsimp only [bdI]
            rw [if_bI h3, m_in, propext (in_S2 (by omega))]
            dsimp only [bdI]
            rw [if_nbI h4, lost]
      · refine finXr (v := nI 0) hJ hK h24 (fun _ _ h => Ev_gn h) (fun _ _ h => Ev_gn h) (q_L_frame _ _ _ _ _) ?_ ?_
        · rw [q_X9_frame, c_isSt hd h0 hM]
          dsimp only [bdI]
          rw [if_bI h1, c_isRk]
          dsimp only [bdI]
          rw [if_bI h2]
          by_cases h6 : p4 < 0
          · rw [if_pos h6]
          rw [if_neg h6]
          by_cases h7 : nI 3 < p4
          · rw [if_pos h7]
          rw [if_neg h7, if_neg (nI_in (by omega) (by omega)), if_neg (nI_in (by omega) (by omega))]
          rcases nS_cases' (k := n) (by omega) h3 with h5 | ⟨h5, h8⟩
          · rw [if_pos h5]
          · rw [if_neg h5, nI_clamp (n := x) (by omega), nI_clamp (n := r) (by omega), hd.rd (ix_size hx6 hr), csz, if_neg h8]
        · rw [q_X10_frame]
          dsimp only
          rw [m_isSt (by rw [s30]; exact hN0) hM]
          dsimp only [bdI]
          rw [if_bI h1, m_isRk]
          dsimp only [bdI]
          rw [if_bI h2, r_at]
          dsimp only [bdI]
          rw [nI_add, if_neg (nI_in (by omega) (by omega)), nI_clamp (by omega), s30, hq2, m_in, propext (in_S (by omega))]
          dsimp only [bdI]
          rw [if_nbI h3, lost]
    · refine finXr (v := nI 0) hJ hK h24 (fun _ _ h => Ev_gn h) (fun _ _ h => Ev_gn h) (q_L_frame _ _ _ _ _) ?_ ?_
      · rw [q_X9_frame, c_isSt hd h0 hM]
        dsimp only [bdI]
        rw [if_bI h1, c_isRk]
        dsimp only [bdI]
        rw [if_nbI h2]
      · rw [q_X10_frame]
        dsimp only
        rw [m_isSt (by rw [s30]; exact hN0) hM]
        dsimp only [bdI]
        rw [if_bI h1, m_isRk]
        dsimp only [bdI]
        rw [if_nbI h2, lost]
  · refine finXr (v := nI 0) hJ hK h24 (fun _ _ h => Ev_gn h) (fun _ _ h => Ev_gn h) (q_L_frame _ _ _ _ _) ?_ ?_
    · rw [q_X9_frame, c_isSt hd h0 hM]
      dsimp only [bdI]
      rw [if_nbI h1]
    · rw [q_X10_frame]
      dsimp only
      rw [m_isSt (by rw [s30]; exact hN0) hM]
      dsimp only [bdI]
      rw [if_nbI h1, lost]
/-- row(): a long -/
def ResY (K : Nat) (f g : mS → Option mR) (σ : mS) : Prop := ∃ k σ1 v σ2, f σ = some (some (some (.inl k)), σ1) ∧ g σ1 = some (some (some (.inr (.inl v))), σ2) ∧ J K σ2 ∧ σ2.1 (10, 0, 0, 0) 5 = k ∧ ((k = nI 0 ∧ σ2.2 (45, 0, 0, 0) 0 = v) ∨ k = nI 1)
theorem o_row (hJ : J K σ) (hK : K ≤ K') (h24 : K' < 2 ^ 24) : ResY K' (e_L_row p) (e_X10_row p) σ := by
  obtain ⟨n, n1, n2, n3, n4⟩ := id hJ.2.2.2.2.1
  have e4 : ∀ τ : mS, τ.1 = σ.1 → (st τ (10, 0, 0, 0) 5 (nI 0)).1 (10, 0, 0, 0) 4 = nI n := fun τ hτ => by rw [st_self, upd_n (by decide), hτ]; exact n3
  by_cases h1 : isS n p
  · have h1' := h1
    obtain ⟨i, hi, rfl⟩ := h1'
    have hf : e_L_row (nI i) σ = some (some (some (.inl (nI 0))), stL σ (45, 0, 0, 0) 0 (σ.2 (24, 0, 0, 0) i)) := by
      rw [q_L_row, q_X9_row, if_neg (nI_pos (by omega)), n2, if_pos (nI_lt hi (by omega)), if_neg (nI_in (by omega) (by omega)), nI_clamp (by omega)]
      dsimp only [bdY]
      rw [if_neg (by decide), nI_clamp (by omega)]
    have hg : e_X10_row (nI i) (stL σ (45, 0, 0, 0) 0 (σ.2 (24, 0, 0, 0) i)) = some (some (some (.inr (.inl (σ.2 (24, 0, 0, 0) i)))), st (stL σ (45, 0, 0, 0) 0 (σ.2 (24, 0, 0, 0) i)) (10, 0, 0, 0) 5 (nI 0)) := by
      rw [q_X10_row]
      dsimp only
      rw [e4 (stL σ (45, 0, 0, 0) 0 (σ.2 (24, 0, 0, 0) i)) rfl, m_in, propext (in_S (by omega))]
      dsimp only [bdI]
      rw [if_bI h1, if_neg (nI_in (by omega) (by omega)), nI_clamp (by omega), st_2, stL_ne (by decide), ← n4 i hi]
    refine ⟨nI 0, _, _, _, hf, hg, hJ.sm (σ' := st (stL σ (45, 0, 0, 0) 0 (σ.2 (24, 0, 0, 0) i)) (10, 0, 0, 0) 5 (nI 0)) ?_ (hJ.2.2.2.2.1.same ?_ ?_ ?_ ?_) ((Ev_gn hg).2 ((Ev_gn hf).2 hJ.2.2.2.2.2)) hK h24, ?_, Or.inl ⟨rfl, ?_⟩⟩
    · exact Sm.tr (σ' := stL σ (45, 0, 0, 0) 0 (σ.2 (24, 0, 0, 0) i)) ⟨fun _ _ => rfl, rfl, rfl⟩ (Sm.s10 (by decide) (by decide))
    · rw [st_ne (by decide)]; rfl
    · rw [st_self]; exact upd_n (by decide)
    · rw [st_2, stL_ne (by decide)]
    · rw [st_2, stL_ne (by decide)]
    · rw [st_self]; exact upd_s
    · rw [st_2, stL_self]; exact pk_uLs
  · have hf : e_L_row p σ = some (some (some (.inl (nI 1))), σ) := by
      rw [q_L_row, q_X9_row]
      rcases nS_cases' (k := n) (by omega) h1 with h5 | ⟨h5, h8⟩
      · rw [if_pos h5]; rfl
      · rw [if_neg h5, n2, if_neg h8]; rfl
    have hg : e_X10_row p σ = some (some (some (.inr (.inl (nI 0).toInt64))), st (st σ (10, 0, 0, 0) 5 (nI 0)) (10, 0, 0, 0) 5 (nI 1)) := by
      rw [q_X10_row]
      dsimp only
      rw [e4 σ rfl, m_in, propext (in_S (by omega))]
      dsimp only [bdI]
      rw [if_nbI h1, q_X10_lost]
    refine ⟨nI 1, _, _, _, hf, hg, hJ.sm ((Sm.s10 (by decide) (by decide)).tr (Sm.s10 (by decide) (by decide))) (hJ.2.2.2.2.1.same ?_ ?_ rfl rfl) ((Ev_gn hg).2 hJ.2.2.2.2.2) hK h24, ?_, Or.inr rfl⟩
    · rw [st_ne (by decide), st_ne (by decide)]
    · rw [st_self, upd_n (by decide), st_self]; exact upd_n (by decide)
    · rw [st_self]; exact upd_s
end O7

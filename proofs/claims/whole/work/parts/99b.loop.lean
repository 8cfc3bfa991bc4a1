/-! The law in the small machine: every script is answered with 1 -/
section LW
variable {K K' i len : Nat} {σ σ1 σ2 : mS}
theorem cmp_0 (x : Int64) : lg_cmp x x = 0 := by
  unfold lg_cmp
  simp
theorem Cx.gn (h : Cx σ) (e : ∀ o : mO, 46 ≤ o.1 → σ1.1 o = σ.1 o) : Cx σ1 := fun i hi => by
  rw [e _ (by decide)]
  exact h i hi
theorem z45 : (nI 0).toNatClampNeg = 0 := by decide
theorem c45 : ¬ (nI 0 < 0 ∨ 1 ≤ (nI 0).toNatClampNeg) := by decide
/-- one call -/
def Nxt (K i : Nat) (σ : mS) : Prop := ∀ σ2 : mS, J (K + 1600) σ2 → (∀ o : mO, 46 ≤ o.1 → σ2.1 o = σ.1 o) → ∃ σ', b_L_law_23 (nI i + 6) σ2 = some (some (some (.inl (nI 1))), σ')
set_option maxHeartbeats 8000000 in
theorem law_one (hJ : J K σ) (hX : Cx σ) (kLim : K ≤ 1048576) (hl : σ.1 (46, 0, 0, 1) 0 = nI len) (hlen : len ≤ 100000) (hi : i + 6 ≤ len) (nx : Nxt K i σ) : ∃ σ', b_L_law_23 (nI i) σ = some (some (some (.inl (nI 1))), σ') := by
  have kTop : K + 1600 < 2 ^ 24 := by omega
  have hlc : (σ.1 (46, 0, 0, 1) 0).toNatClampNeg = len := by rw [hl, nI_clamp (by omega)]
  have hc1 : (nI i + nI 1).toNatClampNeg = i + 1 := by rw [nI_add, nI_clamp (by omega)]
  have hb1 : ¬ (nI i + nI 1 < 0 ∨ (σ.1 (46, 0, 0, 1) 0).toNatClampNeg ≤ i + 1) := by rw [hlc, nI_add]; exact ckn (by omega) (by omega)
  have hc2 : (nI i + nI 2).toNatClampNeg = i + 2 := by rw [nI_add, nI_clamp (by omega)]
  have hb2 : ¬ (nI i + nI 2 < 0 ∨ (σ.1 (46, 0, 0, 1) 0).toNatClampNeg ≤ i + 2) := by rw [hlc, nI_add]; exact ckn (by omega) (by omega)
  have hc3 : (nI i + nI 3).toNatClampNeg = i + 3 := by rw [nI_add, nI_clamp (by omega)]
  have hb3 : ¬ (nI i + nI 3 < 0 ∨ (σ.1 (46, 0, 0, 1) 0).toNatClampNeg ≤ i + 3) := by rw [hlc, nI_add]; exact ckn (by omega) (by omega)
  have hc4 : (nI i + nI 4).toNatClampNeg = i + 4 := by rw [nI_add, nI_clamp (by omega)]
  have hb4 : ¬ (nI i + nI 4 < 0 ∨ (σ.1 (46, 0, 0, 1) 0).toNatClampNeg ≤ i + 4) := by rw [hlc, nI_add]; exact ckn (by omega) (by omega)
  have hc5 : (nI i + nI 5).toNatClampNeg = i + 5 := by rw [nI_add, nI_clamp (by omega)]
  have hb5 : ¬ (nI i + nI 5 < 0 ∨ (σ.1 (46, 0, 0, 1) 0).toNatClampNeg ≤ i + 5) := by rw [hlc, nI_add]; exact ckn (by omega) (by omega)
  have hge : ¬ σ.1 (46, 0, 0, 1) 0 - nI 6 < nI i := by
    rw [hl, i32_lt, pk_sub_toInt (by omega) (by omega), nI_toInt (by omega)]
    omega
  have hci : (nI i).toNatClampNeg = i := nI_clamp (by omega)
  have hbi : ¬ (nI i < 0 ∨ (σ.1 (46, 0, 0, 1) 0).toNatClampNeg ≤ i) := by rw [hlc]; exact ckn (by omega) (by omega)
  rw [q_L_law_23, if_neg hge, hci, if_neg hbi]
  generalize hs : σ.1 (46, 0, 0, 0) i &&& nI 63 = op
  by_cases h0 : op = nI 0
  · obtain ⟨v, σ1, σ2, hf, hg, hJ2⟩ := o_sign (K' := K + 1600) (σ := σ) (p := σ.1 (46, 0, 0, 0) (i + 1)) hJ (by omega) kTop
    have g1 := (Ev_gn hf).1
    have g2 := (Ev_gn hg).1
    have e1 : σ1.1 (46, 0, 0, 1) = σ.1 (46, 0, 0, 1) := g1 _ (by decide)
    have e2 : σ1.1 (46, 0, 0, 0) = σ.1 (46, 0, 0, 0) := g1 _ (by decide)
    rw [if_pos h0, hc1, if_neg hb1, hf]
    dsimp only [bdI]
    rw [e1, if_neg hb1, e2, hg]
    dsimp only
    rw [if_pos rfl, q_L_law_1429]
    exact nx σ2 hJ2 (fun o ho => (g2 o ho).trans (g1 o ho))
  rw [if_neg h0]
  by_cases h1 : op = nI 1
  · obtain ⟨v, σ1, σ2, hf, hg, hJ2⟩ := o_end (K' := K + 1600) (σ := σ) (p := σ.1 (46, 0, 0, 0) (i + 1)) hJ (by omega) kTop
    have g1 := (Ev_gn hf).1
    have g2 := (Ev_gn hg).1
    have e1 : σ1.1 (46, 0, 0, 1) = σ.1 (46, 0, 0, 1) := g1 _ (by decide)
    have e2 : σ1.1 (46, 0, 0, 0) = σ.1 (46, 0, 0, 0) := g1 _ (by decide)
    rw [if_pos h1, hc1, if_neg hb1, hf]
    dsimp only [bdI]
    rw [e1, if_neg hb1, e2, hg]
    dsimp only
    rw [if_pos rfl, q_L_law_1429]
    exact nx σ2 hJ2 (fun o ho => (g2 o ho).trans (g1 o ho))
  rw [if_neg h1]
  by_cases h2 : op = nI 2
  · obtain ⟨v, σ1, σ2, hf, hg, hJ2⟩ := o_net (K' := K + 1600) (σ := σ)  hJ (by omega) kTop
    have g1 := (Ev_gn hf).1
    have g2 := (Ev_gn hg).1
    rw [if_pos h2, hf]
    dsimp only [bdI]
    rw [hg]
    dsimp only
    rw [if_pos rfl, q_L_law_1429]
    exact nx σ2 hJ2 (fun o ho => (g2 o ho).trans (g1 o ho))
  rw [if_neg h2]
  by_cases h3 : op = nI 3
  · obtain ⟨v, σ1, σ2, hf, hg, hJ2⟩ := o_sets (K' := K + 1600) (σ := σ) (p1 := σ.1 (46, 0, 0, 0) (i + 1)) (p2 := σ.1 (46, 0, 0, 0) (i + 2)) hJ hX (by omega) kTop
    have g1 := (Ev_gn hf).1
    have g2 := (Ev_gn hg).1
    have e1 : σ1.1 (46, 0, 0, 1) = σ.1 (46, 0, 0, 1) := g1 _ (by decide)
    have e2 : σ1.1 (46, 0, 0, 0) = σ.1 (46, 0, 0, 0) := g1 _ (by decide)
    rw [if_pos h3, hc1, hc2, if_neg hb1, if_neg hb2, hf]
    dsimp only [bdI]
    rw [e1, if_neg hb1, if_neg hb2, e2, hg]
    dsimp only
    rw [if_pos rfl, q_L_law_1429]
    exact nx σ2 hJ2 (fun o ho => (g2 o ho).trans (g1 o ho))
  rw [if_neg h3]
  by_cases h4 : op = nI 4
  · obtain ⟨k, σ1, v, σ2, hf, hg, hJ2, h5, h45⟩ := o_setting (K' := K + 1600) (σ := σ) (p := σ.1 (46, 0, 0, 0) (i + 1)) hJ (by omega) kTop
    have g1 := (Ev_gn hf).1
    have g2 := (Ev_gn hg).1
    have e1 : σ1.1 (46, 0, 0, 1) = σ.1 (46, 0, 0, 1) := g1 _ (by decide)
    have e2 : σ1.1 (46, 0, 0, 0) = σ.1 (46, 0, 0, 0) := g1 _ (by decide)
    rw [if_pos h4, hc1, if_neg hb1, hf]
    dsimp only [bdI]
    rw [e1, if_neg hb1, e2, hg]
    dsimp only
    rw [q_X10_thrown]
    dsimp only
    rw [h5, if_pos rfl]
    rcases h45 with ⟨rfl, h45⟩ | rfl
    · rw [if_pos n00, if_neg c45, z45, h45, if_pos (cmp_0 _), q_L_law_353, q_L_law_1429]
      exact nx σ2 hJ2 (fun o ho => (g2 o ho).trans (g1 o ho))
    · rw [if_neg n10, q_L_law_353, q_L_law_1429]
      exact nx σ2 hJ2 (fun o ho => (g2 o ho).trans (g1 o ho))
  rw [if_neg h4]
  by_cases h5 : op = nI 5
  · obtain ⟨v, σ1, σ2, hf, hg, hJ2⟩ := o_sheet (K' := K + 1600) (σ := σ) (p1 := σ.1 (46, 0, 0, 0) (i + 1)) (p2 := σ.1 (46, 0, 0, 0) (i + 2)) (p3 := σ.1 (46, 0, 0, 0) (i + 3)) (p4 := σ.1 (46, 0, 0, 0) (i + 4)) (p5 := σ.1 (46, 0, 0, 0) (i + 5)) hJ (by omega) kTop
    have g1 := (Ev_gn hf).1
    have g2 := (Ev_gn hg).1
    have e1 : σ1.1 (46, 0, 0, 1) = σ.1 (46, 0, 0, 1) := g1 _ (by decide)
    have e2 : σ1.1 (46, 0, 0, 0) = σ.1 (46, 0, 0, 0) := g1 _ (by decide)
    rw [if_pos h5, hc1, hc2, hc3, hc4, hc5, if_neg hb1, if_neg hb2, if_neg hb3, if_neg hb4, if_neg hb5, hf]
    dsimp only [bdI]
    rw [e1, if_neg hb1, if_neg hb2, if_neg hb3, if_neg hb4, if_neg hb5, e2, hg]
    dsimp only
    rw [if_pos rfl, q_L_law_1429]
    exact nx σ2 hJ2 (fun o ho => (g2 o ho).trans (g1 o ho))
  rw [if_neg h5]
  by_cases h6 : op = nI 6
  · obtain ⟨v, σ1, σ2, hf, hg, hJ2⟩ := o_offers (K' := K + 1600) (σ := σ) (p1 := σ.1 (46, 0, 0, 0) (i + 1)) (p2 := σ.1 (46, 0, 0, 0) (i + 2)) (p3 := σ.1 (46, 0, 0, 0) (i + 3)) (p4 := σ.1 (46, 0, 0, 0) (i + 4)) hJ (by omega) kTop
    have g1 := (Ev_gn hf).1
    have g2 := (Ev_gn hg).1
    have e1 : σ1.1 (46, 0, 0, 1) = σ.1 (46, 0, 0, 1) := g1 _ (by decide)
    have e2 : σ1.1 (46, 0, 0, 0) = σ.1 (46, 0, 0, 0) := g1 _ (by decide)
    rw [if_pos h6, hc1, hc2, hc3, hc4, if_neg hb1, if_neg hb2, if_neg hb3, if_neg hb4, hf]
    dsimp only [bdI]
    rw [e1, if_neg hb1, if_neg hb2, if_neg hb3, if_neg hb4, e2, hg]
    dsimp only
    rw [if_pos rfl, q_L_law_1429]
    exact nx σ2 hJ2 (fun o ho => (g2 o ho).trans (g1 o ho))
  rw [if_neg h6]
  by_cases h7 : op = nI 7
  · obtain ⟨v, σ1, σ2, hf, hg, hJ2⟩ := o_slots (K' := K + 1600) (σ := σ) (p := σ.1 (46, 0, 0, 0) (i + 1)) hJ (by omega) kTop
    have g1 := (Ev_gn hf).1
    have g2 := (Ev_gn hg).1
    have e1 : σ1.1 (46, 0, 0, 1) = σ.1 (46, 0, 0, 1) := g1 _ (by decide)
    have e2 : σ1.1 (46, 0, 0, 0) = σ.1 (46, 0, 0, 0) := g1 _ (by decide)
    rw [if_pos h7, hc1, if_neg hb1, hf]
    dsimp only [bdI]
    rw [e1, if_neg hb1, e2, hg]
    dsimp only
    rw [if_pos rfl, q_L_law_1429]
    exact nx σ2 hJ2 (fun o ho => (g2 o ho).trans (g1 o ho))
  rw [if_neg h7]
  by_cases h8 : op = nI 8
  · obtain ⟨v, σ1, σ2, hf, hg, hJ2⟩ := o_draws (K' := K + 1600) (σ := σ)  hJ (by omega) kTop
    have g1 := (Ev_gn hf).1
    have g2 := (Ev_gn hg).1
    rw [if_pos h8, hf]
    dsimp only [bdI]
    rw [hg]
    dsimp only
    rw [if_pos rfl, q_L_law_1429]
    exact nx σ2 hJ2 (fun o ho => (g2 o ho).trans (g1 o ho))
  rw [if_neg h8]
  by_cases h9 : op = nI 9
  · obtain ⟨k, σ1, v, σ2, hf, hg, hJ2, h5, h45⟩ := o_station (K' := K + 1600) (σ := σ) (p1 := σ.1 (46, 0, 0, 0) (i + 1)) (p2 := σ.1 (46, 0, 0, 0) (i + 2)) hJ (by omega) kTop
    have g1 := (Ev_gn hf).1
    have g2 := (Ev_gn hg).1
    have e1 : σ1.1 (46, 0, 0, 1) = σ.1 (46, 0, 0, 1) := g1 _ (by decide)
    have e2 : σ1.1 (46, 0, 0, 0) = σ.1 (46, 0, 0, 0) := g1 _ (by decide)
    rw [if_pos h9, hc1, hc2, if_neg hb1, if_neg hb2, hf]
    dsimp only [bdI]
    rw [e1, if_neg hb1, if_neg hb2, e2, hg]
    dsimp only
    rw [q_X10_thrown]
    dsimp only
    rw [h5, if_pos rfl]
    rcases h45 with ⟨rfl, h45⟩ | rfl
    · rw [if_pos n00, if_neg c45, z45, h45, if_pos (cmp_0 _), q_L_law_593, q_L_law_1429]
      exact nx σ2 hJ2 (fun o ho => (g2 o ho).trans (g1 o ho))
    · rw [if_neg n10, q_L_law_593, q_L_law_1429]
      exact nx σ2 hJ2 (fun o ho => (g2 o ho).trans (g1 o ho))
  rw [if_neg h9]
  by_cases h10 : op = nI 10
  · obtain ⟨k, σ1, v, σ2, hf, hg, hJ2, h5, h45⟩ := o_rank (K' := K + 1600) (σ := σ) (p1 := σ.1 (46, 0, 0, 0) (i + 1)) (p2 := σ.1 (46, 0, 0, 0) (i + 2)) (p3 := σ.1 (46, 0, 0, 0) (i + 3)) hJ (by omega) kTop
    have g1 := (Ev_gn hf).1
    have g2 := (Ev_gn hg).1
    have e1 : σ1.1 (46, 0, 0, 1) = σ.1 (46, 0, 0, 1) := g1 _ (by decide)
    have e2 : σ1.1 (46, 0, 0, 0) = σ.1 (46, 0, 0, 0) := g1 _ (by decide)
    rw [if_pos h10, hc1, hc2, hc3, if_neg hb1, if_neg hb2, if_neg hb3, hf]
    dsimp only [bdI]
    rw [e1, if_neg hb1, if_neg hb2, if_neg hb3, e2, hg]
    dsimp only
    rw [q_X10_thrown]
    dsimp only
    rw [h5, if_pos rfl]
    rcases h45 with ⟨rfl, h45⟩ | rfl
    · rw [if_pos n00, if_neg c45, z45, h45, if_pos (cmp_0 _), q_L_law_673, q_L_law_1429]
      exact nx σ2 hJ2 (fun o ho => (g2 o ho).trans (g1 o ho))
    · rw [if_neg n10, q_L_law_673, q_L_law_1429]
      exact nx σ2 hJ2 (fun o ho => (g2 o ho).trans (g1 o ho))
  rw [if_neg h10]
  by_cases h11 : op = nI 11
  · obtain ⟨k, σ1, v, σ2, hf, hg, hJ2, h5, h45⟩ := o_frame (K' := K + 1600) (σ := σ) (p1 := σ.1 (46, 0, 0, 0) (i + 1)) (p2 := σ.1 (46, 0, 0, 0) (i + 2)) (p3 := σ.1 (46, 0, 0, 0) (i + 3)) (p4 := σ.1 (46, 0, 0, 0) (i + 4)) hJ (by omega) kTop
    have g1 := (Ev_gn hf).1
    have g2 := (Ev_gn hg).1
    have e1 : σ1.1 (46, 0, 0, 1) = σ.1 (46, 0, 0, 1) := g1 _ (by decide)
    have e2 : σ1.1 (46, 0, 0, 0) = σ.1 (46, 0, 0, 0) := g1 _ (by decide)
    rw [if_pos h11, hc1, hc2, hc3, hc4, if_neg hb1, if_neg hb2, if_neg hb3, if_neg hb4, hf]
    dsimp only [bdI]
    rw [e1, if_neg hb1, if_neg hb2, if_neg hb3, if_neg hb4, e2, hg]
    dsimp only
    rw [q_X10_thrown]
    dsimp only
    rw [h5, if_pos rfl]
    rcases h45 with ⟨rfl, h45⟩ | rfl
    · rw [if_pos n00, if_neg c45, z45, h45, if_pos (cmp_0 _), q_L_law_765, q_L_law_1429]
      exact nx σ2 hJ2 (fun o ho => (g2 o ho).trans (g1 o ho))
    · rw [if_neg n10, q_L_law_765, q_L_law_1429]
      exact nx σ2 hJ2 (fun o ho => (g2 o ho).trans (g1 o ho))
  rw [if_neg h11]
  by_cases h12 : op = nI 12
  · obtain ⟨v, σ1, σ2, hf, hg, hJ2⟩ := o_exchange (K' := K + 1600) (σ := σ) (p := σ.1 (46, 0, 0, 0) (i + 1)) (p2 := σ.1 (46, 0, 0, 0) (i + 2)) hJ (by omega) kTop
    have g1 := (Ev_gn hf).1
    have g2 := (Ev_gn hg).1
    have e1 : σ1.1 (46, 0, 0, 1) = σ.1 (46, 0, 0, 1) := g1 _ (by decide)
    have e2 : σ1.1 (46, 0, 0, 0) = σ.1 (46, 0, 0, 0) := g1 _ (by decide)
    rw [if_pos h12, hc1, hc2, if_neg hb1, if_neg hb2, hf]
    dsimp only [bdI]
    rw [e1, if_neg hb1, if_neg hb2, e2, hg]
    dsimp only
    rw [if_pos rfl, q_L_law_1429]
    exact nx σ2 hJ2 (fun o ho => (g2 o ho).trans (g1 o ho))
  rw [if_neg h12]
  by_cases h13 : op = nI 13
  · obtain ⟨v, σ1, σ2, hf, hg, hJ2⟩ := o_sent (K' := K + 1600) (σ := σ)  hJ (by omega) kTop
    have g1 := (Ev_gn hf).1
    have g2 := (Ev_gn hg).1
    rw [if_pos h13, hf]
    dsimp only [bdI]
    rw [hg]
    dsimp only
    rw [if_pos rfl, q_L_law_1429]
    exact nx σ2 hJ2 (fun o ho => (g2 o ho).trans (g1 o ho))
  rw [if_neg h13]
  by_cases h14 : op = nI 14
  · obtain ⟨v, σ1, σ2, hf, hg, hJ2⟩ := o_spanOf (K' := K + 1600) (σ := σ) (p := σ.1 (46, 0, 0, 0) (i + 1)) hJ (by omega) kTop
    have g1 := (Ev_gn hf).1
    have g2 := (Ev_gn hg).1
    have e1 : σ1.1 (46, 0, 0, 1) = σ.1 (46, 0, 0, 1) := g1 _ (by decide)
    have e2 : σ1.1 (46, 0, 0, 0) = σ.1 (46, 0, 0, 0) := g1 _ (by decide)
    rw [if_pos h14, hc1, if_neg hb1, hf]
    dsimp only [bdI]
    rw [e1, if_neg hb1, e2, hg]
    dsimp only
    rw [if_pos rfl, q_L_law_1429]
    exact nx σ2 hJ2 (fun o ho => (g2 o ho).trans (g1 o ho))
  rw [if_neg h14]
  by_cases h15 : op = nI 15
  · obtain ⟨v, σ1, σ2, hf, hg, hJ2⟩ := o_rate (K' := K + 1600) (σ := σ) (p1 := σ.1 (46, 0, 0, 0) (i + 1)) (p2 := σ.1 (46, 0, 0, 0) (i + 2)) hJ (by omega) kTop
    have g1 := (Ev_gn hf).1
    have g2 := (Ev_gn hg).1
    have e1 : σ1.1 (46, 0, 0, 1) = σ.1 (46, 0, 0, 1) := g1 _ (by decide)
    have e2 : σ1.1 (46, 0, 0, 0) = σ.1 (46, 0, 0, 0) := g1 _ (by decide)
    rw [if_pos h15, hc1, hc2, if_neg hb1, if_neg hb2, hf]
    dsimp only [bdI]
    rw [e1, if_neg hb1, if_neg hb2, e2, hg]
    dsimp only
    rw [if_pos rfl, q_L_law_1429]
    exact nx σ2 hJ2 (fun o ho => (g2 o ho).trans (g1 o ho))
  rw [if_neg h15]
  by_cases h16 : op = nI 16
  · obtain ⟨v, σ1, σ2, hf, hg, hJ2⟩ := o_hidden (K' := K + 1600) (σ := σ)  hJ (by omega) kTop
    have g1 := (Ev_gn hf).1
    have g2 := (Ev_gn hg).1
    rw [if_pos h16, hf]
    dsimp only [bdI]
    rw [hg]
    dsimp only
    rw [if_pos rfl, q_L_law_1429]
    exact nx σ2 hJ2 (fun o ho => (g2 o ho).trans (g1 o ho))
  rw [if_neg h16]
  by_cases h17 : op = nI 17
  · obtain ⟨k, σ1, v, σ2, hf, hg, hJ2, h5, h45⟩ := o_tally (K' := K + 1600) (σ := σ) (p1 := σ.1 (46, 0, 0, 0) (i + 1)) (p2 := σ.1 (46, 0, 0, 0) (i + 2)) hJ (by omega) kTop
    have g1 := (Ev_gn hf).1
    have g2 := (Ev_gn hg).1
    have e1 : σ1.1 (46, 0, 0, 1) = σ.1 (46, 0, 0, 1) := g1 _ (by decide)
    have e2 : σ1.1 (46, 0, 0, 0) = σ.1 (46, 0, 0, 0) := g1 _ (by decide)
    rw [if_pos h17, hc1, hc2, if_neg hb1, if_neg hb2, hf]
    dsimp only [bdI]
    rw [e1, if_neg hb1, if_neg hb2, e2, hg]
    dsimp only
    rw [q_X10_thrown]
    dsimp only
    rw [h5, if_pos rfl]
    rcases h45 with ⟨rfl, h45⟩ | rfl
    · rw [if_pos n00, if_neg c45, z45, h45, if_pos (cmp_0 _), q_L_law_958, q_L_law_1429]
      exact nx σ2 hJ2 (fun o ho => (g2 o ho).trans (g1 o ho))
    · rw [if_neg n10, q_L_law_958, q_L_law_1429]
      exact nx σ2 hJ2 (fun o ho => (g2 o ho).trans (g1 o ho))
  rw [if_neg h17]
  by_cases h18 : op = nI 18
  · obtain ⟨v, σ1, σ2, hf, hg, hJ2⟩ := o_why (K' := K + 1600) (σ := σ) (p := σ.1 (46, 0, 0, 0) (i + 1)) hJ (by omega) kTop
    have g1 := (Ev_gn hf).1
    have g2 := (Ev_gn hg).1
    have e1 : σ1.1 (46, 0, 0, 1) = σ.1 (46, 0, 0, 1) := g1 _ (by decide)
    have e2 : σ1.1 (46, 0, 0, 0) = σ.1 (46, 0, 0, 0) := g1 _ (by decide)
    rw [if_pos h18, hc1, if_neg hb1, hf]
    dsimp only [bdI]
    rw [e1, if_neg hb1, e2, hg]
    dsimp only
    rw [if_pos rfl, q_L_law_1429]
    exact nx σ2 hJ2 (fun o ho => (g2 o ho).trans (g1 o ho))
  rw [if_neg h18]
  by_cases h19 : op = nI 19
  · obtain ⟨v, σ1, σ2, hf, hg, hJ2⟩ := o_spoilt (K' := K + 1600) (σ := σ) (p1 := σ.1 (46, 0, 0, 0) (i + 1)) (p2 := σ.1 (46, 0, 0, 0) (i + 2)) hJ (by omega) kTop
    have g1 := (Ev_gn hf).1
    have g2 := (Ev_gn hg).1
    have e1 : σ1.1 (46, 0, 0, 1) = σ.1 (46, 0, 0, 1) := g1 _ (by decide)
    have e2 : σ1.1 (46, 0, 0, 0) = σ.1 (46, 0, 0, 0) := g1 _ (by decide)
    rw [if_pos h19, hc1, hc2, if_neg hb1, if_neg hb2, hf]
    dsimp only [bdI]
    rw [e1, if_neg hb1, if_neg hb2, e2, hg]
    dsimp only
    rw [if_pos rfl, q_L_law_1429]
    exact nx σ2 hJ2 (fun o ho => (g2 o ho).trans (g1 o ho))
  rw [if_neg h19]
  by_cases h20 : op = nI 20
  · obtain ⟨v, σ1, σ2, hf, hg, hJ2⟩ := o_held (K' := K + 1600) (σ := σ) (p := σ.1 (46, 0, 0, 0) (i + 1)) hJ (by omega) kTop
    have g1 := (Ev_gn hf).1
    have g2 := (Ev_gn hg).1
    have e1 : σ1.1 (46, 0, 0, 1) = σ.1 (46, 0, 0, 1) := g1 _ (by decide)
    have e2 : σ1.1 (46, 0, 0, 0) = σ.1 (46, 0, 0, 0) := g1 _ (by decide)
    rw [if_pos h20, hc1, if_neg hb1, hf]
    dsimp only [bdI]
    rw [e1, if_neg hb1, e2, hg]
    dsimp only
    rw [if_pos rfl, q_L_law_1429]
    exact nx σ2 hJ2 (fun o ho => (g2 o ho).trans (g1 o ho))
  rw [if_neg h20]
  by_cases h21 : op = nI 21
  · obtain ⟨v, σ1, σ2, hf, hg, hJ2⟩ := o_even (K' := K + 1600) (σ := σ)  hJ (by omega) kTop kLim
    have g1 := (Ev_gn hf).1
    have g2 := (Ev_gn hg).1
    rw [if_pos h21, hf]
    dsimp only [bdI]
    rw [hg]
    dsimp only
    rw [if_pos rfl, q_L_law_1429]
    exact nx σ2 hJ2 (fun o ho => (g2 o ho).trans (g1 o ho))
  rw [if_neg h21]
  by_cases h22 : op = nI 22
  · obtain ⟨v, σ1, σ2, hf, hg, hJ2⟩ := o_busy (K' := K + 1600) (σ := σ)  hJ (by omega) kTop
    have g1 := (Ev_gn hf).1
    have g2 := (Ev_gn hg).1
    rw [if_pos h22, hf]
    dsimp only [bdI]
    rw [hg]
    dsimp only
    rw [if_pos rfl, q_L_law_1429]
    exact nx σ2 hJ2 (fun o ho => (g2 o ho).trans (g1 o ho))
  rw [if_neg h22]
  by_cases h23 : op = nI 23
  · obtain ⟨v, σ1, σ2, hf, hg, hJ2⟩ := o_odds (K' := K + 1600) (σ := σ) (p1 := σ.1 (46, 0, 0, 0) (i + 1)) (p2 := σ.1 (46, 0, 0, 0) (i + 2)) hJ (by omega) kTop
    have g1 := (Ev_gn hf).1
    have g2 := (Ev_gn hg).1
    have e1 : σ1.1 (46, 0, 0, 1) = σ.1 (46, 0, 0, 1) := g1 _ (by decide)
    have e2 : σ1.1 (46, 0, 0, 0) = σ.1 (46, 0, 0, 0) := g1 _ (by decide)
    rw [if_pos h23, hc1, hc2, if_neg hb1, if_neg hb2, hf]
    dsimp only [bdI]
    rw [e1, if_neg hb1, if_neg hb2, e2, hg]
    dsimp only
    rw [if_pos rfl, q_L_law_1429]
    exact nx σ2 hJ2 (fun o ho => (g2 o ho).trans (g1 o ho))
  rw [if_neg h23]
  by_cases h24 : op = nI 24
  · obtain ⟨v, σ1, σ2, hf, hg, hJ2⟩ := o_window (K' := K + 1600) (σ := σ) (p1 := σ.1 (46, 0, 0, 0) (i + 1)) (p2 := σ.1 (46, 0, 0, 0) (i + 2)) hJ (by omega) kTop
    have g1 := (Ev_gn hf).1
    have g2 := (Ev_gn hg).1
    have e1 : σ1.1 (46, 0, 0, 1) = σ.1 (46, 0, 0, 1) := g1 _ (by decide)
    have e2 : σ1.1 (46, 0, 0, 0) = σ.1 (46, 0, 0, 0) := g1 _ (by decide)
    rw [if_pos h24, hc1, hc2, if_neg hb1, if_neg hb2, hf]
    dsimp only [bdI]
    rw [e1, if_neg hb1, if_neg hb2, e2, hg]
    dsimp only
    rw [if_pos rfl, q_L_law_1429]
    exact nx σ2 hJ2 (fun o ho => (g2 o ho).trans (g1 o ho))
  rw [if_neg h24]
  by_cases h25 : op = nI 25
  · obtain ⟨v, σ1, σ2, hf, hg, hJ2⟩ := o_ahead (K' := K + 1600) (σ := σ) (p1 := σ.1 (46, 0, 0, 0) (i + 1)) (p2 := σ.1 (46, 0, 0, 0) (i + 2)) hJ (by omega) kTop
    have g1 := (Ev_gn hf).1
    have g2 := (Ev_gn hg).1
    have e1 : σ1.1 (46, 0, 0, 1) = σ.1 (46, 0, 0, 1) := g1 _ (by decide)
    have e2 : σ1.1 (46, 0, 0, 0) = σ.1 (46, 0, 0, 0) := g1 _ (by decide)
    rw [if_pos h25, hc1, hc2, if_neg hb1, if_neg hb2, hf]
    dsimp only [bdI]
    rw [e1, if_neg hb1, if_neg hb2, e2, hg]
    dsimp only
    rw [if_pos rfl, q_L_law_1429]
    exact nx σ2 hJ2 (fun o ho => (g2 o ho).trans (g1 o ho))
  rw [if_neg h25]
  by_cases h26 : op = nI 26
  · obtain ⟨v, σ1, σ2, hf, hg, hJ2⟩ := o_quiet (K' := K + 1600) (σ := σ)  hJ (by omega) kTop
    have g1 := (Ev_gn hf).1
    have g2 := (Ev_gn hg).1
    rw [if_pos h26, hf]
    dsimp only [bdI]
    rw [hg]
    dsimp only
    rw [if_pos rfl, q_L_law_1429]
    exact nx σ2 hJ2 (fun o ho => (g2 o ho).trans (g1 o ho))
  rw [if_neg h26]
  by_cases h27 : op = nI 27
  · obtain ⟨v, σ1, σ2, hf, hg, hJ2⟩ := o_next (K' := K + 1600) (σ := σ)  hJ (by omega) kTop
    have g1 := (Ev_gn hf).1
    have g2 := (Ev_gn hg).1
    rw [if_pos h27, hf]
    dsimp only [bdI]
    rw [hg]
    dsimp only
    rw [if_pos rfl, q_L_law_1429]
    exact nx σ2 hJ2 (fun o ho => (g2 o ho).trans (g1 o ho))
  rw [if_neg h27]
  by_cases h28 : op = nI 28
  · obtain ⟨v, σ1, σ2, hf, hg, hJ2⟩ := o_soonest (K' := K + 1600) (σ := σ) (p := σ.1 (46, 0, 0, 0) (i + 1)) hJ (by omega) kTop
    have g1 := (Ev_gn hf).1
    have g2 := (Ev_gn hg).1
    have e1 : σ1.1 (46, 0, 0, 1) = σ.1 (46, 0, 0, 1) := g1 _ (by decide)
    have e2 : σ1.1 (46, 0, 0, 0) = σ.1 (46, 0, 0, 0) := g1 _ (by decide)
    rw [if_pos h28, hc1, if_neg hb1, hf]
    dsimp only [bdI]
    rw [e1, if_neg hb1, e2, hg]
    dsimp only
    rw [if_pos rfl, q_L_law_1429]
    exact nx σ2 hJ2 (fun o ho => (g2 o ho).trans (g1 o ho))
  rw [if_neg h28]
  by_cases h29 : op = nI 29
  · obtain ⟨v, σ1, σ2, hf, hg, hJ2⟩ := o_day (K' := K + 1600) (σ := σ)  hJ (by omega) kTop
    have g1 := (Ev_gn hf).1
    have g2 := (Ev_gn hg).1
    rw [if_pos h29, hf]
    dsimp only [bdI]
    rw [hg]
    dsimp only
    rw [if_pos rfl, q_L_law_1429]
    exact nx σ2 hJ2 (fun o ho => (g2 o ho).trans (g1 o ho))
  rw [if_neg h29]
  by_cases h30 : op = nI 30
  · obtain ⟨v, σ1, σ2, hf, hg, hJ2⟩ := o_undo (K' := K + 1600) (σ := σ)  hJ (by omega) kTop
    have g1 := (Ev_gn hf).1
    have g2 := (Ev_gn hg).1
    rw [if_pos h30, hf]
    dsimp only [bdI]
    rw [hg]
    dsimp only
    rw [if_pos rfl, q_L_law_1429]
    exact nx σ2 hJ2 (fun o ho => (g2 o ho).trans (g1 o ho))
  rw [if_neg h30]
  by_cases h31 : op = nI 31
  · obtain ⟨v, σ1, σ2, hf, hg, hJ2⟩ := o_years (K' := K + 1600) (σ := σ) (p1 := σ.1 (46, 0, 0, 0) (i + 1)) (p2 := σ.1 (46, 0, 0, 0) (i + 2)) hJ (by omega) kTop
    have g1 := (Ev_gn hf).1
    have g2 := (Ev_gn hg).1
    have e1 : σ1.1 (46, 0, 0, 1) = σ.1 (46, 0, 0, 1) := g1 _ (by decide)
    have e2 : σ1.1 (46, 0, 0, 0) = σ.1 (46, 0, 0, 0) := g1 _ (by decide)
    rw [if_pos h31, hc1, hc2, if_neg hb1, if_neg hb2, hf]
    dsimp only [bdI]
    rw [e1, if_neg hb1, if_neg hb2, e2, hg]
    dsimp only
    rw [if_pos rfl, q_L_law_1429]
    exact nx σ2 hJ2 (fun o ho => (g2 o ho).trans (g1 o ho))
  rw [if_neg h31]
  by_cases h32 : op = nI 32
  · obtain ⟨v, σ1, σ2, hf, hg, hJ2⟩ := o_keep (K' := K + 1600) (σ := σ) (p := σ.1 (46, 0, 0, 0) (i + 1)) hJ (by omega) kTop
    have g1 := (Ev_gn hf).1
    have g2 := (Ev_gn hg).1
    have e1 : σ1.1 (46, 0, 0, 1) = σ.1 (46, 0, 0, 1) := g1 _ (by decide)
    have e2 : σ1.1 (46, 0, 0, 0) = σ.1 (46, 0, 0, 0) := g1 _ (by decide)
    rw [if_pos h32, hc1, if_neg hb1, hf]
    dsimp only [bdI]
    rw [e1, if_neg hb1, e2, hg]
    dsimp only
    rw [if_pos rfl, q_L_law_1429]
    exact nx σ2 hJ2 (fun o ho => (g2 o ho).trans (g1 o ho))
  rw [if_neg h32]
  by_cases h33 : op = nI 33
  · obtain ⟨v, σ1, σ2, hf, hg, hJ2⟩ := o_again (K' := K + 1600) (σ := σ) (p := σ.1 (46, 0, 0, 0) (i + 1)) hJ (by omega) kTop
    have g1 := (Ev_gn hf).1
    have g2 := (Ev_gn hg).1
    have e1 : σ1.1 (46, 0, 0, 1) = σ.1 (46, 0, 0, 1) := g1 _ (by decide)
    have e2 : σ1.1 (46, 0, 0, 0) = σ.1 (46, 0, 0, 0) := g1 _ (by decide)
    rw [if_pos h33, hc1, if_neg hb1, hf]
    dsimp only [bdI]
    rw [e1, if_neg hb1, e2, hg]
    dsimp only
    rw [if_pos rfl, q_L_law_1429]
    exact nx σ2 hJ2 (fun o ho => (g2 o ho).trans (g1 o ho))
  rw [if_neg h33]
  by_cases h34 : op = nI 34
  · obtain ⟨v, σ1, σ2, hf, hg, hJ2⟩ := o_count (K' := K + 1600) (σ := σ) (p := σ.1 (46, 0, 0, 0) (i + 1)) hJ (by omega) kTop
    have g1 := (Ev_gn hf).1
    have g2 := (Ev_gn hg).1
    have e1 : σ1.1 (46, 0, 0, 1) = σ.1 (46, 0, 0, 1) := g1 _ (by decide)
    have e2 : σ1.1 (46, 0, 0, 0) = σ.1 (46, 0, 0, 0) := g1 _ (by decide)
    rw [if_pos h34, hc1, if_neg hb1, hf]
    dsimp only [bdI]
    rw [e1, if_neg hb1, e2, hg]
    dsimp only
    rw [if_pos rfl, q_L_law_1429]
    exact nx σ2 hJ2 (fun o ho => (g2 o ho).trans (g1 o ho))
  rw [if_neg h34]
  by_cases h35 : op = nI 35
  · obtain ⟨k, σ1, v, σ2, hf, hg, hJ2, h5, h45⟩ := o_row (K' := K + 1600) (σ := σ) (p := σ.1 (46, 0, 0, 0) (i + 1)) hJ (by omega) kTop
    have g1 := (Ev_gn hf).1
    have g2 := (Ev_gn hg).1
    have e1 : σ1.1 (46, 0, 0, 1) = σ.1 (46, 0, 0, 1) := g1 _ (by decide)
    have e2 : σ1.1 (46, 0, 0, 0) = σ.1 (46, 0, 0, 0) := g1 _ (by decide)
    rw [if_pos h35, hc1, if_neg hb1, hf]
    dsimp only [bdI]
    rw [e1, if_neg hb1, e2, hg]
    dsimp only [bdL]
    rw [q_X10_thrown]
    dsimp only
    rw [h5, if_pos rfl]
    rcases h45 with ⟨rfl, h45⟩ | rfl
    · rw [if_pos n00, if_neg c45, z45, h45, if_pos (cmp_0 _), q_L_law_1426, q_L_law_1429]
      exact nx σ2 hJ2 (fun o ho => (g2 o ho).trans (g1 o ho))
    · rw [if_neg n10, q_L_law_1426, q_L_law_1429]
      exact nx σ2 hJ2 (fun o ho => (g2 o ho).trans (g1 o ho))
  rw [if_neg h35]
  rw [q_L_law_1429]
  exact nx σ (hJ.sm Sm.rf hJ.2.2.2.2.1 hJ.2.2.2.2.2 (by omega) kTop) (fun _ _ => rfl)
theorem law_runs (hlen : len ≤ 100000) : ∀ d i K σ, len ≤ i + 6 * d + 5 → i ≤ 100000 → K + 1600 * d ≤ 1048576 → J K σ → Cx σ → σ.1 (46, 0, 0, 1) 0 = nI len → ∃ σ', b_L_law_23 (nI i) σ = some (some (some (.inl (nI 1))), σ')
  | d, i, K, σ, hd, hi, hK, hJ, hX, hl => by
    by_cases h : i + 6 ≤ len
    · refine law_one hJ hX (by omega) hl hlen h fun σ2 hJ2 g => ?_
      rw [show (6 : Int32) = nI 6 from rfl, nI_add]
      exact law_runs hlen (d - 1) (i + 6) (K + 1600) σ2 (by omega) (by omega) (by omega) hJ2 (hX.gn g) (by rw [g _ (by decide)]; exact hl)
    · refine ⟨σ, ?_⟩
      rw [q_L_law_23, if_pos, if_pos o1]
      rw [hl, i32_lt, pk_sub_toInt (by omega) (by omega), nI_toInt (by omega)]
      omega
termination_by d => d
end LW

/-! What would be: quiet, next -/
section TQ
variable {M K K' s z r i n m k a b x y t h w lo sz la u : Nat} {σ τ σ' σ'' σp σm σ1 σ2 : mS} {A C C1 D N N' N0 N1 C' Cp O W P Q U F G : Nat → Int32} {o o' : mO} {v p p1 p2 p3 p4 p5 mk kd e c fF step : Int32} {S S' : mO → Prop} {l : List Int64} {f g : mS → Option mR}
/-- both ways of a loop that tries, from stores that hold C and N -/
def Tr2 (σ : mS) (F G : Nat → Int32) (f g : mS → Option mR) (C N O W : Nat → Int32) (b : Int32) : Prop := ∃ C' N' O' W' b' v,
  (f (wC 1 σ C) = some (some (some (.inl v)), wC 1 σ C') ∧ ∀ τ : mS, τ.1 (30, 0, 0, 0) = σ.1 (30, 0, 0, 0) → g (wM (lay τ) N O W b) = some (some (some (.inl v)), bck τ N' O' W' b')) ∨
  (∃ x, f (wC 1 σ C) = some (some (some (.inl v)), tC (wC 1 σ C') [x]) ∧ ∀ τ : mS, τ.1 (30, 0, 0, 0) = σ.1 (30, 0, 0, 0) → g (wM (lay τ) N O W b) = some (some (some (.inl v)), tM (bck τ N' O' W' b') [x]))
theorem i_back {a b : Int32} : a + b - a = b := by rw [Int32.add_comm a b, Int32.add_sub_cancel]
theorem i_step {a : Int32} {k : Nat} : a + nI k + nI 1 = a + nI (k + 1) := by rw [Int32.add_assoc, nI_add]
/-- the end of quiet, at either exit -/
theorem j_quiet (hd : Hd 0 σ C) (hV : IV M K (σ.1 (30, 0, 0, 0))) (hR : Rl M C (σ.1 (30, 0, 0, 0)) (dO (σ.1 (30, 0, 0, 0))) (dW (σ.1 (30, 0, 0, 0)))) : ∀ d k K1 C1 N1 O W b, k + d = 99 → PR K1 C1 N1 → K1 + d < 2 ^ 24 → N1 1 = σ.1 (30, 0, 0, 0) 1 + nI k → Tr2 σ F G (b_X9_quiet_13 (nI k)) (b_X10_quiet_11 (nI k)) C1 N1 O W b
  | d, k, K1, C1, N1, O, W, b, hk, hP, hK, h1 => by
    have hM := hV.1.2.1
    have hN0 := hV.1.1
    obtain ⟨M1, hV1, hR1⟩ := hP
    have hM1 := hV1.1.2.1
    have hN1 := hV1.1.1
    have hd1 : Hd 1 (wC 1 σ C1) C1 := Hd.mk'
    have hd0 : Hd 0 (wC 1 σ C1) C := hd.oth (by omega)
    obtain ⟨i1, i2, i3, i4⟩ := hV.2.2.2.2.2.1.2
    obtain ⟨j1, j2, j3, j4⟩ := hV1.2.2.2.2.2.1.2
    have ct : (C1 1) - (C 1) = nI k := by
      rw [hR1.pl (pd_lo (by omega)), hR.pl (pd_lo (by omega)), h1, i_back]
    by_cases g : Qt N1 M1
    · refine ⟨C1, N1, O, W, b, nI k, Or.inr ⟨(N1 1336 - σ.1 (30, 0, 0, 0) 1336).toInt64, ?_, fun τ hτ => ?_⟩⟩
      · rw [q_X9_quiet_13, c_qt hd1 hV1 hR1]
        dsimp only [bdI]
        rw [if_bI g, c_qt hd1 hV1 hR1]
        dsimp only
        rw [if_bI g, c_sumOf hd1 hR1 hM1 hN1 (by omega)]
        dsimp only
        rw [c_sumOf hd0 hR hM hN0 (by omega)]
        dsimp only
        rw [← i1, ← j1, k_one]
        dsimp only [bdV]
        rw [tC_same (o := (0, 1, 0, 0)) (by decide), tC_same (o := (0, 0, 0, 0)) (by decide), hd1.rd ix_time, hd0.rd ix_time, ct]
        split <;> rfl
      · have q := M_qt (σ := wM (lay τ) N1 O W b) (M := M1) (by rw [wM_30]; exact hN1) hM1
        rw [wM_30] at q
        rw [q_X10_quiet_11, q]
        dsimp only [bdI]
        rw [if_bI g, q]
        dsimp only
        rw [m_bck]
        dsimp only [bdV]
        rw [if_bI g, r_empty, nI_clamp (n := 1336) (by omega), wM_30, lay_36, cpl_lt (by omega), hτ, r_t0]
        simp (disch := omega) only [ck2, if_false]
        split <;> rfl
    · by_cases hk2 : k < 99
      · obtain ⟨C2, N2, O2, W2, b2, s1, s2, s3, s4⟩ := pr_slot (a := 1) ⟨M1, hV1, hR1⟩ (by omega) O W b
        have ih := j_quiet hd hV hR (d - 1) (k + 1) (K1 + 1) C2 N2 O2 W2 b2 (by omega) s3 (by omega) (by rw [s4, h1, i_step])
        have hf : b_X9_quiet_13 (nI k) (wC 1 σ C1) = b_X9_quiet_13 (nI (k + 1)) (wC 1 σ C2) := by
          rw [q_X9_quiet_13, if_pos (nI_lt hk2 (by omega)), c_qt hd1 hV1 hR1]
          dsimp only [bdI]
          rw [if_nbI g, s1]
          dsimp only [bdV]
          rw [nI_1]
        have hg : ∀ τ : mS, b_X10_quiet_11 (nI k) (wM (lay τ) N1 O W b) = b_X10_quiet_11 (nI (k + 1)) (wM (lay τ) N2 O2 W2 b2) := fun τ => by
          have q := M_qt (σ := wM (lay τ) N1 O W b) (M := M1) (by rw [wM_30]; exact hN1) hM1
          rw [wM_30] at q
          rw [q_X10_quiet_11, if_pos (nI_lt hk2 (by omega)), q]
          dsimp only [bdI]
          rw [if_nbI g, s2]
          dsimp only [bdV]
          rw [nI_1]
        unfold Tr2 at ih ⊢
        obtain ⟨C', N', O', W', b', v, hh⟩ := ih
        refine ⟨C', N', O', W', b', v, hh.imp (fun h => ⟨hf.trans h.1, fun τ hτ => (hg τ).trans (h.2 τ hτ)⟩) (fun ⟨x, h⟩ => ⟨x, hf.trans h.1, fun τ hτ => (hg τ).trans (h.2 τ hτ)⟩)⟩
      · refine ⟨C1, N1, O, W, b, -2, Or.inl ⟨?_, fun τ hτ => ?_⟩⟩
        · rw [q_X9_quiet_13, if_neg (nI_nlt (by omega) (by omega)), c_qt hd1 hV1 hR1]
          dsimp only [bdI]
          rw [if_nbI g]
        · have q := M_qt (σ := wM (lay τ) N1 O W b) (M := M1) (by rw [wM_30]; exact hN1) hM1
          rw [wM_30] at q
          rw [q_X10_quiet_11, if_neg (nI_nlt (by omega) (by omega)), q]
          dsimp only [bdI]
          rw [m_bck]
          dsimp only [bdV]
          rw [if_nbI g]
          simp (disch := omega) only [nI_clamp, ck2, if_false]
termination_by d => d
/-- both to the end -/
theorem tr2_fin {f2 g2 : mS → Option mR} (hJ : J K σ) (hK : K ≤ K') (h24 : K' < 2 ^ 24) (gf : Gd f) (gg : Gd g) (hf : f σ = f2 (wC 1 σ C1)) (hg : ∀ τ : mS, τ.1 (30, 0, 0, 0) = σ.1 (30, 0, 0, 0) → τ.1 (34, 0, 0, 0) = σ.1 (34, 0, 0, 0) → τ.1 (35, 0, 0, 0) = σ.1 (35, 0, 0, 0) → τ.1 (10, 0, 0, 0) 12 = σ.1 (10, 0, 0, 0) 12 → g τ = g2 (wM (lay (st τ (10, 0, 0, 0) 5 (nI 0))) (σ.1 (30, 0, 0, 0)) (σ.1 (34, 0, 0, 0)) (σ.1 (35, 0, 0, 0)) (σ.1 (10, 0, 0, 0) 12))) (h : Tr2 σ F G f2 g2 C1 (σ.1 (30, 0, 0, 0)) (σ.1 (34, 0, 0, 0)) (σ.1 (35, 0, 0, 0)) (σ.1 (10, 0, 0, 0) 12)) : Res K' f g σ := by
  obtain ⟨C', N', O', W', b', v, hh⟩ := h
  rcases hh with ⟨h1, h2⟩ | ⟨x, h1, h2⟩
  · exact finB hJ hK h24 gf gg Sm.w1.sw w1_4 w1_10 rfl Sw.st5 (st5_x (by decide)) (st5_10 (by decide)) rfl (hf.trans h1) ((hg _ w1_30 w1_34 w1_35 (by rw [w1_10])).trans (h2 _ (by rw [s30, w1_30])))
  · exact finBT hJ hK h24 gf gg (Nat.le_of_ble_eq_true rfl) Sm.w1.sw Sw.st5 (st5_x (by decide)) rfl (hf.trans h1) ((hg _ (by rw [c30, w1_30]) (by rw [tC_same (by decide), w1_34]) (by rw [tC_same (by decide), w1_35]) (by rw [tC_same (by decide), w1_10])).trans (h2 _ (by rw [s30, c30, w1_30])))
theorem lay5' (e30 : τ.1 (30, 0, 0, 0) = σ.1 (30, 0, 0, 0)) (e34 : τ.1 (34, 0, 0, 0) = σ.1 (34, 0, 0, 0)) (e35 : τ.1 (35, 0, 0, 0) = σ.1 (35, 0, 0, 0)) (e12 : τ.1 (10, 0, 0, 0) 12 = σ.1 (10, 0, 0, 0) 12) : e_X10_layAside (st τ (10, 0, 0, 0) 5 (nI 0)) = some (some none, wM (lay (st τ (10, 0, 0, 0) 5 (nI 0))) (σ.1 (30, 0, 0, 0)) (σ.1 (34, 0, 0, 0)) (σ.1 (35, 0, 0, 0)) (σ.1 (10, 0, 0, 0) 12)) := lay5 (by rw [s30, e30]) (by rw [st5_x (by decide), e34]) (by rw [st5_x (by decide), e35]) (by rw [st5_10 (by decide), e12])
theorem o_quiet (hJ : J K σ) (hK : K + 99 ≤ K') (h24 : K' < 2 ^ 24) : Res K' e_X9_quiet e_X10_quiet σ := by
  obtain ⟨C, M, C1, hd, hV, hR, tb, hR1⟩ := tri hJ
  refine tr2_fin (C1 := C1) (F := C) (G := C) (f2 := b_X9_quiet_13 (nI 0)) (g2 := b_X10_quiet_11 (nI 0)) hJ (by omega) h24 (fun _ _ h => Ev_gn h) (fun _ _ h => Ev_gn h) ?_ (fun τ t1 t2 t3 t4 => ?_) (j_quiet hd hV hR 99 0 K C1 _ _ _ _ (by omega) ⟨M, hV, hR1⟩ (by omega) (Int32.add_zero _).symm)
  · rw [q_X9_quiet, tb]
    rfl
  · rw [q_X10_quiet]
    dsimp only
    rw [lay5' t1 t2 t3 t4]
    rfl
theorem j_next : ∀ d k K1 C1 N1 O W b, k + d = 99 → PR K1 C1 N1 → K1 + d < 2 ^ 24 → Tr2 σ F G (b_X9_next_13 (nI k)) (b_X10_next_13 (nI k) (nI 0)) C1 N1 O W b
  | 0, k, K1, C1, N1, O, W, b, hk, hP, hK => by
    refine ⟨C1, N1, O, W, b, -2, Or.inl ⟨?_, fun τ hτ => ?_⟩⟩
    · rw [q_X9_next_13, if_neg (nI_nlt (by omega) (by omega))]
    · rw [q_X10_next_13, if_neg (nI_nlt (by omega) (by omega)), m_bck]
      dsimp only [bdV]
      rw [if_pos n00]
  | d + 1, k, K1, C1, N1, O, W, b, hk, hP, hK => by
    obtain ⟨C2, N2, O2, W2, b2, s1, s2, s3, s4⟩ := pr_slot (a := 1) hP (by omega) O W b
    obtain ⟨M2, hV2, hR2⟩ := s3
    have e41 : C2 1341 = N2 1341 := hR2.pl (pd_hi (by omega))
    have hd1 : Hd 1 (wC 1 σ C2) C2 := Hd.mk'
    have hf : b_X9_next_13 (nI k) (wC 1 σ C1) = if N2 1341 = 0 then b_X9_next_13 (nI (k + 1)) (wC 1 σ C2) else some (some (some (.inl (nI k))), tC (wC 1 σ C2) [(N2 1341).toInt64]) := by
      rw [q_X9_next_13, if_pos (nI_lt (by omega) (by omega)), s1]
      dsimp only [bdV]
      rw [hd1.rd ix_beginning, e41, nI_1, k_one]
    have hg : ∀ τ : mS, b_X10_next_13 (nI k) (nI 0) (wM (lay τ) N1 O W b) = b_X10_next_13 (nI (k + 1)) (N2 1341) (wM (lay τ) N2 O2 W2 b2) := fun τ => by
      rw [q_X10_next_13, if_pos (nI_lt (by omega) (by omega)), if_pos n00, s2]
      dsimp only [bdV]
      rw [if_neg (nI_in (by omega) (by omega)), nI_clamp (by omega), wM_30, nI_1]
    by_cases g : N2 1341 = 0
    · have ih := j_next d (k + 1) (K1 + 1) C2 N2 O2 W2 b2 (by omega) ⟨M2, hV2, hR2⟩ (by omega)
      rw [if_pos g] at hf
      unfold Tr2 at ih ⊢
      obtain ⟨C', N', O', W', b', v, hh⟩ := ih
      have hg' : ∀ τ : mS, b_X10_next_13 (nI k) (nI 0) (wM (lay τ) N1 O W b) = b_X10_next_13 (nI (k + 1)) (nI 0) (wM (lay τ) N2 O2 W2 b2) := fun τ => by
        rw [hg τ, g]; rfl
      exact ⟨C', N', O', W', b', v, hh.imp (fun h => ⟨hf.trans h.1, fun τ hτ => (hg' τ).trans (h.2 τ hτ)⟩) (fun ⟨x, h⟩ => ⟨x, hf.trans h.1, fun τ hτ => (hg' τ).trans (h.2 τ hτ)⟩)⟩
    · rw [if_neg g] at hf
      refine ⟨C2, N2, O2, W2, b2, nI k, Or.inr ⟨_, hf, fun τ hτ => ?_⟩⟩
      rw [hg τ, q_X10_next_13, if_neg g, m_bck]
      dsimp only [bdV]
      rw [if_neg g, r_empty, r_t0, pk_sub (by omega)]
      split <;> rfl
theorem o_next (hJ : J K σ) (hK : K + 99 ≤ K') (h24 : K' < 2 ^ 24) : Res K' e_X9_next e_X10_next σ := by
  obtain ⟨C, M, C1, hd, hV, hR, tb, hR1⟩ := tri hJ
  refine tr2_fin (C1 := C1) (F := C) (G := C) (f2 := b_X9_next_13 (nI 0)) (g2 := b_X10_next_13 (nI 0) (nI 0)) hJ (by omega) h24 (fun _ _ h => Ev_gn h) (fun _ _ h => Ev_gn h) ?_ (fun τ t1 t2 t3 t4 => ?_) (j_next 99 0 K C1 _ _ _ _ (by omega) ⟨M, hV, hR1⟩ (by omega))
  · rw [q_X9_next, tb]
    rfl
  · rw [q_X10_next]
    dsimp only
    rw [lay5' t1 t2 t3 t4]
    rfl
end TQ

/-! A day, whole -/
section DW
variable {M K K' s z r i n m k a b x y t h w lo hi j u L sz la : Nat} {σ τ σ' σ1 σ2 : mS} {C N F F' G O W : Nat → Int32} {E E' : Nat → Nat → Int32} {o : mO} {v p p1 p2 wr x2 : Int32} {T P : Nat → Nat} {l : List Int64}
/-- the reference tells, and ends -/
noncomputable def tl (x2 : Int32) (i f : Nat) (σ : mS) : Option mR := bdV (e_X10_tell (lN f) (st σ (10, 0, 0, 0) 4 (nI 0))) (fun σ5 => bdV (e_X10_tell (((σ5.1 (30, 0, 0, 0) 1336) - x2).toInt64) σ5) (fun σ6 => some (some (some (.inl (nI i))), σ6)))
noncomputable def e94 (x2 : Int32) (i f : Nat) (σ : mS) : Option mR := if 0 < nI i then bdV (e_X10_note σ) (fun σ3 => tl x2 i f σ3) else tl x2 i f σ
theorem c_stop : b_X9_day_42 p (nI 1) p1 p2 σ = b_X9_day_109 p (nI 1) σ := by
  rw [q_X9_day_42, if_neg n10]
  split
  · split <;> rfl
  · rfl
theorem j_exec {A : Nat} (hn : n ≤ 80) (hA : A ≤ n) (hP : ∀ k, k < A → okA n T (P k) ∧ P (k + 1) = P k + alen T (P k)) (hPA : P A = n) : ∀ d i K C N O W b, i + d = A → PR K C N → K + 20 * (n - P i) < 2 ^ 24 → ∃ (i' f : Nat) (C' N' O' W' : Nat → Int32) (b' : Int32), ((f = 0 ∧ i' = A) ∨ (f = 1 ∧ i' < A)) ∧ (∀ σ, TC σ n T → b_X9_day_42 (nI i) (nI 0) (nI (P i)) (nI i) (wC 0 σ C) = b_X9_day_109 (nI i') (nI f) (wC 0 σ C') ∧ (Bo (wC 0 σ C) → Bo (wC 0 σ C'))) ∧ (∀ (τ : mS) x2, (∀ k, k < A → AC (τ.1 (37, 0, 0, 0)) T k (P k)) → b_X10_day_94 (nI A) x2 (nI i) (wM τ N O W b) = e94 x2 i' f (wM τ N' O' W' b')) ∧ PR (K + 20 * (n - P i)) C' N'
  | 0, i, K, C, N, O, W, b, hi, hR, hK => by
    have e : i = A := by omega
    subst e
    refine ⟨i, 0, C, N, O, W, b, Or.inl ⟨rfl, rfl⟩, fun σ hT => ⟨?_, fun q => q⟩, fun τ x2 hτ => ?_, by rw [hPA, Nat.sub_self]; exact hR⟩
    · rw [q_X9_day_42, hT.wC.1, hPA, if_neg (nI_nlt (Nat.le_refl _) (by omega))]
      split <;> rfl
    · rw [q_X10_day_94, if_neg (nI_nlt (Nat.le_refl _) (by omega)), if_neg (nI_nlt (Nat.le_refl _) (by omega))]
      simp (disch := omega) only [nI_clamp, ck2, if_false]
      simp only [if_neg (nI_nlt (Nat.le_refl i) (show i < 2 ^ 31 by omega))]
      unfold e94 tl
      rfl
  | d + 1, i, K, C, N, O, W, b, hi, hR, hK => by
    have hiA : i < A := by omega
    obtain ⟨ok, e1⟩ := hP i hiA
    have ol := okA_le ok
    obtain ⟨r, C1, N1, O1, W1, b1, r1, r2, r3, r4⟩ := j_do (i := i) (O := O) (W := W) (b := b) hn (by omega) ok hR (by omega)
    have hj : P i < n := ok.1
    rcases r1 with rfl | rfl
    · refine ⟨i, 1, C1, N1, O1, W1, b1, Or.inr ⟨rfl, hiA⟩, fun σ hT => ⟨?_, fun q => (Ev_gn (r2 σ hT)).2 q⟩, fun τ x2 hτ => ?_, r4.le (by omega) hK⟩
      · rw [q_X9_day_42, if_pos (nI_lt (by omega) (by omega)), hT.wC.1, if_pos (nI_lt hj (by omega)), if_pos n00, r2 σ hT]
        dsimp only [bdI]
        rw [if_pos n00, if_neg n10, c_len hT.wC hn hj]
        dsimp only
        rw [c_stop, nI_add, Nat.add_zero]
      · rw [q_X10_day_94, if_pos (nI_lt hiA (by omega)), pk_mul, r3 τ (hτ i hiA)]
        dsimp only [bdI]
        rw [if_pos n00]
        simp (disch := omega) only [nI_clamp, ck2, if_false]
        rw [if_pos (nI_lt hiA (by omega))]
        simp only [if_pos (nI_lt hiA (show A < 2 ^ 31 by omega))]
        unfold e94 tl
        rfl
    · obtain ⟨i', f, C', N', O', W', b', g1, g2, g3, g4⟩ := j_exec hn hA hP hPA d (i + 1) (K + 20 * alen T (P i)) C1 N1 O1 W1 b1 (by omega) r4 (by rw [e1]; omega)
      refine ⟨i', f, C', N', O', W', b', g1, fun σ hT => ⟨?_, fun q => (g2 σ hT).2 ((Ev_gn (r2 σ hT)).2 q)⟩, fun τ x2 hτ => ?_, by rw [show K + 20 * (n - P i) = K + 20 * alen T (P i) + 20 * (n - P (i + 1)) from by rw [e1]; omega]; exact g4⟩
      · rw [q_X9_day_42, if_pos (nI_lt (by omega) (by omega)), hT.wC.1, if_pos (nI_lt hj (by omega)), if_pos n00, r2 σ hT]
        dsimp only [bdI]
        rw [if_neg n10, if_pos n00, c_len hT.wC hn hj]
        dsimp only
        rw [nI_add, nI_add, ← e1, nI_1]
        exact (g2 σ hT).1
      · rw [q_X10_day_94, if_pos (nI_lt hiA (by omega)), pk_mul, r3 τ (hτ i hiA)]
        dsimp only [bdI]
        rw [if_neg n10, nI_1]
        exact g3 τ x2 hτ
end DW

/-! Amid a slot: the senders' steps, one by one -/
section MD
variable {M K T s r i j n m k d h x y z x1 x2 : Nat} {F G N0 N C P Q O W C' N' P' Q' O' W' : Nat → Int32} {v u t : Int32} {b : Int32} {w1 : Prop} {wb : Nat → Prop}
def TrO (M : Nat) (b : Int32) (N0 N O W : Nat → Int32) (s y : Nat) : Prop :=
  (N0 (1179 + 16 * s + 4) = nI 0 ∧ N (1179 + 16 * s + 4) = nI 1 ∧ ((N (1179 + 16 * s + 15) = nI 0 ∧ O y = nI s ∧ W y = nI 1 ∧ clr N0 b M y s) ∨ 0 < N (1179 + 16 * s + 15))) ∨
  (N (1179 + 16 * s + 4) = nI 2 ∧ N (1179 + 16 * s + 15) = nI 0 ∧ N (1179 + 16 * s + 6) = nI 0) ∨
  (N0 (1179 + 16 * s + 4) = nI 2 ∧ N (1179 + 16 * s + 4) = nI 2 ∧ N (1179 + 16 * s + 15) = nI 0 ∧ (N (1179 + 16 * s + 6) = N0 (1179 + 16 * s + 6) ∨ clr N0 b M y s)) ∨
  (N0 (1179 + 16 * s + 4) = nI 2 ∧ N (1179 + 16 * s + 4) = nI 3 ∧ ((N (1179 + 16 * s + 15) = nI 0 ∧ O y = nI s ∧ W y = nI 2 ∧ N (1179 + 16 * s + 6) ≠ nI 0 ∧ (N (1179 + 16 * s + 6) = N0 (1179 + 16 * s + 6) ∨ clr N0 b M y s)) ∨ 0 < N (1179 + 16 * s + 15)))
/-- what became of an exchange whose sender has stepped -/
def Tr (M : Nat) (b : Int32) (N0 N O W : Nat → Int32) (s : Nat) : Prop :=
  N (1179 + 16 * s) = nI 0 ∨ (N0 (1179 + 16 * s) = nI 1 ∧ N (1179 + 16 * s) = nI 1 ∧ ∃ y, y < M ∧ N0 (1179 + 16 * s + 1) = nI y ∧ N (1179 + 16 * s + 1) = nI y ∧ TrO M b N0 N O W s y)
/-- debts that arose in this slot -/
def Ow (N0 N O W : Nat → Int32) (j y : Nat) : Prop :=
  (O y = -1 ∧ W y = nI 0) ∨ ∃ x, x < j ∧ O y = nI x ∧ N0 (135 + y) = -1 ∧ N (1179 + 16 * x) = nI 1 ∧ N (1179 + 16 * x + 1) = nI y ∧ N (1179 + 16 * x + 15) = nI 0 ∧ ((W y = nI 1 ∧ N (1179 + 16 * x + 4) = nI 1) ∨ (W y = nI 2 ∧ N (1179 + 16 * x + 4) = nI 3))
def keepK (k : Nat) : Prop := k < 14 ∨ (15 ≤ k ∧ k < 51) ∨ (135 ≤ k ∧ k < 147) ∨ k = 1329 ∨ k = 1331 ∨ k = 1332
def Md (M T : Nat) (b : Int32) (N0 N O W : Nat → Int32) (j : Nat) : Prop :=
  IC M N ∧ (∀ k, keepK k → N k = N0 k) ∧ (∀ s, j ≤ s → s < M → ∀ k, k < 16 → N (1179 + 16 * s + k) = N0 (1179 + 16 * s + k)) ∧ (∀ s, s < M → s < j → Tr M b N0 N O W s) ∧ (∀ y, y < M → Ow N0 N O W j y) ∧ ∀ s, s < M → ∃ u, u ≤ T + (if s < j then 36 else 0) ∧ N (1275 + 9 * s + 1) = nI u
theorem n01' : ¬ nI 0 = nI 1 := by decide
theorem n02' : ¬ nI 0 = nI 2 := by decide
theorem n12' : ¬ nI 1 = nI 2 := by decide
theorem n13' : ¬ nI 1 = nI 3 := by decide
theorem n23' : ¬ nI 2 = nI 3 := by decide
theorem nm1 (h : n < 2147483648) : ¬ nI n = -1 := fun e => by
  have h1 : ¬ nI n < nI 0 := nI_nlt (by omega) (by omega)
  rw [e] at h1
  exact h1 (by decide)
theorem n_pos0 (h : 0 < v) : ¬ v = nI 0 := fun e => by
  rw [e] at h
  exact absurd h (by decide)
/-- who sends amid a clear signal: none else that is heard -/
theorem clr_one (hM : M ≤ 6) (hx1 : x1 < M) (hx2 : x2 < M) (hne : x2 ≠ x1) (hc : clr N0 b M y x1) (hq : 0 < N0 (15 + 6 * y + x2)) (hs : sn b x2) : False := by
  obtain ⟨c1, c2, c3, c4, c5⟩ := hc
  apply c5
  sorry
end MD

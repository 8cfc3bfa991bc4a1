/-! Plain rows on whole numbers, for the equations -/
theorem ck_in {n N : Nat} (h : n < N) (hN : N < 2 ^ 31) : (nI n < 0 ∨ N ≤ (nI n).toNatClampNeg) = False := by
  apply eq_false
  rintro (q | q)
  · exact nI_pos (by omega) q
  · rw [nI_clamp (by omega)] at q; omega
theorem ck2 {n N : Nat} (h : n < N) (hn : n < 2 ^ 31) : (nI n < 0 ∨ N ≤ n) = False := by
  apply eq_false
  rintro (q | q)
  · exact nI_pos hn q
  · omega
theorem nI_lt0 {n : Nat} (h : n < 2 ^ 31) : (nI n < 0) = False := eq_false (nI_pos h)
theorem nI_ltE {a b : Nat} (ha : a < 2 ^ 31) (hb : b < 2 ^ 31) : (nI a < nI b) = (a < b) := propext (nI_ltI ha hb)
theorem nI_eqE {a b : Nat} (ha : a < 2 ^ 31) (hb : b < 2 ^ 31) : (nI a = nI b) = (a = b) := propext (nI_eq ha hb)
theorem nI_eq0 {a : Nat} (ha : a < 2 ^ 31) : (nI a = 0) = (a = 0) := propext ⟨fun h => (nI_eq ha (by decide)).mp (h.trans nI_0.symm), fun h => by rw [h]; exact nI_0⟩
theorem nI_eq1 {a : Nat} (ha : a < 2 ^ 31) : (nI a = 1) = (a = 1) := propext ⟨fun h => (nI_eq ha (by decide)).mp (h.trans rfl), fun h => by rw [h]; rfl⟩
theorem nI_0lt {a : Nat} (ha : a < 2 ^ 31) : (0 < nI a) = (0 < a) := propext (by rw [← nI_0]; exact nI_ltI (by decide) ha)
noncomputable def bI (p : Prop) : Int32 := @ite _ p (Classical.propDecidable p) (nI 1) (nI 0)
theorem bI_t {p : Prop} (h : p) : bI p = nI 1 := by unfold bI; exact if_pos h
theorem bI_f {p : Prop} (h : ¬ p) : bI p = nI 0 := by unfold bI; exact if_neg h
theorem bI_0 {p : Prop} : (bI p = 0) = ¬ p := by
  apply propext
  constructor
  · intro h hp
    rw [bI_t hp] at h
    exact absurd h (by decide)
  · intro h; rw [bI_f h]; rfl
theorem bI_1 {p : Prop} : (bI p = nI 1) = p := by
  apply propext
  constructor
  · intro h
    by_cases hp : p
    · exact hp
    · rw [bI_f hp] at h; exact absurd h (by decide)
  · exact bI_t
theorem bI_c {p q : Prop} (h : p ↔ q) : bI p = bI q := by rw [propext h]
theorem z01 : (nI 0 = 0 ∨ nI 0 = 1) = True := eq_true (Or.inl rfl)
theorem o01 : (nI 1 = 0 ∨ nI 1 = 1) = True := eq_true (Or.inr rfl)
section T
variable {a s r : Nat} {σ : mS}
theorem r_isReady (hs : s < 6) (hr : r < 4) : e_X0_isReady a (nI s) (nI r) σ = some (some (some (.inl (bI (0 < σ.1 (6, a, s, r) 1 ∧ σ.1 (6, a, s, r) 3 = 0 ∧ ¬ σ.1 (8, a, s, 0) 7 < σ.1 (11, a, 0, 0) (3 + r))))), σ) := by
  rw [q_X0_isReady]
  simp (disch := omega) only [ck2, nI_clamp, nI_add, if_false, z01, o01, if_true]
  unfold bI
  repeat' split
  all_goals simp_all
theorem r_at : e_X10_at (nI s) (nI r) σ = some (some (some (.inl (nI (4 * s + r)))), σ) := by
  rw [q_X10_at]
  simp only [pk_mul, nI_add]
theorem r_frameAt {i : Nat} : e_X10_frameAt (nI s) (nI r) (nI i) σ = some (some (some (.inl (nI (171 + 5 * (8 * (4 * s + r) + i))))), σ) := by
  rw [q_X10_frameAt, r_at]
  simp only [bdI, pk_mul, nI_add]
end T

/-! Sets as bits -/
theorem smodk : ∀ k, k < 32 → (((nI k &&& 31 : Int32)).toBitVec.smod 32).toNat = k := by decide +kernel
theorem sn_nI {m k : Nat} (hm : m < 2 ^ 31) (hk : k < 32) : sn (nI m) k ↔ m.testBit k = true := by
  unfold sn
  rw [pk_shrN hm _ k (smodk k hk), pk_andN (by have := Nat.div_le_self m (2 ^ k); omega) (m := nI 1) 1 (by decide)]
  rw [nI_eq (by omega) (by omega), Nat.testBit_eq_decide_div_mod_eq, decide_eq_true_iff]
theorem nI_and {m n : Nat} : nI m &&& nI n = nI (m &&& n) := by
  apply Int32.toBitVec_inj.mp
  show BitVec.ofNat 32 m &&& BitVec.ofNat 32 n = BitVec.ofNat 32 (m &&& n)
  rw [BitVec.ofNat_and]
theorem nI_or {m n : Nat} : nI m ||| nI n = nI (m ||| n) := by
  apply Int32.toBitVec_inj.mp
  show BitVec.ofNat 32 m ||| BitVec.ofNat 32 n = BitVec.ofNat 32 (m ||| n)
  rw [BitVec.ofNat_or]
theorem nI_shl {k : Nat} (hk : k < 31) : nI 1 <<< (nI k &&& 31) = nI (2 ^ k) := by
  have h : 2 ^ k < 2 ^ 32 := Nat.pow_lt_pow_right (by omega) (by omega)
  rw [pk_shlN _ k (smodk k (by omega)) (by omega), Nat.one_mul]
/-- a set of the first numbers, as bits -/
noncomputable def bs (p : Nat → Prop) : Nat → Nat
  | 0 => 0
  | n + 1 => @ite _ (p n) (Classical.propDecidable _) (2 ^ n + bs p n) (bs p n)
theorem bs_lt (p : Nat → Prop) : ∀ n, bs p n < 2 ^ n
  | 0 => Nat.one_pos
  | n + 1 => by
    have := bs_lt p n
    unfold bs
    rw [Nat.pow_succ]
    split <;> omega
theorem bs_bit (p : Nat → Prop) : ∀ n k, (bs p n).testBit k = true ↔ k < n ∧ p k
  | 0, k => by simp [bs]
  | n + 1, k => by
    have h1 := bs_lt p n
    have ih := bs_bit p n k
    unfold bs
    by_cases hp : p n
    · rw [if_pos hp]
      by_cases hk : k = n
      · subst hk
        rw [Nat.testBit_two_pow_add_eq, Nat.testBit_lt_two_pow h1]
        simp [hp]
      · rw [show 2 ^ n + bs p n = 2 ^ n ||| bs p n from by
          have := Nat.two_pow_add_eq_or_of_lt h1 1
          rw [Nat.mul_one] at this; exact this]
        rw [Nat.testBit_or, Nat.testBit_two_pow, Bool.or_eq_true, ih]
        constructor
        · rintro (h | h)
          · exact absurd (of_decide_eq_true h).symm hk
          · exact ⟨by omega, h.2⟩
        · rintro ⟨h2, h3⟩
          exact Or.inr ⟨by omega, h3⟩
    · rw [if_neg hp, ih]
      constructor
      · rintro ⟨h2, h3⟩; exact ⟨by omega, h3⟩
      · rintro ⟨h2, h3⟩
        refine ⟨?_, h3⟩
        by_cases hk : k = n
        · subst hk; exact absurd h3 hp
        · omega
theorem bs_c {p q : Nat → Prop} : ∀ n, (∀ k, k < n → (p k ↔ q k)) → bs p n = bs q n
  | 0, _ => rfl
  | n + 1, h => by
    unfold bs
    rw [bs_c n (fun k hk => h k (by omega))]
    by_cases hp : p n
    · rw [if_pos hp, if_pos ((h n (by omega)).mp hp)]
    · rw [if_neg hp, if_neg (fun q => hp ((h n (by omega)).mpr q))]
/-- as a number of the machine -/
noncomputable def bv (p : Nat → Prop) (n : Nat) : Int32 := nI (bs p n)
theorem bv_0 {p : Nat → Prop} : bv p 0 = nI 0 := rfl
theorem bv_t {p : Nat → Prop} {n : Nat} (hn : n < 31) (h : p n) : bv p n ||| (nI 1 <<< (nI n &&& 31)) = bv p (n + 1) := by
  unfold bv
  rw [nI_shl hn, nI_or, bs, if_pos h]
  have := Nat.two_pow_add_eq_or_of_lt (bs_lt p n) 1
  rw [Nat.mul_one] at this
  rw [this, Nat.or_comm]
theorem bv_f {p : Nat → Prop} {n : Nat} (h : ¬ p n) : bv p n = bv p (n + 1) := by
  unfold bv
  rw [bs, if_neg h]
theorem or_0 {x : Int32} : x ||| nI 0 = x := by
  apply Int32.toBitVec_inj.mp
  show x.toBitVec ||| 0#32 = x.toBitVec
  simp
theorem bv_f' {p : Nat → Prop} {n : Nat} (h : ¬ p n) : bv p n ||| nI 0 = bv p (n + 1) := by rw [or_0, bv_f h]
theorem bv_sn {p : Nat → Prop} {n k : Nat} (hn : n ≤ 6) (hk : k < 32) : sn (bv p n) k ↔ k < n ∧ p k := by
  unfold bv
  have h1 := bs_lt p n
  have h2 : 2 ^ n ≤ 2 ^ 6 := Nat.pow_le_pow_right (by omega) hn
  rw [sn_nI (by omega) hk, bs_bit]
theorem bv_c {p q : Nat → Prop} {n : Nat} (h : ∀ k, k < n → (p k ↔ q k)) : bv p n = bv q n := by unfold bv; rw [bs_c n h]
theorem bs6 {p : Nat → Prop} {n : Nat} (hn : n ≤ 6) : bs p n < 64 := by
  have h1 := bs_lt p n
  have h2 : 2 ^ n ≤ 2 ^ 6 := Nat.pow_le_pow_right (by omega) hn
  omega
/-- just one of two sets' common ones -/
theorem bv_one {p q : Nat → Prop} {n x : Nat} (hn : n ≤ 6) (hx : x < n) : (bv p n &&& bv q n = nI 1 <<< (nI x &&& 31)) ↔ p x ∧ q x ∧ ∀ z, z < n → z ≠ x → ¬ (p z ∧ q z) := by
  unfold bv
  have b1 := bs6 (p := p) hn
  have b2 := bs6 (p := q) hn
  have b3 : bs p n &&& bs q n ≤ bs p n := Nat.and_le_left
  have b4 : 2 ^ x ≤ 2 ^ 6 := Nat.pow_le_pow_right (by omega) (by omega)
  rw [nI_shl (by omega), nI_and, nI_eq (by omega) (by omega)]
  constructor
  · intro h
    have key : ∀ z, (z < n ∧ p z) ∧ (z < n ∧ q z) ↔ x = z := by
      intro z
      have := congrArg (fun m => m.testBit z) h
      simp only [Nat.testBit_and, Nat.testBit_two_pow] at this
      rw [← bs_bit p n z, ← bs_bit q n z, ← Bool.and_eq_true, this, decide_eq_true_iff]
    have kx := (key x).mpr rfl
    refine ⟨kx.1.2, kx.2.2, fun z hz hzx hpq => hzx ((key z).mp ⟨⟨hz, hpq.1⟩, ⟨hz, hpq.2⟩⟩).symm⟩
  · rintro ⟨h1, h2, h3⟩
    apply Nat.eq_of_testBit_eq
    intro z
    rw [Nat.testBit_and, Nat.testBit_two_pow, Bool.eq_iff_iff, Bool.and_eq_true, bs_bit, bs_bit, decide_eq_true_iff]
    constructor
    · rintro ⟨⟨a1, a2⟩, -, a3⟩
      by_cases hz : z = x
      · exact hz.symm
      · exact absurd ⟨a2, a3⟩ (h3 z a1 hz)
    · rintro rfl
      exact ⟨⟨hx, h1⟩, hx, h2⟩
theorem bv_z {p q : Nat → Prop} {n : Nat} (hn : n ≤ 6) : (bv p n &&& bv q n = nI 0) ↔ ∀ z, z < n → ¬ (p z ∧ q z) := by
  unfold bv
  have b1 := bs6 (p := p) hn
  have b3 : bs p n &&& bs q n ≤ bs p n := Nat.and_le_left
  rw [nI_and, nI_eq (by omega) (by omega)]
  constructor
  · intro h z hz hpq
    have := congrArg (fun m => m.testBit z) h
    simp only [Nat.testBit_and, Nat.zero_testBit] at this
    rw [(bs_bit p n z).mpr ⟨hz, hpq.1⟩, (bs_bit q n z).mpr ⟨hz, hpq.2⟩] at this
    cases this
  · intro h
    apply Nat.eq_of_testBit_eq
    intro z
    rw [Nat.testBit_and, Nat.zero_testBit, Bool.and_eq_false_iff]
    by_cases hz : z < n ∧ p z
    · right
      cases hq : (bs q n).testBit z
      · rfl
      · exact absurd ⟨hz.2, ((bs_bit q n z).mp hq).2⟩ (h z hz.1)
    · left
      cases hq : (bs p n).testBit z
      · rfl
      · exact absurd ((bs_bit p n z).mp hq) hz
theorem bv_and {p q : Nat → Prop} {n : Nat} : bv p n &&& bv q n = bv (fun k => p k ∧ q k) n := by
  unfold bv
  rw [nI_and]
  congr 1
  apply Nat.eq_of_testBit_eq
  intro z
  rw [Nat.testBit_and, Bool.eq_iff_iff, Bool.and_eq_true, bs_bit, bs_bit, bs_bit]
  constructor
  · rintro ⟨⟨a, b⟩, -, c⟩; exact ⟨a, b, c⟩
  · rintro ⟨a, b, c⟩; exact ⟨⟨a, b⟩, a, c⟩
/-- how many -/
noncomputable def zcnt (p : Nat → Prop) : Nat → Nat
  | 0 => 0
  | n + 1 => @ite _ (p n) (Classical.propDecidable _) (zcnt p n + 1) (zcnt p n)
def bcF (p0 : Int32) : Int32 := (((((((p0 - ((iushr p0 (nI 1)) &&& (nI 1431655765))) &&& (nI 858993459)) + ((iushr (p0 - ((iushr p0 (nI 1)) &&& (nI 1431655765))) (nI 2)) &&& (nI 858993459))) + (iushr (((p0 - ((iushr p0 (nI 1)) &&& (nI 1431655765))) &&& (nI 858993459)) + ((iushr (p0 - ((iushr p0 (nI 1)) &&& (nI 1431655765))) (nI 2)) &&& (nI 858993459))) (nI 4))) &&& (nI 252645135)) + (iushr (((((p0 - ((iushr p0 (nI 1)) &&& (nI 1431655765))) &&& (nI 858993459)) + ((iushr (p0 - ((iushr p0 (nI 1)) &&& (nI 1431655765))) (nI 2)) &&& (nI 858993459))) + (iushr (((p0 - ((iushr p0 (nI 1)) &&& (nI 1431655765))) &&& (nI 858993459)) + ((iushr (p0 - ((iushr p0 (nI 1)) &&& (nI 1431655765))) (nI 2)) &&& (nI 858993459))) (nI 4))) &&& (nI 252645135)) (nI 8))) + (iushr ((((((p0 - ((iushr p0 (nI 1)) &&& (nI 1431655765))) &&& (nI 858993459)) + ((iushr (p0 - ((iushr p0 (nI 1)) &&& (nI 1431655765))) (nI 2)) &&& (nI 858993459))) + (iushr (((p0 - ((iushr p0 (nI 1)) &&& (nI 1431655765))) &&& (nI 858993459)) + ((iushr (p0 - ((iushr p0 (nI 1)) &&& (nI 1431655765))) (nI 2)) &&& (nI 858993459))) (nI 4))) &&& (nI 252645135)) + (iushr (((((p0 - ((iushr p0 (nI 1)) &&& (nI 1431655765))) &&& (nI 858993459)) + ((iushr (p0 - ((iushr p0 (nI 1)) &&& (nI 1431655765))) (nI 2)) &&& (nI 858993459))) + (iushr (((p0 - ((iushr p0 (nI 1)) &&& (nI 1431655765))) &&& (nI 858993459)) + ((iushr (p0 - ((iushr p0 (nI 1)) &&& (nI 1431655765))) (nI 2)) &&& (nI 858993459))) (nI 4))) &&& (nI 252645135)) (nI 8))) (nI 16))) &&& (nI 63)
theorem q_bc (p0 : Int32) (σ : mS) : e_J6_bitCount p0 σ = some (some (some (.inl (bcF p0))), σ) := by rw [q_J6_bitCount]; rfl
def pop6 (m : Nat) : Nat := m % 2 + m / 2 % 2 + m / 4 % 2 + m / 8 % 2 + m / 16 % 2 + m / 32 % 2
theorem bcF_pop : ∀ m, m < 64 → bcF (nI m) = nI (pop6 m) := by decide +kernel
theorem pop6_step : ∀ n, n < 6 → ∀ m, m < 2 ^ n → pop6 (2 ^ n + m) = pop6 m + 1 := by decide +kernel
theorem pop_bs (p : Nat → Prop) : ∀ n, n ≤ 6 → pop6 (bs p n) = zcnt p n
  | 0, _ => by unfold bs zcnt; rfl
  | n + 1, h => by
    unfold bs zcnt
    by_cases hp : p n
    · rw [if_pos hp, if_pos hp, pop6_step n (by omega) _ (bs_lt p n), pop_bs p n (by omega)]
    · rw [if_neg hp, if_neg hp, pop_bs p n (by omega)]
theorem bc_bv {p : Nat → Prop} {n : Nat} (hn : n ≤ 6) : bcF (bv p n) = nI (zcnt p n) := by
  unfold bv
  rw [bcF_pop _ (bs6 hn), pop_bs p n hn]
theorem zcnt_le (p : Nat → Prop) : ∀ n, zcnt p n ≤ n
  | 0 => Nat.le_refl _
  | n + 1 => by
    have := zcnt_le p n
    unfold zcnt
    split <;> omega
theorem zcnt_0 {p : Nat → Prop} : ∀ n, zcnt p n = 0 ↔ ∀ z, z < n → ¬ p z
  | 0 => by simp [zcnt]
  | n + 1 => by
    have ih := zcnt_0 (p := p) n
    unfold zcnt
    by_cases hp : p n
    · rw [if_pos hp]
      exact ⟨fun h => by omega, fun h => absurd hp (h n (by omega))⟩
    · rw [if_neg hp, ih]
      exact ⟨fun h z hz => by
        by_cases e : z = n
        · rw [e]; exact hp
        · exact h z (by omega), fun h z hz => h z (by omega)⟩
theorem zcnt_1 {p : Nat → Prop} : ∀ n, zcnt p n = 1 ↔ ∃ x, x < n ∧ p x ∧ ∀ z, z < n → z ≠ x → ¬ p z
  | 0 => by
    constructor
    · intro h; cases h
    · rintro ⟨x, h, -⟩; omega
  | n + 1 => by
    have ih := zcnt_1 (p := p) n
    unfold zcnt
    by_cases hp : p n
    · rw [if_pos hp]
      constructor
      · intro h
        have h0 := (zcnt_0 n).mp (by omega : zcnt p n = 0)
        exact ⟨n, by omega, hp, fun z hz hzn => h0 z (by omega)⟩
      · rintro ⟨x, h1, h2, h3⟩
        have hx : x = n := by
          by_cases e : n = x
          · exact e.symm
          · exact absurd hp (h3 n (by omega) e)
        subst hx
        rw [(zcnt_0 x).mpr (fun z hz => h3 z (by omega) (by omega))]
    · rw [if_neg hp, ih]
      constructor
      · rintro ⟨x, h1, h2, h3⟩
        refine ⟨x, by omega, h2, fun z hz hzx => ?_⟩
        by_cases e : z = n
        · rw [e]; exact hp
        · exact h3 z (by omega) hzx
      · rintro ⟨x, h1, h2, h3⟩
        have hx : x ≠ n := fun e => hp (e ▸ h2)
        exact ⟨x, by omega, h2, fun z hz hzx => h3 z (by omega) hzx⟩

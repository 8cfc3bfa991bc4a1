/-! THE TEXT, read by both -/
section RT
variable {M K K' s z r i n m k a b x y t h w lo hi j u : Nat} {σ τ σ' σ1 σ2 : mS} {C N F G O W : Nat → Int32} {o : mO} {v p p1 p2 wr : Int32} {T : Nat → Nat}
def TC (σ : mS) (n : Nat) (T : Nat → Nat) : Prop := σ.1 (7, 0, 0, 0) 1 = nI n ∧ ∀ k, k < n → T k < 256 ∧ σ.1 (23, 0, 0, 0) k = nI (T k)
def TX (τ : mS) (n : Nat) (T : Nat → Nat) : Prop := τ.1 (10, 0, 0, 0) 6 = nI n ∧ ∀ k, k < n → T k < 256 ∧ τ.1 (31, 0, 0, 0) k = (nI (T k)).toInt8.toInt32
def rg (b c n : Nat) (T : Nat → Nat) (j : Nat) : Prop := j < n ∧ b ≤ T j ∧ T j < b + c
theorem byte_m : ∀ u, u < 256 → (nI u).toInt8.toInt32 &&& nI 255 = nI u := by decide +kernel
theorem byte_a : ∀ u, u < 128 → (nI u).toInt8.toInt32 = nI u := by decide +kernel
theorem m1_lt (hb : b < 2 ^ 30) : ((-1 : Int32) < nI b) := by
  rw [i32_lt, nI_toInt (by omega), show (-1 : Int32).toInt = -1 from by decide]
  omega
theorem nI_nm1 (hb : b < 2 ^ 30) : ¬ nI b = (-1 : Int32) := fun e => by
  have := congrArg Int32.toInt e
  rw [nI_toInt (by omega), show (-1 : Int32).toInt = -1 from by decide] at this
  omega
theorem c_at (hT : TC σ n T) (hn : n ≤ 80) (hj : j < n) : e_X7_at (nI j) σ = some (some (some (.inl (nI (T j)))), σ) := by
  rw [q_X7_at, if_neg (nI_pos (by omega)), hT.1, if_pos (nI_lt hj (by omega)), if_neg (nI_in (by omega) (by omega)), nI_clamp (by omega), (hT.2 j hj).2]
theorem c_at_n (hT : TC σ n T) (hn : n ≤ 80) (hj : ¬ j < n) (hj2 : j < 2 ^ 30) : e_X7_at (nI j) σ = some (some (some (.inl (-1))), σ) := by
  rw [q_X7_at, if_neg (nI_pos (by omega)), hT.1, if_neg (nI_nlt (by omega) (by omega))]
theorem c_dig_t (hT : TC σ n T) (hn : n ≤ 80) (hl : lo ≤ hi) (hh : hi ≤ 9) (hr : rg (48 + lo) (hi + 1 - lo) n T j) : e_X7_digitAt (nI j) (nI lo) (nI hi) σ = some (some (some (.inl (nI (T j - 48)))), σ) := by
  obtain ⟨r1, r2, r3⟩ := hr
  rw [q_X7_digitAt, c_at hT hn r1]
  dsimp only [bdI]
  rw [pk_sub (by omega), if_neg (nI_nlt (by omega) (by omega)), if_neg (nI_nlt (by omega) (by omega))]
theorem c_dig_f (hT : TC σ n T) (hn : n ≤ 80) (hj : j < 2 ^ 30) (hl : lo ≤ hi) (hh : hi ≤ 9) (hr : ¬ rg (48 + lo) (hi + 1 - lo) n T j) : e_X7_digitAt (nI j) (nI lo) (nI hi) σ = some (some (some (.inl (-1))), σ) := by
  rw [q_X7_digitAt]
  by_cases h : j < n
  · rw [c_at hT hn h]
    dsimp only [bdI]
    have hb := (hT.2 j h).1
    have ht : (nI (T j) - nI 48).toInt = (T j : Int) - 48 := pk_sub_toInt (by omega) (by omega)
    by_cases h2 : T j < 48 + lo
    · rw [if_pos]
      rw [i32_lt, ht, nI_toInt (by omega)]
      omega
    · by_cases h3 : nI (T j) - nI 48 < nI lo
      · rw [if_pos h3]
      · rw [if_neg h3, if_pos]
        rw [i32_lt, ht, nI_toInt (by omega)]
        have : ¬ T j < 48 + lo + (hi + 1 - lo) := fun q => hr ⟨h, by omega, q⟩
        omega
  · rw [c_at_n hT hn h hj]
    dsimp only [bdI]
    rw [if_pos]
    rw [i32_lt, nI_toInt (by omega), show ((-1 : Int32) - nI 48).toInt = -49 from by decide]
    omega
theorem c_let_t (hT : TC σ n T) (hn : n ≤ 80) (hm : m ≤ 6) (hr : rg 97 m n T j) : e_X7_letterAt (nI j) (nI m) σ = some (some (some (.inl (nI (T j - 97)))), σ) := by
  obtain ⟨r1, r2, r3⟩ := hr
  rw [q_X7_letterAt, c_at hT hn r1]
  dsimp only [bdI]
  rw [pk_sub (by omega), if_neg (nI_pos (by omega)), if_pos (nI_lt (by omega) (by omega))]
theorem c_let_f (hT : TC σ n T) (hn : n ≤ 80) (hj : j < 2 ^ 30) (hm : m ≤ 6) (hr : ¬ rg 97 m n T j) : e_X7_letterAt (nI j) (nI m) σ = some (some (some (.inl (-1))), σ) := by
  rw [q_X7_letterAt]
  by_cases h : j < n
  · rw [c_at hT hn h]
    dsimp only [bdI]
    have hb := (hT.2 j h).1
    by_cases h2 : T j < 97
    · rw [if_pos (pk_sneg (by omega) h2)]
    · rw [pk_sub (by omega), if_neg (nI_pos (by omega)), if_neg]
      refine nI_nlt ?_ (by omega)
      have : ¬ T j < 97 + m := fun q => hr ⟨h, by omega, q⟩
      omega
  · rw [c_at_n hT hn h hj]
    dsimp only [bdI]
    rw [if_pos (by decide)]
theorem st_comm {o : mO} {i i' : Nat} {v v' : Int32} (h : i ≠ i') : st (st σ o i v) o i' v' = st (st σ o i' v') o i v := by
  refine Prod.ext ?_ rfl
  funext q k
  by_cases e : q = o
  · subst e
    rw [st_self, st_self, st_self, st_self, upd_c h]
  · rw [st_ne e, st_ne e, st_ne e, st_ne e]
theorem st_comO {o o' : mO} {i i' : Nat} {v v' : Int32} (h : o ≠ o') : st (st σ o i v) o' i' v' = st (st σ o' i' v') o i v := by
  refine Prod.ext ?_ rfl
  funext q k
  by_cases e : q = o
  · subst e
    rw [st_ne h, st_self, st_self, st_ne h]
  · by_cases e' : q = o'
    · subst e'
      rw [st_self, st_ne e, st_ne e, st_self]
    · rw [st_ne e', st_ne e, st_ne e, st_ne e']
/-- the reference while it reads: where, and what was wrong -/
def rd (τ : mS) (j : Nat) (wr : Int32) : mS := st (st τ (10, 0, 0, 0) 8 wr) (10, 0, 0, 0) 7 (nI j)
theorem rd_at : (rd τ j wr).1 (10, 0, 0, 0) 7 = nI j := by
  unfold rd
  rw [st_self, upd_s]
theorem rd_wr : (rd τ j wr).1 (10, 0, 0, 0) 8 = wr := by
  unfold rd
  rw [st_self, upd_n (by decide), st_self, upd_s]
theorem rd_10 (h7 : k ≠ 7) (h8 : k ≠ 8) : (rd τ j wr).1 (10, 0, 0, 0) k = τ.1 (10, 0, 0, 0) k := by
  unfold rd
  rw [st_self, upd_n h7, st_self, upd_n h8]
theorem rd_ne (h : o ≠ (10, 0, 0, 0)) : (rd τ j wr).1 o = τ.1 o := by
  unfold rd
  rw [st_ne h, st_ne h]
theorem rd_7 : st (rd τ j wr) (10, 0, 0, 0) 7 (nI k) = rd τ k wr := by
  unfold rd
  rw [st_twice]
theorem rd_8 : st (rd τ j wr) (10, 0, 0, 0) 8 v = rd τ j v := by
  unfold rd
  rw [st_comm (by decide), st_twice]
theorem rd_o (h : o ≠ (10, 0, 0, 0)) : st (rd τ j wr) o i v = rd (st τ o i v) j wr := by
  unfold rd
  rw [st_comO h.symm, st_comO h.symm]
theorem TX.st (hX : TX τ n T) (h : o ≠ (10, 0, 0, 0)) (h2 : o ≠ (31, 0, 0, 0)) : TX (st τ o i v) n T := ⟨by rw [st_ne h.symm]; exact hX.1, by rw [st_ne h2.symm]; exact hX.2⟩
theorem m_fine : e_X10_fine (rd τ j wr) = some (some (some (.inl (bI (wr = -1)))), rd τ j wr) := by
  rw [q_X10_fine, rd_wr]
  by_cases h : wr = -1
  · rw [if_pos h, if_pos o1, bI_t h]
  · rw [if_neg h, if_pos z1, bI_f h]
theorem m_fault_t : e_X10_fault v (rd τ j (-1)) = some (some none, rd τ j v) := by
  rw [q_X10_fault, m_fine]
  dsimp only [bdI]
  rw [if_bI rfl, rd_8]
theorem m_fault_f (h : wr ≠ -1) : e_X10_fault v (rd τ j wr) = some (some none, rd τ j wr) := by
  rw [q_X10_fault, m_fine]
  dsimp only [bdI]
  rw [if_nbI h]
theorem m_here (hX : TX τ n T) (hn : n ≤ 80) (hj : j < n) : e_X10_here (rd τ j wr) = some (some (some (.inl (nI (T j)))), rd τ j wr) := by
  rw [q_X10_here, rd_at, rd_10 (by decide) (by decide), hX.1, if_pos (nI_lt hj (by omega)), if_neg (nI_in (by omega) (by omega)), nI_clamp (by omega), rd_ne (by decide), (hX.2 j hj).2, byte_m _ (hX.2 j hj).1]
theorem m_here_n (hX : TX τ n T) (hn : n ≤ 80) (hj : ¬ j < n) (hj2 : j < 2 ^ 30) : e_X10_here (rd τ j wr) = some (some (some (.inl (-1))), rd τ j wr) := by
  rw [q_X10_here, rd_at, rd_10 (by decide) (by decide), hX.1, if_neg (nI_nlt (by omega) (by omega))]
theorem m_one_t (hX : TX τ n T) (hn : n ≤ 80) (hbc : b + m ≤ 128) (hm : 1 ≤ m) (hr : rg b m n T j) : e_X10_oneOf (nI b) (nI m) (rd τ j (-1)) = some (some (some (.inl (nI (T j - b)))), rd τ (j + 1) (-1)) := by
  obtain ⟨r1, r2, r3⟩ := hr
  rw [q_X10_oneOf, m_fine]
  dsimp only [bdI]
  rw [if_bI rfl, m_here hX hn r1]
  dsimp only
  rw [nI_add, pk_sub (by omega), m_in]
  dsimp only
  rw [if_bI ⟨nI_nlt (by omega) (by omega), nI_nlt (by omega) (by omega)⟩, rd_at, nI_add, rd_7, rd_at, pk_sub (by omega), Nat.add_sub_cancel, if_neg (nI_in (by omega) (by omega)), nI_clamp (by omega), rd_ne (by decide), (hX.2 j r1).2, byte_a _ (by omega), pk_sub r2]
theorem m_one_f (hX : TX τ n T) (hn : n ≤ 80) (hbc : b + m ≤ 128) (hm : 1 ≤ m) (hj : j < 2 ^ 30) (hr : ¬ rg b m n T j) : e_X10_oneOf (nI b) (nI m) (rd τ j (-1)) = some (some (some (.inl (nI 0))), rd τ j (nI j)) := by
  rw [q_X10_oneOf, m_fine]
  dsimp only [bdI]
  by_cases h : j < n
  · have hb := (hX.2 j h).1
    rw [if_bI rfl, m_here hX hn h]
    dsimp only
    rw [nI_add, pk_sub (by omega), m_in]
    dsimp only
    rw [if_nbI, rd_at, m_fault_t]
    · rfl
    · rintro ⟨q1, q2⟩
      rw [nI_ltI (by omega) (by omega)] at q1 q2
      exact hr ⟨h, by omega, by omega⟩
  · rw [if_bI rfl, m_here_n hX hn h hj]
    dsimp only
    rw [nI_add, pk_sub (by omega), m_in]
    dsimp only
    rw [if_nbI (fun q => q.1 (m1_lt (by omega))), rd_at, m_fault_t]
    rfl
theorem m_one_s (h : wr ≠ -1) : e_X10_oneOf p1 p2 (rd τ j wr) = some (some (some (.inl (nI 0))), rd τ j wr) := by
  rw [q_X10_oneOf, m_fine]
  dsimp only [bdI]
  rw [if_nbI h]
theorem m_right_t (hX : TX τ n T) (hn : n ≤ 80) : e_X10_wasRight (rd τ n (-1)) = some (some (some (.inl (nI 1))), rd τ n (-1)) := by
  rw [q_X10_wasRight, rd_at, rd_10 (by decide) (by decide), hX.1, if_neg (nI_nlt (by omega) (by omega)), m_fine]
  dsimp only [bdI]
  rw [bI_t rfl, if_pos o1]
theorem m_right_f (h : wr ≠ -1) : e_X10_wasRight (rd τ j wr) = some (some (some (.inl (nI 0))), rd τ j wr) := by
  rw [q_X10_wasRight, m_fault_f h, m_fine]
  dsimp only [bdI, bdV]
  rw [bI_f h, if_pos z1]
  split
  · rw [m_fine]
    dsimp only
    rw [bI_f h, if_pos z1]
  · rfl
end RT

/-! Calls that only ask: hidden; those that may throw -/
section O5
variable {M K K' s z r i n m k a b x t h : Nat} {σ τ σ' σ1 σ2 : mS} {C D N N' C' O W P Q : Nat → Int32} {o : mO} {v w p p1 p2 p3 p4 : Int32} {l : List Int64} {f g : mS → Option mR}
theorem Hd.cT (hd : Hd a σ C) : Hd a (tC σ l) C := hd.mono fun o _ hk => tC_same (by unfold aK at hk; omega)
theorem M_hb_from (hN0 : σ.1 (30, 0, 0, 0) 0 = nI M) (hM : M ≤ 6) (hx : x < 6) : ∀ d i, i + d = M → b_X10_heardBy_4 (nI x) (bv (fun z => 0 < σ.1 (30, 0, 0, 0) (15 + 6 * x + z)) i) (nI i) σ = some (some (some (.inl (bv (fun z => 0 < σ.1 (30, 0, 0, 0) (15 + 6 * x + z)) M))), σ)
  | 0, i, hi => by
    have : i = M := by omega
    subst this
    rw [q_X10_heardBy_4, if_neg c0, c0c, hN0, if_neg (nI_nlt (by omega) (by omega))]
  | d + 1, i, hi => by
    have ih := M_hb_from hN0 hM hx d (i + 1) (by omega)
    rw [q_X10_heardBy_4, if_neg c0, c0c, hN0, if_pos (nI_lt (by omega) (by omega)), M_h hx (by omega)]
    dsimp only [bdI]
    rw [nI_1]
    by_cases hq : 0 < σ.1 (30, 0, 0, 0) (15 + 6 * x + i)
    · rw [if_bI hq, bv_t (by omega) hq]
      exact ih
    · rw [if_nbI hq, bv_f' hq]
      exact ih
theorem M_hb (hN0 : σ.1 (30, 0, 0, 0) 0 = nI M) (hM : M ≤ 6) (hx : x < 6) : e_X10_heardBy (nI x) σ = some (some (some (.inl (bv (fun z => 0 < σ.1 (30, 0, 0, 0) (15 + 6 * x + z)) M))), σ) := by
  rw [q_X10_heardBy]
  exact M_hb_from hN0 hM hx M 0 (by omega)
def hq (x : Nat) : Nat := [0, 5, 9, 12, 14, 15, 15].getD x 15
theorem hq_s (hx : x < 6) : hq x + (5 - x) ≤ hq (x + 1) ∧ hq (x + 1) ≤ 15 := by
  have : ∀ x, x < 6 → hq x + (5 - x) ≤ hq (x + 1) ∧ hq (x + 1) ≤ 15 := by decide
  exact this x hx
theorem hid_val (hx : x < 6) (hz : z < 6) : lN 6 * (nI x).toInt64 + (nI z).toInt64 = lN (6 * x + z) ∧ (nI 6 * nI x + nI z).toInt64 = lN (6 * x + z) := by
  refine ⟨?_, ?_⟩
  · rw [nI_l (by omega), nI_l (by omega), lN_mul, lN_add]
  · rw [pk_mul, nI_add, nI_l (by omega)]
theorem hid_in (hd : Hd 0 σ C) (hM : M ≤ 6) (hN0 : N 0 = nI M) (hC0 : C 0 = nI M) (hH : RH M C N) (hx : x < M) (hτ : τ.1 (30, 0, 0, 0) = N) : ∀ (d z : Nat) (l : List Int64), z + d = M → x < z → l.length ≤ hq x + (z - x - 1) →
    ∃ l', l'.length ≤ hq (x + 1) ∧ b_X9_hidden_24 (nI x) (nI z) (tC σ l) = b_X9_hidden_9 (nI (x + 1)) (tC σ l') ∧ b_X10_hidden_26 (nI x) (nI z) (tM τ l) = b_X10_hidden_12 (nI (x + 1)) (tM τ l')
  | 0, z, l, hz, hxz, hl => by
    have : z = M := by omega
    subst this
    have := hq_s (x := x) (by omega)
    refine ⟨l, by omega, ?_, ?_⟩
    · rw [q_X9_hidden_24, (hd.cT (l := l)).rd ix_many, hC0, if_neg (nI_nlt (by omega) (by omega)), nI_1]
    · rw [q_X10_hidden_26, if_neg c0, c0c, t30, hτ, hN0, if_neg (nI_nlt (by omega) (by omega)), nI_1]
  | d + 1, z, l, hz, hxz, hl => by
    have hs := hq_s (x := x) (by omega)
    have ih := fun l => hid_in hd hM hN0 hC0 hH hx hτ d (z + 1) l (by omega) (by omega)
    have e1 : ∀ l, b_X9_hidden_24 (nI x) (nI z) (tC σ l) = (if (bv (fun y => 0 < N (15 + 6 * x + y)) M &&& bv (fun y => 0 < N (15 + 6 * z + y)) M) = 0 then b_X9_hidden_24 (nI x) (nI (z + 1)) (tC σ l) else (if ¬ 0 < N (15 + 6 * x + z) then bdV (e_X4_add (lN 6 * (nI x).toInt64 + (nI z).toInt64) (tC σ l)) (fun σ6 => b_X9_hidden_24 (nI x) (nI (z + 1)) σ6) else b_X9_hidden_24 (nI x) (nI (z + 1)) (tC σ l))) := by
      intro l
      have hd' := hd.cT (l := l)
      rw [q_X9_hidden_24, hd'.rd ix_many, hC0, if_pos (nI_lt (by omega) (by omega)), if_neg (nI_in (by omega) (by omega)), if_neg (nI_in (by omega) (by omega)), nI_clamp (n := x) (by omega), nI_clamp (n := z) (by omega), hd'.rd (ix_hears (by omega)), hd'.rd (ix_hears (by omega)), hH x hx, hH z (by omega), if_pos n00, if_neg n10, c_hear hd' hC0 hM (hH x hx) hx (by omega), nI_1]
      dsimp only [bdI]
      by_cases g2 : (bv (fun y => 0 < N (15 + 6 * x + y)) M &&& bv (fun y => 0 < N (15 + 6 * z + y)) M) = 0
      · rw [if_pos g2, if_pos g2]
      · rw [if_neg g2, if_neg g2]
        by_cases g1 : 0 < N (15 + 6 * x + z)
        · rw [if_bI g1, if_neg (fun q => q g1)]
        · rw [if_nbI g1, if_pos g1]
    have e2 : ∀ l, b_X10_hidden_26 (nI x) (nI z) (tM τ l) = (if ¬ 0 < N (15 + 6 * x + z) then (if (bv (fun y => 0 < N (15 + 6 * x + y)) M &&& bv (fun y => 0 < N (15 + 6 * z + y)) M) = 0 then b_X10_hidden_26 (nI x) (nI (z + 1)) (tM τ l) else bdV (e_X10_tell ((nI 6 * nI x + nI z).toInt64) (tM τ l)) (fun σ7 => b_X10_hidden_26 (nI x) (nI (z + 1)) σ7)) else b_X10_hidden_26 (nI x) (nI (z + 1)) (tM τ l)) := by
      intro l
      have hτ' : (tM τ l).1 (30, 0, 0, 0) = N := by rw [t30, hτ]
      rw [q_X10_hidden_26, if_neg c0, c0c, hτ', hN0, if_pos (nI_lt (by omega) (by omega)), M_h (by omega) (by omega), hτ', nI_1]
      dsimp only [bdI]
      rw [M_hb (x := x) (by rw [hτ']; exact hN0) hM (by omega), hτ']
      dsimp only
      rw [M_hb (x := z) (by rw [hτ']; exact hN0) hM (by omega), hτ']
      dsimp only
      by_cases g1 : 0 < N (15 + 6 * x + z)
      · rw [if_bI g1, if_neg (fun q => q g1)]
      · rw [if_nbI g1, if_pos g1]
    rw [e1, e2]
    by_cases g2 : (bv (fun y => 0 < N (15 + 6 * x + y)) M &&& bv (fun y => 0 < N (15 + 6 * z + y)) M) = 0
    · rw [if_pos g2, if_pos g2]
      obtain ⟨l', i1, i2, i3⟩ := ih l (by omega)
      refine ⟨l', i1, i2, ?_⟩
      split <;> exact i3
    · rw [if_neg g2, if_neg g2]
      by_cases g1 : 0 < N (15 + 6 * x + z)
      · rw [if_neg (fun q => q g1), if_neg (fun q => q g1)]
        exact ih l (by omega)
      · rw [if_pos g1, if_pos g1, (hid_val (by omega) (by omega)).1, (hid_val (by omega) (by omega)).2, k_add (by omega), r_tell (by omega)]
        exact ih (l ++ [lN (6 * x + z)]) (by rw [List.length_append]; simp only [List.length_cons, List.length_nil]; omega)
theorem hid_out (hd : Hd 0 σ C) (hM : M ≤ 6) (hN0 : N 0 = nI M) (hC0 : C 0 = nI M) (hH : RH M C N) (hτ : τ.1 (30, 0, 0, 0) = N) : ∀ (d x : Nat) (l : List Int64), x + d = M → l.length ≤ hq x →
    ∃ l', l'.length ≤ 15 ∧ b_X9_hidden_9 (nI x) (tC σ l) = some (some (some (.inl (nI l'.length))), tC σ l') ∧ b_X10_hidden_12 (nI x) (tM τ l) = some (some (some (.inl (nI l'.length))), tM τ l')
  | 0, x, l, hx, hl => by
    have : x = M := by omega
    subst this
    have h15 : ∀ x, x ≤ 6 → hq x ≤ 15 := by decide
    refine ⟨l, Nat.le_trans hl (h15 x hM), ?_, ?_⟩
    · rw [q_X9_hidden_9, (hd.cT (l := l)).rd ix_many, hC0, if_neg (nI_nlt (by omega) (by omega)), tC_len]
    · rw [q_X10_hidden_12, if_neg c0, c0c, t30, hτ, hN0, if_neg (nI_nlt (by omega) (by omega))]
      have : (tM τ l).1 (10, 0, 0, 0) 4 = nI l.length := tM_len
      rw [this]
  | d + 1, x, l, hx, hl => by
    obtain ⟨l1, i1, i2, i3⟩ := hid_in (τ := τ) hd hM hN0 hC0 hH (x := x) (by omega) hτ d (x + 1) l (by omega) (by omega) (by omega)
    obtain ⟨l2, j1, j2, j3⟩ := hid_out hd hM hN0 hC0 hH hτ d (x + 1) l1 (by omega) i1
    refine ⟨l2, j1, ?_, ?_⟩
    · rw [q_X9_hidden_9, (hd.cT (l := l)).rd ix_many, hC0, if_pos (nI_lt (by omega) (by omega)), nI_add, i2, j2]
    · rw [q_X10_hidden_12, if_neg c0, c0c, t30, hτ, hN0, if_pos (nI_lt (by omega) (by omega)), nI_add, i3, j3]
theorem o_hidden (hJ : J K σ) (hK : K ≤ K') (h24 : K' < 2 ^ 24) : Res K' e_X9_hidden e_X10_hidden σ := by
  obtain ⟨C, M, hd, hV, hR⟩ := jget hJ
  have hM := hV.1.2.1
  have hN0 := hV.1.1
  have h0 : C 0 = nI M := (hR.pl (pd_lo (by omega))).trans hN0
  have hh := fun (τ : mS) (hτ : τ.1 (30, 0, 0, 0) = σ.1 (30, 0, 0, 0)) => hid_out (τ := τ) hd hM hN0 h0 hR.2.1 hτ M 0 [] (by omega) (Nat.zero_le _)
  obtain ⟨l', j1, j2, -⟩ := hh σ rfl
  obtain ⟨l2, g1, g2, g3⟩ := hh (st (tC σ l') (10, 0, 0, 0) 5 (nI 0)) (by rw [s30, c30])
  have el : nI l'.length = nI l2.length := by
    have e := j2.symm.trans g2
    injection e with e
    injection e with e1 e2
    injection e1 with e1
    injection e1 with e1
    injection e1
  have hlen : l'.length = l2.length := nI_inj (by omega) (by omega) el
  have et : tC σ l' = tC σ l2 := by
    have e := j2.symm.trans g2
    injection e with e
    injection e
  have hl : l' = l2 := by
    apply List.ext_getElem?
    intro i
    by_cases hi : i < l'.length
    · rw [tC_at (σ := σ) hi, tC_at (σ := σ) (l := l2) (by omega), et]
    · rw [List.getElem?_eq_none (by omega), List.getElem?_eq_none (by omega)]
  subst hl
  refine finT (v := nI l'.length) hJ hK h24 (fun _ _ h => Ev_gn h) (fun _ _ h => Ev_gn h) l' (by omega) ?_ ?_
  · rw [q_X9_hidden, k_forget]
    exact j2
  · rw [q_X10_hidden]
    dsimp only
    rw [r_empty]
    exact g3
end O5

/-! A net's text, read by both -/
section NT
variable {M K K' s z r i n m k a b x y t h w lo hi j u q : Nat} {σ τ σ' σ1 σ2 : mS} {C N F F' G G1 G2 O W : Nat → Int32} {o : mO} {v p p1 p2 wr : Int32} {T g g' : Nat → Nat}
/-- what has been read: quality by pair -/
def GP (m : Nat) (g : Nat → Nat) : Prop := ∀ a b, a < 6 → b < 6 → g (6 * a + b) ≤ 3 ∧ g (6 * a + b) = g (6 * b + a) ∧ (a = b → g (6 * a + b) = 0) ∧ (m ≤ a ∨ m ≤ b → g (6 * a + b) = 0)
def G36 (G : Nat → Int32) (g : Nat → Nat) : Prop := ∀ k, k < 36 → G k = nI (g k)
def gp (g : Nat → Nat) (a b q : Nat) : Nat → Nat := fun k => if k = 6 * b + a then q else if k = 6 * a + b then q else g k
theorem GP.put (h : GP m g) (ha : a < m) (hb : b < m) (hm : m ≤ 6) (hab : a ≠ b) (hq : q ≤ 3) : GP m (gp g a b q) := fun c d hc hd => by
  obtain ⟨h1, h2, h3, h4⟩ := h c d hc hd
  unfold gp
  refine ⟨?_, ?_, fun e => ?_, fun e => ?_⟩
  · split
    · exact hq
    · split
      · exact hq
      · exact h1
  · by_cases e1 : 6 * c + d = 6 * b + a
    · rw [if_pos e1, if_neg (by omega), if_pos (by omega)]
    · rw [if_neg e1]
      by_cases e2 : 6 * c + d = 6 * a + b
      · rw [if_pos e2, if_pos (by omega)]
      · rw [if_neg e2, if_neg (by omega), if_neg (by omega)]
        exact h2
  · rw [if_neg (by omega), if_neg (by omega)]
    exact h3 e
  · rw [if_neg (by omega), if_neg (by omega)]
    exact h4 e
theorem G36.put (h : G36 G g) : G36 (upd (upd G (6 * a + b) (nI q)) (6 * b + a) (nI q)) (gp g a b q) := fun k hk => by
  unfold gp
  by_cases e1 : k = 6 * b + a
  · rw [if_pos e1, e1, upd_e rfl]
  · rw [if_neg e1, upd_n e1]
    by_cases e2 : k = 6 * a + b
    · rw [if_pos e2, e2, upd_e rfl]
    · rw [if_neg e2, upd_n e2]
      exact h k hk
theorem TC.s25 (h : TC σ n T) : TC (sF σ (25, 0, 0, 0) G) n T := ⟨by rw [sF_ne (by decide)]; exact h.1, by rw [sF_ne (by decide)]; exact h.2⟩
theorem x33 (hX : TX τ n T) : TX (sF τ (33, 0, 0, 0) G) n T := ⟨by rw [sF_ne (by decide)]; exact hX.1, by rw [sF_ne (by decide)]; exact hX.2⟩
theorem rd_G : st (rd (sF τ (33, 0, 0, 0) G) j wr) (33, 0, 0, 0) i v = rd (sF τ (33, 0, 0, 0) (upd G i v)) j wr := by rw [rd_o (by decide), sF_st]
/-- one pair's reading, for both -/
def P1 (n m : Nat) (T g : Nat → Nat) (j : Nat) : Prop :=
  (∃ p, p < 2 ^ 30 ∧ (∀ σ G, TC σ n T → G36 G g → b_X9_readPairs_26 (nI m) (nI j) (sF σ (25, 0, 0, 0) G) = some (some (some (.inl (nI p))), sF σ (25, 0, 0, 0) G)) ∧ ∀ τ G, TX τ n T → G36 G g → ∃ j' G', e_X10_readPair (nI m) (rd (sF τ (33, 0, 0, 0) G) j (-1)) = some (some (some (.inl (nI 1))), rd (sF τ (33, 0, 0, 0) G') j' (nI p))) ∨
  (∃ g', GP m g' ∧ j + 3 ≤ n ∧ (∀ σ G, TC σ n T → G36 G g → ∃ G', G36 G' g' ∧ b_X9_readPairs_26 (nI m) (nI j) (sF σ (25, 0, 0, 0) G) = b_X9_readPairs_26 (nI m) (nI (j + 3)) (sF σ (25, 0, 0, 0) G')) ∧ ∀ τ G, TX τ n T → G36 G g → ∃ G', G36 G' g' ∧ e_X10_readPair (nI m) (rd (sF τ (33, 0, 0, 0) G) j (-1)) = some (some (some (.inl (nI 1))), rd (sF τ (33, 0, 0, 0) G') (j + 3) (-1)))
/-- the reference behind a fault -/
theorem m_pair_bad {a b : Nat} (ha : a < 6) (hb : b < 6) (hw : wr ≠ -1) : ∃ G', (bdI (e_X10_oneOf (nI 49) (nI 3) (rd (sF τ (33, 0, 0, 0) G) j wr)) (fun v8 σ7 => if ((nI 6) * nI a) + nI b < 0 ∨ 36 ≤ (((nI 6) * nI a) + nI b).toNatClampNeg then none else (if ((nI 6) * nI b) + nI a < 0 ∨ 36 ≤ (((nI 6) * nI b) + nI a).toNatClampNeg then none else some (some (some (.inl (nI 1))), st (st σ7 (33, 0, 0, 0) ((((nI 6) * nI a) + nI b).toNatClampNeg) (v8 + (nI 1))) (33, 0, 0, 0) ((((nI 6) * nI b) + nI a).toNatClampNeg) (v8 + (nI 1)))))) = some (some (some (.inl (nI 1))), rd (sF τ (33, 0, 0, 0) G') j wr) := by
  refine ⟨upd (upd G (6 * a + b) (nI 0 + nI 1)) (6 * b + a) (nI 0 + nI 1), ?_⟩
  rw [m_one_s hw]
  dsimp only [bdI]
  rw [pk_mul, pk_mul, nI_add, nI_add, if_neg (nI_in (by omega) (by omega)), if_neg (nI_in (by omega) (by omega)), nI_clamp (n := 6 * a + b) (by omega), nI_clamp (n := 6 * b + a) (by omega), rd_G, rd_G]
theorem j_pair (hn : n ≤ 80) (hm : m ≤ 6) (hm1 : 1 ≤ m) (hj : j < n) (hg : GP m g) : P1 n m T g j := by
  have c1 : ∀ σ G, TC σ n T → b_X9_readPairs_26 (nI m) (nI j) (sF σ (25, 0, 0, 0) G) = bdI (e_X7_letterAt (nI j) (nI m) (sF σ (25, 0, 0, 0) G)) (fun v2 σ1 => if v2 < 0 then some (some (some (.inl (nI j))), σ1) else bdI (e_X7_letterAt (nI (j + 1)) (nI m) σ1) (fun v4 σ3 => if v4 < 0 then some (some (some (.inl (nI (j + 1)))), σ3) else if v4 = v2 then some (some (some (.inl (nI (j + 1)))), σ3) else if (v2 * (nI 6)) + v4 < 0 ∨ 36 ≤ ((v2 * (nI 6)) + v4).toNatClampNeg then none else if σ3.1 (25, 0, 0, 0) (((v2 * (nI 6)) + v4).toNatClampNeg) = 0 then bdI (e_X7_digitAt (nI (j + 2)) (nI 1) (nI 3) σ3) (fun v6 σ5 => if v6 < 0 then some (some (some (.inl (nI (j + 2)))), σ5) else if (v2 * (nI 6)) + v4 < 0 ∨ 36 ≤ ((v2 * (nI 6)) + v4).toNatClampNeg then none else if (v4 * (nI 6)) + v2 < 0 ∨ 36 ≤ ((v4 * (nI 6)) + v2).toNatClampNeg then none else b_X9_readPairs_26 (nI m) (nI (j + 3)) (st (st σ5 (25, 0, 0, 0) (((v2 * (nI 6)) + v4).toNatClampNeg) v6) (25, 0, 0, 0) (((v4 * (nI 6)) + v2).toNatClampNeg) v6)) else some (some (some (.inl (nI (j + 1)))), σ3))) := fun σ G hT => by
    rw [q_X9_readPairs_26, sF_ne (o' := (7, 0, 0, 0)) (by decide), hT.1, if_pos (nI_lt hj (by omega)), nI_add, nI_add, show (3 : Int32) = nI 3 from rfl, nI_add]
  by_cases r1 : rg 97 m n T j
  · have b1 := r1.2
    generalize ea : T j - 97 = a
    have ha : a < m := by omega
    by_cases r2 : rg 97 m n T (j + 1)
    · have b2 := r2.2
      generalize eb : T (j + 1) - 97 = b
      have hb : b < m := by omega
      have c2 : ∀ σ G, TC σ n T → G36 G g → b_X9_readPairs_26 (nI m) (nI j) (sF σ (25, 0, 0, 0) G) = if b = a then some (some (some (.inl (nI (j + 1)))), (sF σ (25, 0, 0, 0) G)) else if g (6 * a + b) = 0 then bdI (e_X7_digitAt (nI (j + 2)) (nI 1) (nI 3) (sF σ (25, 0, 0, 0) G)) (fun v6 σ5 => if v6 < 0 then some (some (some (.inl (nI (j + 2)))), σ5) else b_X9_readPairs_26 (nI m) (nI (j + 3)) (st (st σ5 (25, 0, 0, 0) (6 * a + b) v6) (25, 0, 0, 0) (6 * b + a) v6)) else some (some (some (.inl (nI (j + 1)))), (sF σ (25, 0, 0, 0) G)) := fun σ G hT hG => by
        have e3 := (hg a b (by omega) (by omega)).1
        rw [c1 σ G hT, c_let_t hT.s25 hn hm r1, ea]
        dsimp only [bdI]
        rw [if_neg (nI_pos (by omega)), c_let_t hT.s25 hn hm r2, eb]
        dsimp only
        rw [if_neg (nI_pos (by omega)), pk_mul, pk_mul, nI_add, nI_add, show a * 6 + b = 6 * a + b from by omega, show b * 6 + a = 6 * b + a from by omega]
        simp (disch := omega) only [nI_clamp, ck2, if_false]
        rw [sF_at, hG _ (by omega)]
        by_cases e1 : b = a
        · rw [if_pos (by rw [e1]), if_pos e1]
        · rw [if_neg (fun e => e1 (nI_inj (by omega) (by omega) e)), if_neg e1]
          by_cases e2 : g (6 * a + b) = 0
          · rw [if_pos (show nI (g (6 * a + b)) = 0 from by rw [e2]; rfl), if_pos e2]
          · rw [if_neg (nI_ne0 (by omega) (by omega)), if_neg e2]
      have m2 : ∀ τ G, TX τ n T → G36 G g → ∃ X, X = (fun σ5 : mS => bdI (e_X10_oneOf (nI 49) (nI 3) σ5) (fun v8 σ7 => if ((nI 6) * nI a) + nI b < 0 ∨ 36 ≤ (((nI 6) * nI a) + nI b).toNatClampNeg then none else (if ((nI 6) * nI b) + nI a < 0 ∨ 36 ≤ (((nI 6) * nI b) + nI a).toNatClampNeg then none else some (some (some (.inl (nI 1))), st (st σ7 (33, 0, 0, 0) ((((nI 6) * nI a) + nI b).toNatClampNeg) (v8 + (nI 1))) (33, 0, 0, 0) ((((nI 6) * nI b) + nI a).toNatClampNeg) (v8 + (nI 1)))))) ∧ e_X10_readPair (nI m) (rd (sF τ (33, 0, 0, 0) G) j (-1)) = if b = a then X (rd (sF τ (33, 0, 0, 0) G) (j + 2) (nI (j + 1))) else if g (6 * a + b) = 0 then X (rd (sF τ (33, 0, 0, 0) G) (j + 2) (-1)) else X (rd (sF τ (33, 0, 0, 0) G) (j + 2) (nI (j + 1))) := fun τ G hX hG => by
        have e3 := (hg a b (by omega) (by omega)).1
        refine ⟨_, rfl, ?_⟩
        rw [q_X10_readPair, m_one_t (x33 hX) hn (by omega) hm1 r1, ea]
        dsimp only [bdI]
        rw [m_one_t (x33 hX) hn (by omega) hm1 r2, eb]
        dsimp only
        rw [m_fine]
        dsimp only
        rw [if_bI rfl, rd_at, pk_sub (by omega), rd_ne (o := (33, 0, 0, 0)) (by decide), sF_at]
        by_cases e1 : b = a
        · rw [if_pos (by rw [e1]), if_pos e1, m_fault_t]
          rfl
        · rw [if_neg (fun e => e1 (nI_inj (by omega) (by omega) e).symm), if_neg e1, if_neg (by rw [pk_mul, nI_add]; exact nI_in (by omega) (by omega)), show ((nI 6) * nI a + nI b).toNatClampNeg = 6 * a + b from by rw [pk_mul, nI_add, nI_clamp (by omega)], hG _ (by omega)]
          by_cases e2 : g (6 * a + b) = 0
          · rw [if_neg (show ¬ 0 < nI (g (6 * a + b)) from by rw [nI_0lt (by omega)]; omega), if_pos e2]
          · rw [if_pos (show 0 < nI (g (6 * a + b)) from by rw [nI_0lt (by omega)]; omega), if_neg e2, m_fault_t]
            rfl
      by_cases e1 : b = a
      · refine Or.inl ⟨j + 1, by omega, fun σ G hT hG => ?_, fun τ G hX hG => ?_⟩
        · rw [c2 σ G hT hG, if_pos e1]
        · obtain ⟨X, hx, e⟩ := m2 τ G hX hG
          rw [if_pos e1, hx] at e
          obtain ⟨G', e'⟩ := m_pair_bad (τ := τ) (G := G) (j := j + 2) (wr := nI (j + 1)) (a := a) (b := b) (by omega) (by omega) (wrn (by omega))
          exact ⟨_, _, e.trans e'⟩
      · by_cases e2 : g (6 * a + b) = 0
        · by_cases r3 : rg 49 3 n T (j + 2)
          · have b3 := r3.2
            refine Or.inr ⟨gp g a b (T (j + 2) - 48), hg.put ha hb hm (fun e => e1 e.symm) (by omega), by have := r3.1; omega, fun σ G hT hG => ⟨_, hG.put (a := a) (b := b) (q := T (j + 2) - 48), ?_⟩, fun τ G hX hG => ⟨_, hG.put (a := a) (b := b) (q := T (j + 2) - 48), ?_⟩⟩
            · rw [c2 σ G hT hG, if_neg e1, if_pos e2, c_dig_t (lo := 1) (hi := 3) hT.s25 hn (by omega) (by omega) r3]
              dsimp only [bdI]
              rw [if_neg (nI_pos (by omega)), sF_st, sF_st]
            · obtain ⟨X, hx, e⟩ := m2 τ G hX hG
              rw [e, if_neg e1, if_pos e2, hx]
              dsimp only
              rw [m_one_t (x33 hX) hn (by omega) (by omega) r3]
              dsimp only [bdI]
              rw [pk_mul, pk_mul, nI_add, nI_add, nI_add, if_neg (nI_in (by omega) (by omega)), if_neg (nI_in (by omega) (by omega)), nI_clamp (n := 6 * a + b) (by omega), nI_clamp (n := 6 * b + a) (by omega), rd_G, rd_G, show T (j + 2) - 49 + 1 = T (j + 2) - 48 from by omega]
          · refine Or.inl ⟨j + 2, by omega, fun σ G hT hG => ?_, fun τ G hX hG => ?_⟩
            · rw [c2 σ G hT hG, if_neg e1, if_pos e2, c_dig_f (lo := 1) (hi := 3) hT.s25 hn (by omega) (by omega) (by omega) r3]
              dsimp only [bdI]
              rw [if_pos (by decide)]
            · obtain ⟨X, hx, e⟩ := m2 τ G hX hG
              refine ⟨j + 2, upd (upd G (6 * a + b) (nI 0 + nI 1)) (6 * b + a) (nI 0 + nI 1), ?_⟩
              rw [e, if_neg e1, if_pos e2, hx]
              dsimp only
              rw [m_one_f (x33 hX) hn (by omega) (by omega) (by omega) r3]
              dsimp only [bdI]
              rw [pk_mul, pk_mul, nI_add (6 * a), nI_add (6 * b), if_neg (nI_in (by omega) (by omega)), if_neg (nI_in (by omega) (by omega)), nI_clamp (n := 6 * a + b) (by omega), nI_clamp (n := 6 * b + a) (by omega), rd_G, rd_G]
        · refine Or.inl ⟨j + 1, by omega, fun σ G hT hG => ?_, fun τ G hX hG => ?_⟩
          · rw [c2 σ G hT hG, if_neg e1, if_neg e2]
          · obtain ⟨X, hx, e⟩ := m2 τ G hX hG
            rw [if_neg e1, if_neg e2, hx] at e
            obtain ⟨G', e'⟩ := m_pair_bad (τ := τ) (G := G) (j := j + 2) (wr := nI (j + 1)) (a := a) (b := b) (by omega) (by omega) (wrn (by omega))
            exact ⟨_, _, e.trans e'⟩
    · refine Or.inl ⟨j + 1, by omega, fun σ G hT hG => ?_, fun τ G hX hG => ?_⟩
      · rw [c1 σ G hT, c_let_t hT.s25 hn hm r1, ea]
        dsimp only [bdI]
        rw [if_neg (nI_pos (by omega)), c_let_f hT.s25 hn (by omega) hm r2]
        dsimp only
        rw [if_pos (by decide)]
      · obtain ⟨G', e'⟩ := m_pair_bad (τ := τ) (G := G) (j := j + 1) (wr := nI (j + 1)) (a := a) (b := 0) (by omega) (by omega) (wrn (by omega))
        refine ⟨_, _, Eq.trans ?_ e'⟩
        rw [q_X10_readPair, m_one_t (x33 hX) hn (by omega) hm1 r1, ea]
        dsimp only [bdI]
        rw [m_one_f (x33 hX) hn (by omega) hm1 (by omega) r2]
        dsimp only
        rw [m_fine]
        dsimp only
        rw [if_nbI (wrn (by omega))]
  · refine Or.inl ⟨j, by omega, fun σ G hT hG => ?_, fun τ G hX hG => ?_⟩
    · rw [c1 σ G hT, c_let_f hT.s25 hn (by omega) hm r1]
      dsimp only [bdI]
      rw [if_pos (by decide)]
    · obtain ⟨G', e'⟩ := m_pair_bad (τ := τ) (G := G) (j := j) (wr := nI j) (a := 0) (b := 0) (by omega) (by omega) (wrn (by omega))
      refine ⟨_, _, Eq.trans ?_ e'⟩
      rw [q_X10_readPair, m_one_f (x33 hX) hn (by omega) hm1 (by omega) r1]
      dsimp only [bdI]
      rw [m_one_s (wrn (by omega))]
      dsimp only
      rw [m_fine]
      dsimp only
      rw [if_nbI (wrn (by omega))]
end NT

/-! A net's text: all of it -/
section NU
variable {M K K' s z r i n m k a b x y t h w lo hi j u q : Nat} {σ τ σ' σ1 σ2 : mS} {C N F F' G G1 G2 O W : Nat → Int32} {o : mO} {v p p1 p2 wr : Int32} {T g g' : Nat → Nat}
theorem m_net_w (h : wr ≠ -1) : b_X10_net_46 p1 p2 (rd τ j wr) = some (some (some (.inl ((-1) - wr))), rd τ j wr) := by
  rw [q_X10_net_46, m_fine]
  dsimp only [bdI]
  rw [if_nbI h, m_right_f h]
  dsimp only
  rw [if_pos n00, rd_wr]
def N1r (n m : Nat) (T g : Nat → Nat) (x j : Nat) : Prop :=
  (∃ p, p < 2 ^ 30 ∧ (∀ σ G, TC σ n T → G36 G g → ∃ G', b_X9_readPairs_26 (nI m) (nI j) (sF σ (25, 0, 0, 0) G) = some (some (some (.inl (nI p))), sF σ (25, 0, 0, 0) G')) ∧ ∀ τ G, TX τ n T → G36 G g → ∃ j' G', b_X10_net_46 (nI m) (nI x) (rd (sF τ (33, 0, 0, 0) G) j (-1)) = some (some (some (.inl ((-1) - nI p))), rd (sF τ (33, 0, 0, 0) G') j' (nI p))) ∨
  (∃ (g' : Nat → Nat) (c : Nat), GP m g' ∧ n = j + 3 * c ∧ (∀ σ G, TC σ n T → G36 G g → ∃ G', G36 G' g' ∧ b_X9_readPairs_26 (nI m) (nI j) (sF σ (25, 0, 0, 0) G) = some (some (some (.inl (-1))), sF σ (25, 0, 0, 0) G')) ∧ ∀ τ G, TX τ n T → G36 G g → ∃ G', G36 G' g' ∧ b_X10_net_46 (nI m) (nI x) (rd (sF τ (33, 0, 0, 0) G) j (-1)) = bdV (e_X10_change (rd (sF τ (33, 0, 0, 0) G') n (-1))) (fun σ => b_X10_net_95 (nI m) (nI (x + c)) (nI 0) σ))
theorem j_pairs (hn : n ≤ 80) (hm : m ≤ 6) (hm1 : 1 ≤ m) : ∀ d j x g, n ≤ j + d → j ≤ n → GP m g → N1r n m T g x j
  | d, j, x, g, hd, hj, hg => by
    by_cases h : j < n
    · have rs : ∀ τ G, TX τ n T → b_X10_net_46 (nI m) (nI x) (rd (sF τ (33, 0, 0, 0) G) j (-1)) = bdI (e_X10_readPair (nI m) (rd (sF τ (33, 0, 0, 0) G) j (-1))) (fun v7 σ6 => b_X10_net_46 (nI m) (nI x + v7) σ6) := fun τ G hX => by
        rw [q_X10_net_46, m_fine]
        dsimp only [bdI]
        rw [if_bI rfl, rd_at, rd_10 (by decide) (by decide), (x33 hX).1, if_pos (nI_lt h (by omega))]
      rcases j_pair (T := T) hn hm hm1 h hg with ⟨p, hp, c1, r1⟩ | ⟨g1, hg1, hl, c1, r1⟩
      · refine Or.inl ⟨p, hp, fun σ G hT hG => ⟨G, c1 σ G hT hG⟩, fun τ G hX hG => ?_⟩
        obtain ⟨j', G', e⟩ := r1 τ G hX hG
        refine ⟨j', G', ?_⟩
        rw [rs τ G hX, e]
        dsimp only [bdI]
        rw [m_net_w (wrn hp)]
      · rcases j_pairs hn hm hm1 (d - 1) (j + 3) (x + 1) g1 (by omega) hl hg1 with ⟨p, hp, c2, r2⟩ | ⟨g2, c, hg2, e2, c2, r2⟩
        · refine Or.inl ⟨p, hp, fun σ G hT hG => ?_, fun τ G hX hG => ?_⟩
          · obtain ⟨G', a1, a2⟩ := c1 σ G hT hG
            obtain ⟨G'', a3⟩ := c2 σ G' hT a1
            exact ⟨G'', a2.trans a3⟩
          · obtain ⟨G', a1, a2⟩ := r1 τ G hX hG
            obtain ⟨j', G'', a3⟩ := r2 τ G' hX a1
            refine ⟨j', G'', ?_⟩
            rw [rs τ G hX, a2]
            dsimp only [bdI]
            rw [nI_add]
            exact a3
        · refine Or.inr ⟨g2, c + 1, hg2, by omega, fun σ G hT hG => ?_, fun τ G hX hG => ?_⟩
          · obtain ⟨G', a1, a2⟩ := c1 σ G hT hG
            obtain ⟨G'', a3, a4⟩ := c2 σ G' hT a1
            exact ⟨G'', a3, a2.trans a4⟩
          · obtain ⟨G', a1, a2⟩ := r1 τ G hX hG
            obtain ⟨G'', a3, a4⟩ := r2 τ G' hX a1
            refine ⟨G'', a3, ?_⟩
            rw [rs τ G hX, a2]
            dsimp only [bdI]
            rw [nI_add, a4, show x + 1 + c = x + (c + 1) from by omega]
    · have e : j = n := by omega
      subst e
      refine Or.inr ⟨g, 0, hg, by omega, fun σ G hT hG => ⟨G, hG, ?_⟩, fun τ G hX hG => ⟨G, hG, ?_⟩⟩
      · rw [q_X9_readPairs_26, sF_ne (o' := (7, 0, 0, 0)) (by decide), hT.1, if_neg (nI_nlt (Nat.le_refl _) (by omega))]
      · rw [q_X10_net_46, m_fine]
        dsimp only [bdI]
        rw [if_bI rfl, rd_at, rd_10 (by decide) (by decide), (x33 hX).1, if_neg (nI_nlt (Nat.le_refl _) (by omega)), m_right_t (x33 hX) hn]
        dsimp only
        rw [if_neg n10, Nat.add_zero]
termination_by d j => n - j
def zr (G : Nat → Int32) (i : Nat) : Nat → Int32 := fun k => if k < i then nI 0 else G k
theorem zr_0 : zr G 0 = G := by
  funext k
  exact if_neg (by omega)
theorem zr_s : upd (zr G i) i (nI 0) = zr G (i + 1) := by
  funext k
  unfold upd zr
  by_cases h : k = i
  · rw [if_pos h, if_pos (by omega)]
  · rw [if_neg h]
    by_cases h2 : k < i
    · rw [if_pos h2, if_pos (by omega)]
    · rw [if_neg h2, if_neg (by omega)]
theorem zr_36 : G36 (zr G 36) (fun _ => 0) := fun k hk => if_pos hk
theorem GP.zero : GP m (fun _ => 0) := fun _ _ _ _ => ⟨Nat.zero_le _, rfl, fun _ => rfl, fun _ => rfl⟩
theorem c_zr_from : ∀ d i, i + d = 36 → b_X9_readPairs_2 p (nI i) (sF σ (25, 0, 0, 0) (zr G i)) = b_X9_readPairs_26 p (nI 1) (sF σ (25, 0, 0, 0) (zr G 36))
  | 0, i, hi => by rw [show i = 36 from by omega, q_X9_readPairs_2, if_neg (by decide)]
  | d + 1, i, hi => by
    rw [q_X9_readPairs_2, if_pos (nI_lt (by omega) (by omega)), if_neg (nI_in (by omega) (by omega)), nI_clamp (by omega), sF_st, zr_s, nI_1]
    exact c_zr_from d (i + 1) (by omega)
theorem m_zr_from : ∀ d i, i + d = 36 → b_X10_net_11 (nI i) (rd (sF τ (33, 0, 0, 0) (zr G i)) j wr) = bdI (e_X10_oneOf (nI 49) (nI 6) (rd (sF τ (33, 0, 0, 0) (zr G 36)) j wr)) (fun v3 σ2 => b_X10_net_46 (v3 + (nI 1)) (nI 0) σ2)
  | 0, i, hi => by rw [show i = 36 from by omega, q_X10_net_11, if_neg (by decide)]
  | d + 1, i, hi => by
    rw [q_X10_net_11, if_pos (nI_lt (by omega) (by omega)), if_neg (nI_in (by omega) (by omega)), nI_clamp (by omega), rd_G, zr_s, nI_1]
    exact m_zr_from d (i + 1) (by omega)
def NR (n : Nat) (T : Nat → Nat) : Prop :=
  (∃ p, p < 2 ^ 30 ∧ (∀ σ, TC σ n T → ∃ G', e_X9_net σ = some (some (some (.inl ((-1) - nI p))), st (sF σ (25, 0, 0, 0) G') (7, 0, 0, 0) 1 (nI 0))) ∧ ∀ τ, TX τ n T → ∃ j' G', b_X10_net_11 (nI 0) (rd τ 0 (-1)) = some (some (some (.inl ((-1) - nI p))), rd (sF τ (33, 0, 0, 0) G') j' (nI p))) ∨
  (∃ (m c : Nat) (g : Nat → Nat), 1 ≤ m ∧ m ≤ 6 ∧ GP m g ∧ (∀ σ, TC σ n T → ∃ G', G36 G' g ∧ e_X9_net σ = bdV (e_X5_push 0 (st (sF σ (25, 0, 0, 0) G') (7, 0, 0, 0) 1 (nI 0))) (fun σ4 => bdV (e_X0_startAnew 0 (nI m) σ4) (fun σ5 => some (some (some (.inl (nI c))), σ5)))) ∧ ∀ τ, TX τ n T → ∃ G', G36 G' g ∧ b_X10_net_11 (nI 0) (rd τ 0 (-1)) = bdV (e_X10_change (rd (sF τ (33, 0, 0, 0) G') n (-1))) (fun σ => b_X10_net_95 (nI m) (nI c) (nI 0) σ))
theorem j_nread (hn : n ≤ 80) : NR n T := by
  have rz : ∀ τ : mS, b_X10_net_11 (nI 0) (rd τ 0 (-1)) = bdI (e_X10_oneOf (nI 49) (nI 6) (rd (sF τ (33, 0, 0, 0) (zr (τ.1 (33, 0, 0, 0)) 36)) 0 (-1))) (fun v3 σ2 => b_X10_net_46 (v3 + (nI 1)) (nI 0) σ2) := fun τ => by
    have := m_zr_from (τ := τ) (G := τ.1 (33, 0, 0, 0)) (j := 0) (wr := -1) 36 0 (by omega)
    rw [zr_0, sF_self] at this
    exact this
  have cz : ∀ (σ : mS) (m : Nat), e_X9_readPairs (nI m) σ = b_X9_readPairs_26 (nI m) (nI 1) (sF σ (25, 0, 0, 0) (zr (σ.1 (25, 0, 0, 0)) 36)) := fun σ m => by
    have := c_zr_from (σ := σ) (G := σ.1 (25, 0, 0, 0)) (p := nI m) 36 0 (by omega)
    rw [zr_0, sF_self] at this
    rw [q_X9_readPairs]
    exact this
  by_cases r1 : rg 49 6 n T 0
  · have b1 := r1.2
    have b0 := r1.1
    generalize em : T 0 - 48 = m
    have em' : T 0 - 49 + 1 = m := by omega
    have hm : m ≤ 6 := by omega
    have hm1 : 1 ≤ m := by omega
    have rr : ∀ τ, TX τ n T → b_X10_net_11 (nI 0) (rd τ 0 (-1)) = b_X10_net_46 (nI m) (nI 0) (rd (sF τ (33, 0, 0, 0) (zr (τ.1 (33, 0, 0, 0)) 36)) 1 (-1)) := fun τ hX => by
      rw [rz τ, m_one_t (x33 hX) hn (by omega) (by omega) r1]
      dsimp only [bdI]
      rw [nI_add, em']
    rcases j_pairs (T := T) hn hm hm1 n 1 0 (fun _ => 0) (by omega) (by omega) GP.zero with ⟨p, hp, c1, r2⟩ | ⟨g, c, hg, ec, c1, r2⟩
    · refine Or.inl ⟨p, hp, fun σ hT => ?_, fun τ hX => ?_⟩
      · obtain ⟨G', e⟩ := c1 σ _ hT zr_36
        refine ⟨G', ?_⟩
        rw [q_X9_net, c_dig_t (lo := 1) (hi := 6) hT hn (by omega) (by omega) r1, em]
        dsimp only [bdI]
        rw [if_neg (nI_pos (by omega)), cz, e]
        dsimp only
        rw [if_neg (nI_pos (by omega))]
      · obtain ⟨j', G', e⟩ := r2 τ _ hX zr_36
        exact ⟨j', G', (rr τ hX).trans e⟩
    · refine Or.inr ⟨m, c, g, hm1, hm, hg, fun σ hT => ?_, fun τ hX => ?_⟩
      · obtain ⟨G', e1, e⟩ := c1 σ _ hT zr_36
        refine ⟨G', e1, ?_⟩
        rw [q_X9_net, c_dig_t (lo := 1) (hi := 6) hT hn (by omega) (by omega) r1, em]
        dsimp only [bdI]
        rw [if_neg (nI_pos (by omega)), cz, e]
        dsimp only
        rw [if_pos (by decide), if_neg (by decide), sF_ne (o' := (7, 0, 0, 0)) (by decide), hT.1, pk_sub (by omega), pk_div (by omega) (by omega) (by omega), show (n - 1) / 3 = c from by omega]
      · obtain ⟨G', e1, e⟩ := r2 τ _ hX zr_36
        refine ⟨G', e1, (rr τ hX).trans ?_⟩
        rw [e, Nat.zero_add]
  · refine Or.inl ⟨0, by omega, fun σ hT => ⟨σ.1 (25, 0, 0, 0), ?_⟩, fun τ hX => ⟨0, zr (τ.1 (33, 0, 0, 0)) 36, ?_⟩⟩
    · rw [sF_self, q_X9_net, c_dig_f (lo := 1) (hi := 6) hT hn (by omega) (by omega) (by omega) r1]
      dsimp only [bdI]
      rw [if_pos (by decide), if_neg (by decide)]
    · rw [rz τ, m_one_f (x33 hX) hn (by omega) (by omega) (by omega) r1]
      dsimp only [bdI]
      rw [m_net_w (wrn (by omega))]
end NU

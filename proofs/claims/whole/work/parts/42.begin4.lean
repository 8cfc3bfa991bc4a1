/-! Both rows: step (a) for all stations -/
section B4
variable {M K s r i n m k d h x y T : Nat} {F G N C P Q O W C' N' : Nat → Int32} {v u t : Int32} {b : Int32} {p : Nat → Nat}
theorem m_isReady {σ : mS} (hs : s < 6) (hr : r < 4) : e_X10_isReady (nI s) (nI r) (wM σ N O W b) = some (some (some (.inl (bI (0 < N (147 + (4 * s + r)) ∧ N (1155 + (4 * s + r)) = 0 ∧ ¬ N (123 + s) < N (5 + r))))), wM σ N O W b) := by
  rw [q_X10_isReady, r_at]
  simp (disch := omega) only [bdI, nI_add, nI_clamp, ck2, if_false, wM_N, r_at, z01, o01, if_true]
  by_cases h1 : 0 < N (147 + (4 * s + r))
  · rw [if_pos h1]
    by_cases h2 : N (1155 + (4 * s + r)) = 0
    · rw [if_pos h2]
      by_cases h3 : N (123 + s) < N (5 + r)
      · rw [if_pos h3, bI_f (fun q => q.2.2 h3)]
      · rw [if_neg h3, bI_t ⟨h1, h2, h3⟩]
    · rw [if_neg h2, bI_f (fun q => h2 q.2.1)]
  · rw [if_neg h1, bI_f (fun q => h1 q.1)]
/-- what a station's step (a) leaves alone -/
def BFr (s : Nat) (N N' : Nat → Int32) : Prop := ∀ k, k ≠ 14 → (k < 147 ∨ 1179 ≤ k) → (k < 1179 + 16 * s ∨ 1179 + 16 * s + 16 ≤ k) → k ≠ 1275 + 9 * s + 2 → k ≠ 1275 + 9 * s + 3 → k ≠ 1275 + 9 * s + 6 → k ≠ 1337 → k ≠ 1339 → k ≠ 1341 → N' k = N k
theorem DB.begin {ph : Nat} (hd : DB M N) (hM : M ≤ 6) (hs : s < M) (h0 : N (1179 + 16 * s) = nI 0) (e1 : ∀ k, 135 ≤ k → k < 147 → N' k = N k) (e2 : ∀ k, 1179 ≤ k → k < 1275 → (k < 1179 + 16 * s ∨ 1179 + 16 * s + 16 ≤ k) → N' k = N k) (h4 : N' (1179 + 16 * s + 4) = nI ph) (hph : ph = 0 ∨ ph = 2) (h6 : N' (1179 + 16 * s + 6) = nI 0) (h15 : N' (1179 + 16 * s + 15) = nI 0) : DB M N' := by
  obtain ⟨d1, d2, d3, d4⟩ := hd
  have a0 : ∀ x, x < M → x ≠ s → N' (1179 + 16 * x) = N (1179 + 16 * x) := fun x hx hne => e2 _ (by omega) (by omega) (by omega)
  have a1 : ∀ x k, x < M → x ≠ s → k < 16 → N' (1179 + 16 * x + k) = N (1179 + 16 * x + k) := fun x k hx hne hk => e2 _ (by omega) (by omega) (by omega)
  have o1 : ∀ y, y < M → N' (135 + y) = N (135 + y) := fun y hy => e1 _ (by omega) (by omega)
  have o2 : ∀ y, y < M → N' (141 + y) = N (141 + y) := fun y hy => e1 _ (by omega) (by omega)
  have n4 : ∀ j, j ≠ 0 → j ≠ 2 → j < 4 → N' (1179 + 16 * s + 4) ≠ nI j := fun j j1 j2 j3 g => by
    rw [h4] at g
    have := (nI_eq (by omega) (by omega)).mp g
    omega
  refine ⟨fun y hy => ?_, fun x y hx hy g0 g1 => ?_, fun x1 x2 h1 h2 hne g1 g2 g3 g4 g5 => ?_, fun y x1 x2 hy h1 h2 g1 g2 g3 g4 g5 => ?_⟩
  · rw [o1 y hy, o2 y hy]
    rcases d1 y hy with g | ⟨x, g1, g2, g3, g4, g5, g6⟩
    · exact Or.inl g
    · have hxs : x ≠ s := fun e => by rw [e, h0] at g3; exact n01 g3
      exact Or.inr ⟨x, g1, g2, by rw [a0 x g1 hxs, g3], by rw [a1 x 1 g1 hxs (by omega), g4], by rw [a1 x 15 g1 hxs (by omega), g5], by rw [a1 x 4 g1 hxs (by omega)]; exact g6⟩
  · by_cases e : x = s
    · subst e
      exact ⟨Or.inl h15, fun _ => h15, fun g => absurd g (n4 1 (by omega) (by omega) (by omega)), fun g => absurd g (n4 3 (by omega) (by omega) (by omega))⟩
    · rw [a1 x 15 hx e (by omega), a1 x 4 hx e (by omega), o1 y hy, o2 y hy]
      exact d2 x y hx hy (by rw [← a0 x hx e]; exact g0) (by rw [← a1 x 1 hx e (by omega)]; exact g1)
  · by_cases e : x1 = s
    · left; rw [e]; exact h6
    · by_cases e' : x2 = s
      · right; rw [e']; exact h6
      · rw [a1 x1 6 h1 e (by omega), a1 x2 6 h2 e' (by omega)]
        rw [a0 x1 h1 e] at g1
        rw [a0 x2 h2 e'] at g2
        rw [a1 x1 4 h1 e (by omega)] at g3
        rw [a1 x2 4 h2 e' (by omega)] at g4
        rw [a1 x1 1 h1 e (by omega), a1 x2 1 h2 e' (by omega)] at g5
        exact d3 x1 x2 h1 h2 hne g1 g2 g3 g4 g5
  · by_cases e : x2 = s
    · rw [e]; exact h6
    · rw [a1 x2 6 h2 e (by omega)]
      rw [o1 y hy] at g1
      rw [a0 x2 h2 e] at g3
      rw [a1 x2 4 h2 e (by omega)] at g4
      rw [a1 x2 1 h2 e (by omega)] at g5
      exact d4 y x1 x2 hy h1 h2 g1 g2 g3 g4 g5
theorem nI_0lt' {z : Int32} {n : Nat} (hz : z = nI n) (hn : n < 2 ^ 31) (h : 0 < z) : 1 ≤ n := by
  rw [hz, nI_0lt hn] at h
  exact h
theorem j_ranks {a : Nat} (hs : s < M) : ∀ (d r : Nat) (C N : Nat → Int32) (x2 gI : Int32), r + d = 4 → IC M N → DB M N → Rl M C N P Q → ((x2 = -1 ∧ gI = nI 0 ∧ N (1179 + 16 * s) = nI 0) ∨ (∃ r0, r0 < r ∧ x2 = nI r0 ∧ gI = nI 1 ∧ N (1179 + 16 * s) = nI 1 ∧ N (1179 + 16 * s + 2) = nI r0)) →
    ∃ C' N', (∀ σ, b_X0_beginOf_4 a (nI s) x2 (nI r) (wC a σ C) = some (some none, wC a σ C')) ∧ (∀ σ O W b, b_X10_stepBegin_125 (nI s) gI (nI r) (wM σ N O W b) = b_X10_stepBegin_85 (nI (s + 1)) (wM σ N' O W b)) ∧ IC M N' ∧ DB M N' ∧ Rl M C' N' P Q ∧ BFr s N N'
  | 0, r, C, N, x2, gI, hd, hI, hD, hR, _ => by
    have : r = 4 := by omega
    subst this
    refine ⟨C, N, fun σ => ?_, fun σ O W b => ?_, hI, hD, hR, fun _ _ _ _ _ _ _ _ _ _ => rfl⟩
    · rw [q_X0_beginOf_4, if_neg (by decide)]
    · rw [q_X10_stepBegin_125, if_neg (by decide), nI_1]
  | d + 1, r, C, N, x2, gI, hd, hI, hD, hR, hph => by
    have hM := hI.1.2.1
    have hr : r < 4 := by omega
    obtain ⟨n, hq⟩ := hI.2.2.1 s r hs hr
    have hrd : (0 < C (147 + (4 * s + r)) ∧ C (1155 + (4 * s + r)) = 0 ∧ ¬ C (123 + s) < C (5 + r)) ↔ (0 < N (147 + (4 * s + r)) ∧ N (1155 + (4 * s + r)) = 0 ∧ ¬ N (123 + s) < N (5 + r)) := by
      rw [hR.pl (pd_sz hM hs hr), hR.pl (pd_ct hM hs hr), hR.pl (pd_st hM hs), hR.pl (pd_lo (by omega))]
    have hc0 : ∀ (σ : mS), b_X0_beginOf_4 a (nI s) x2 (nI r) (wC a σ C) = (bdI (some (some (some (.inl (bI (0 < N (147 + (4 * s + r)) ∧ N (1155 + (4 * s + r)) = 0 ∧ ¬ N (123 + s) < N (5 + r))))), wC a σ C)) (fun v2 σ1 =>
      if v2 = 0 then (
        b_X0_beginOf_4 a (nI s) x2 (nI (r + 1)) σ1)
      else (
        if x2 = (-1) then (
          bdV (e_X0_beginExchange a (nI s) (nI r) σ1) (fun σ3 =>
          b_X0_beginOf_4 a (nI s) (nI r) (nI (r + 1)) σ3))
        else (
          let σ4 := st σ1 (15, a, s, 0) 6 ((σ1.1 (15, a, s, 0) 6) + (nI 1))
          bdV (e_X0_failFirst a (nI s) (nI r) σ4) (fun σ5 =>
          b_X0_beginOf_4 a (nI s) x2 (nI (r + 1)) σ5))))) := by
      intro σ
      rw [q_X0_beginOf_4, if_pos (nI_lt hr (by omega)), c_ready (by omega) hr, bI_c hrd, nI_clamp (n := s) (by omega), nI_clamp (n := 6) (by omega), nI_1]
      simp only [if_neg (ckn (show s < 6 by omega) (show s < 2 ^ 31 by omega)), if_neg (ckn (show 6 < 9 by omega) (show 6 < 2 ^ 31 by omega))]
    have hm0 : ∀ (σ : mS) (O W : Nat → Int32) (b : Int32), b_X10_stepBegin_125 (nI s) gI (nI r) (wM σ N O W b) = (bdI (some (some (some (.inl (bI (0 < N (147 + (4 * s + r)) ∧ N (1155 + (4 * s + r)) = 0 ∧ ¬ N (123 + s) < N (5 + r))))), wM σ N O W b)) (fun v2 σ1 =>
      if v2 = 0 then (
        b_X10_stepBegin_125 (nI s) gI (nI (r + 1)) σ1)
      else (
        if gI = 0 then (
          bdV (e_X10_begins (nI s) (nI r) σ1) (fun σ3 =>
          b_X10_stepBegin_125 (nI s) (nI 1) (nI (r + 1)) σ3))
        else (
          bdV (e_X10_fails (nI s) (nI r) σ1) (fun σ4 =>
          bdV (e_X10_had (nI s) (nI 6) (nI 1) σ4) (fun σ5 =>
          if nI 1339 < 0 ∨ 1432 ≤ (nI 1339).toNatClampNeg then none else (
          if nI 1339 < 0 ∨ 1432 ≤ (nI 1339).toNatClampNeg then none else (
          let σ6 := st σ5 (30, 0, 0, 0) ((nI 1339).toNatClampNeg) ((σ5.1 (30, 0, 0, 0) ((nI 1339).toNatClampNeg)) + (nI 1))
          b_X10_stepBegin_125 (nI s) (nI 1) (nI (r + 1)) σ6))))))))  := by
      intro σ O W b
      rw [q_X10_stepBegin_125, if_pos (nI_lt hr (by omega)), m_isReady (by omega) hr, nI_1]
    by_cases kr : 0 < N (147 + (4 * s + r)) ∧ N (1155 + (4 * s + r)) = 0 ∧ ¬ N (123 + s) < N (5 + r)
    · have hn1 : 1 ≤ n := nI_0lt' hq.2.1 (by have := hq.1; omega) kr.1
      rcases hph with ⟨g1, g2, g3⟩ | ⟨r0, g0, g1, g2, g3, g4⟩
      · obtain ⟨C1, N1, y, h, ph, p, c1, m1, R1, I1, f1, f2, E1, p1, q1⟩ := j_begin (a := a) hI hR hs hr hn1 hq
        have D1 : DB M N1 := hD.begin (ph := ph) hM hs g3 (fun k u v => f1 k (by omega) (by omega) (by omega)) (fun k u v w => f1 k w (by omega) (by omega)) E1.1.2.2.2.2.1 p1 E1.1.2.2.2.2.2.2.2 q1
        obtain ⟨C', N', c2, m2, I2, D2, R2, B2⟩ := j_ranks (a := a) hs d (r + 1) C1 N1 (nI r) (nI 1) (by omega) I1 D1 R1 (Or.inr ⟨r, by omega, rfl, rfl, E1.1.1, E1.1.2.2.1⟩)
        refine ⟨C', N', fun σ => ?_, fun σ O W b => ?_, I2, D2, R2, fun k k1 k2 k3 k4 k5 k6 k7 k8 k9 => by rw [B2 k k1 k2 k3 k4 k5 k6 k7 k8 k9, f1 k k3 k5 k9]⟩
        · rw [hc0]
          dsimp only [bdI]
          rw [if_bI kr, if_pos g1, c1]
          exact c2 σ
        · rw [hm0]
          dsimp only [bdI]
          rw [if_bI kr, if_pos (by rw [g2]; exact n00), m1]
          exact m2 σ O W b
      · obtain ⟨n', rfl⟩ : ∃ n', n = n' + 1 := ⟨n - 1, by omega⟩
        have hn8 : n' < 8 := by have := hq.1; omega
        have R0 : Rl M (upd C (1275 + 9 * s + 6) (N (1275 + 9 * s + 6) + nI 1)) (upd N (1275 + 9 * s + 6) (N (1275 + 9 * s + 6) + nI 1)) P Q := hR.u hM (Or.inr (Or.inr (Or.inr (by omega))))
        obtain ⟨⟨C1, c1, R1⟩, -, -⟩ := j_fail (a := a) (hI.1.mono fun k hk => upd_n (by omega)) R0 hs hr hn8 (by rw [upd_n (by omega)]; exact hq.2.1) (by rw [upd_n (by omega)]; exact hq.2.2.1)
        obtain ⟨-, m1, w1⟩ := j_fail (a := a) hI.1 hR hs hr hn8 hq.2.1 hq.2.2.1
        rw [nFails_u (by omega) hr hn8 (by omega) (by omega) (by omega)] at R1
        have hne : N (1179 + 16 * s + 2) ≠ nI r := fun q => by
          rw [g4] at q
          have := (nI_eq (by omega) (by omega)).mp q
          omega
        have I0 : IC M (nFails N s r n') := hI.fail hs hr hn8 hq (Or.inr hne) w1
        have ef : ∀ k, 1179 ≤ k → k ≠ 1275 + 9 * s + 2 → k ≠ 1337 → nFails N s r n' k = N k := fun k a1 a2 a3 => nFails_q (by omega) hr hn8 (by omega) (by omega) (by omega) (by omega) (by omega) a2 a3
        have e6 : nFails N s r n' (1275 + 9 * s + 6) = N (1275 + 9 * s + 6) := ef _ (by omega) (by omega) (by omega)
        have R2 : Rl M C1 (upd (upd (nFails N s r n') (1275 + 9 * s + 6) (N (1275 + 9 * s + 6) + nI 1)) 1339 (N 1339 + nI 1)) P Q := R1.uN hM (by omega)
        have I1 : IC M (upd (upd (nFails N s r n') (1275 + 9 * s + 6) (N (1275 + 9 * s + 6) + nI 1)) 1339 (N 1339 + nI 1)) := by
          obtain ⟨i1, i2, i3, i4, i5⟩ := I0
          have eo : ∀ k, k ≠ 1275 + 9 * s + 6 → k ≠ 1339 → upd (upd (nFails N s r n') (1275 + 9 * s + 6) (N (1275 + 9 * s + 6) + nI 1)) 1339 (N 1339 + nI 1) k = nFails N s r n' k := fun k a1 a2 => by rw [upd_n a2, upd_n a1]
          refine ⟨i1.mono fun k hk => eo k (by omega) (by omega), i2.mono hM fun k a1 a2 => eo k (by omega) (by omega), i3.mono hM (fun k a1 a2 => eo k (by omega) (by omega)) (fun k a1 a2 => eo k (by omega) (by omega)), fun z hz => (i4 z hz).mono hz hM (fun k a1 a2 => eo k (by omega) (by omega)) (fun k a1 a2 _ _ => eo k (by omega) (by omega)) (fun k a1 a2 => eo k (by omega) (by omega)) (fun k hk => eo _ (by omega) (by omega)), ?_⟩
          have := i5.one (v := nI 1) (t := 6) (j := 1339) hM hs (by omega)
          rw [e6, ef 1339 (by omega) (by omega) (by omega)] at this
          exact this
        have D1 : DB M (upd (upd (nFails N s r n') (1275 + 9 * s + 6) (N (1275 + 9 * s + 6) + nI 1)) 1339 (N 1339 + nI 1)) := hD.mono hM (fun k a1 a2 => by rw [upd_n (by omega), upd_n (by omega), nFails_n (by omega) hr hn8 ⟨by omega, by omega⟩]) (fun k a1 a2 => by rw [upd_n (by omega), upd_n (by omega), ef k (by omega) (by omega) (by omega)])
        obtain ⟨C', N', c2, m2, I2, D2, R3, B2⟩ := j_ranks (a := a) hs d (r + 1) C1 _ x2 (nI 1) (by omega) I1 D1 R2 (Or.inr ⟨r0, by omega, g1, rfl, by rw [upd_n (by omega), upd_n (by omega), ef _ (by omega) (by omega) (by omega)]; exact g3, by rw [upd_n (by omega), upd_n (by omega), ef _ (by omega) (by omega) (by omega)]; exact g4⟩)
        have hx2 : ¬ x2 = -1 := fun q => by
          rw [g1] at q
          exact nI_pos (n := r0) (by omega) (by rw [q]; decide)
        refine ⟨C', N', fun σ => ?_, fun σ O W b => ?_, I2, D2, R3, fun k k1 k2 k3 k4 k5 k6 k7 k8 k9 => ?_⟩
        · rw [hc0]
          dsimp only [bdI]
          rw [if_bI kr, if_neg hx2, rC_tally (by omega) (by omega), sC_tally (by omega) (by omega), hR.pl (pd_ty hM hs (by omega)), c1]
          exact c2 σ
        · rw [hm0]
          dsimp only [bdI]
          rw [if_bI kr, if_neg (by rw [g2]; exact n10), m1]
          dsimp only [bdV]
          rw [m_had (by omega) (by omega)]
          dsimp only
          rw [nI_clamp (n := 1339) (by omega), if_neg (ckn (by omega) (by omega)), if_neg (ckn (by omega) (by omega)), wM_N, wM_stN, e6, upd_n (show (1339 : Nat) ≠ 1275 + 9 * s + 6 from by omega), ef 1339 (by omega) (by omega) (by omega)]
          exact m2 σ O W b
        · rw [B2 k k1 k2 k3 k4 k5 k6 k7 k8 k9, upd_n k8, upd_n k6]
          rcases k2 with k2 | k2
          · exact nFails_n (by omega) hr hn8 ⟨k1, by omega⟩
          · exact ef k k2 k4 k7
    · have hph' : (x2 = -1 ∧ gI = nI 0 ∧ N (1179 + 16 * s) = nI 0) ∨ (∃ r0, r0 < r + 1 ∧ x2 = nI r0 ∧ gI = nI 1 ∧ N (1179 + 16 * s) = nI 1 ∧ N (1179 + 16 * s + 2) = nI r0) := by
        rcases hph with g | ⟨r0, g0, g⟩
        · exact Or.inl g
        · exact Or.inr ⟨r0, by omega, g⟩
      obtain ⟨C', N', c2, m2, I2, D2, R2, B2⟩ := j_ranks (a := a) hs d (r + 1) C N x2 gI (by omega) hI hD hR hph'
      refine ⟨C', N', fun σ => ?_, fun σ O W b => ?_, I2, D2, R2, B2⟩
      · rw [hc0]
        dsimp only [bdI]
        rw [if_nbI kr]
        exact c2 σ
      · rw [hm0]
        dsimp only [bdI]
        rw [if_nbI kr]
        exact m2 σ O W b
end B4

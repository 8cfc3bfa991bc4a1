/-! A net anew: both -/
section FB
variable {M K K' s z r i n m k a b x y t h w lo hi j u q : Nat} {σ τ σ' σ1 σ2 : mS} {C D N V F G O W P Q : Nat → Int32} {o : mO} {v p p1 p2 wr bb : Int32} {g : Nat → Nat} {S S' : Nat → Prop}
theorem vn_lt (h : k < 1432) : Vn m g N k = Nn m g N k := by
  unfold Vn
  rw [if_pos h]
theorem c_anew_from (h25 : ∀ k, k < 36 → σ.1 (25, 0, 0, 0) k = nI (g k)) (hg : ∀ k, k < 36 → g k ≤ 3) (hm : m ≤ 6) (hD : ∀ k, 2 ≤ k → k < 15 → D k = N k) : ∀ d s S, s + d = m → S 0 → ∃ S' : Nat → Prop, (∀ q, S q → S' q) ∧ (∀ x q, s ≤ x → x < m → SN x q → S' q) ∧ b_X0_startAnew_52 a (nI s) (wC a σ (mix S (Vn m g N) D)) = some (some none, wC a σ (mix S' (Vn m g N) D))
  | 0, s, S, hs, h0 => by
    refine ⟨S, fun _ q => q, fun x q h1 h2 => by omega, ?_⟩
    rw [q_X0_startAnew_52, wC_rd ix_many, mix_t h0, show Vn m g N 0 = nI m from rfl, if_neg (nI_nlt (by omega) (by omega))]
  | d + 1, s, S, hs, h0 => by
    obtain ⟨S1, a1, a2⟩ := fs_one (a := a) (m := m) (N := N) (D := D) (S := S) h25 hg (show s < 6 by omega) hD
    obtain ⟨S2, b1, b2, b3⟩ := c_anew_from h25 hg hm hD d (s + 1) S1 (by omega) (a1 0 (Or.inl h0))
    refine ⟨S2, fun q hq => b1 q (a1 q (Or.inl hq)), fun x q h1 h2 hx => ?_, ?_⟩
    · by_cases e : x = s
      · exact b1 q (a1 q (Or.inr (e ▸ hx)))
      · exact b2 x q (by omega) h2 hx
    · rw [q_X0_startAnew_52, wC_rd ix_many, mix_t h0, show Vn m g N 0 = nI m from rfl, if_pos (nI_lt (by omega) (by omega)), a2]
      dsimp only [bdV]
      rw [nI_1, b3]
theorem pd_SN (hm : m ≤ 6) (h : PD m k) : (2 ≤ k ∧ k < 15) ∨ (∃ s, s < m ∧ SN s k) ∨ k < 2 ∨ k = 1329 ∨ k = 1330 ∨ k = 1331 ∨ k = 1341 ∨ k = 1333 ∨ k = 1334 ∨ k = 1335 ∨ k = 1340 := by
  have one : ∀ s, s < m → SN s k → (2 ≤ k ∧ k < 15) ∨ (∃ s, s < m ∧ SN s k) ∨ k < 2 ∨ k = 1329 ∨ k = 1330 ∨ k = 1331 ∨ k = 1341 ∨ k = 1333 ∨ k = 1334 ∨ k = 1335 ∨ k = 1340 := fun s h1 h2 => Or.inr (Or.inl ⟨s, h1, h2⟩)
  unfold PD at h
  rcases h with h | h | h | h | h | h | h | h | h | h | h | h | h | h
  · omega
  · exact one ((k - 15) % 36 / 6) h.2.2 (by unfold SN; omega)
  · exact one ((k - 123) % 6) h.2.2 (by unfold SN; omega)
  · exact one ((k - 147) / 4) h.2.2 (by unfold SN; omega)
  · exact one ((k - 1131) % 24 / 4) h.2.2 (by unfold SN; omega)
  · exact one ((k - 1275) / 9) h.2.2 (by unfold SN; omega)
  · omega
  · omega
  · omega
  · exact one ((k - 1342) / 3) h.2.2 (by unfold SN; omega)
  · exact one ((k - 1360) / 6) h.2.2.1 (by unfold SN; omega)
  · exact one (k - 1396) h.2.2 (by unfold SN; omega)
  · exact one ((k - 1402) / 3) h.2.2 (by unfold SN; omega)
  · exact one ((k - 1420) % 6) h.2.2 (by unfold SN; omega)
theorem bs_lo {p : Nat → Prop} : ∀ d n, m + d = n → (∀ z, m ≤ z → z < n → ¬ p z) → bv p n = bv p m
  | 0, n, h, _ => by rw [show n = m from by omega]
  | d + 1, n, h, hp => by
    have e : n = m + d + 1 := by omega
    subst e
    rw [← bv_f (p := p) (n := m + d) (hp (m + d) (by omega) (by omega))]
    exact bs_lo d (m + d) rfl fun z h1 h2 => hp z h1 (by omega)
/-- the fresh rows, held together -/
theorem nn_v (h : k < 1432) (e : v = Vn m g N k) : Nn m g N k = v := (vn_lt h).symm.trans e.symm
theorem nn_rl (hm : m ≤ 6) (hg : GP m g) (hD : ∀ k, 2 ≤ k → k < 15 → D k = N k) (hS : ∀ x q, x < m → SN x q → S q) (hS2 : ∀ q, (q < 2 ∨ q = 1329 ∨ q = 1330 ∨ q = 1331 ∨ q = 1341 ∨ q = 1333 ∨ q = 1334 ∨ q = 1335 ∨ q = 1340) → S q) : Rl m (mix S (Vn m g N) D) (Nn m g N) (dO (Nn m g N)) (dW (Nn m g N)) := by
  have on : ∀ k, k < 1432 → S k → mix S (Vn m g N) D k = Nn m g N k := fun k hk hs => (mix_t hs).trans (vn_lt hk)
  refine ⟨fun k hk => ?_, fun s hs => ?_, fun s r n j hs hr hn hN hj => ?_, fun s hs => ?_, fun s hs => ?_⟩
  · have hk2 : k < 1432 := by have := pd_where hk; omega
    rcases pd_SN hm hk with h | ⟨s, hs, h⟩ | h
    · unfold mix
      split
      · exact vn_lt hk2
      · exact (hD k h.1 h.2).trans ((vn_s h.1 h.2).trans (vn_lt hk2))
    · exact on k hk2 (hS s k hs h)
    · exact on k hk2 (hS2 k h)
  · rw [mix_t (hS s (1436 + s) hs (by unfold SN; omega)), ← vn_h (m := m) (g := g) (N := N) (by omega)]
    have e1 : ∀ z, z < 6 → (0 < Nn m g N (15 + 6 * s + z) ↔ 0 < g (6 * s + z)) := fun z hz => by
      have h3 := (hg s z (by omega) hz).1
      rw [nn_v (v := nI (g (6 * s + z))) (by omega) (by rw [show 15 + 6 * s + z = 15 + (6 * s + z) from by omega]; exact vn_q (by omega)), nI_0lt (by omega)]
    rw [bs_lo (m := m) (p := fun z => 0 < g (6 * s + z)) (6 - m) 6 (by omega) (fun z h1 h2 => by rw [(hg s z (by omega) h2).2.2.2 (Or.inr h1)]; omega)]
    exact bv_c fun z hz => (e1 z (by omega)).symm
  · rw [nn_v (v := nI 0) (by omega) (vn_0 (by omega))] at hN
    have := nI_inj (by omega) (by omega) hN
    omega
  · have e0 : mix S (Vn m g N) D (1179 + 16 * s) = Nn m g N (1179 + 16 * s) := on _ (by omega) (hS s _ hs (by unfold SN; omega))
    have e1 : Nn m g N (1179 + 16 * s) = nI 0 := nn_v (by omega) (vn_0 (by omega))
    exact ⟨e0, fun h => absurd (h.symm.trans e1) (by decide)⟩
  · exact ⟨on _ (by omega) (hS s _ hs (by unfold SN; omega)), on _ (by omega) (hS s _ hs (by unfold SN; omega))⟩
theorem sumT_z {t : Nat} (ht : t < 9) : ∀ n, n ≤ 6 → sumT (Nn m g N) t n = nI 0
  | 0, _ => rfl
  | n + 1, h => by
    unfold sumT
    rw [sumT_z ht n (by omega), nn_v (v := nI 0) (by omega) (vn_0 (by omega))]
    rfl
theorem nn_iv (hV : IV M K N) (hm : m ≤ 6) (hg : GP m g) (hK : K < 2 ^ 24) : IV m K (Nn m g N) := by
  have z0 : ∀ k, ((87 ≤ k ∧ k < 135) ∨ (141 ≤ k ∧ k < 1131) ∨ (1155 ≤ k ∧ k < 1432) ∨ k = 1) → Nn m g N k = nI 0 := fun k hk => nn_v (by omega) (vn_0 hk)
  have sp : ∀ k, 2 ≤ k → k < 15 → Nn m g N k = N k := fun k h1 h2 => nn_v (by omega) (vn_s h1 h2)
  have qv : ∀ s z, s < 6 → z < 6 → Nn m g N (15 + 6 * s + z) = nI (g (6 * s + z)) := fun s z hs hz => nn_v (by omega) (by rw [show 15 + 6 * s + z = 15 + (6 * s + z) from by omega]; exact vn_q (by omega))
  refine ⟨⟨rfl, hm, fun i hi => ?_, fun s z hs hz => ?_, fun s hs => ?_, fun s z hs hz h => ?_⟩, fun s z hs hz => ⟨1, nn_v (by omega) (vn_1 (by omega)), by omega, by omega⟩, fun s r hs hr => ⟨0, by omega, z0 _ (by omega), ?_, fun i hi => by omega⟩, fun s hs => Or.inl (z0 _ (by omega)), ⟨fun y hy => Or.inl ⟨nn_v (by omega) (vn_m (by omega)), z0 _ (by omega)⟩, fun x y hx hy h1 _ => ?_, fun x1 x2 h1 h2 _ h3 => ?_, fun y x1 x2 hy h1 h2 _ _ h3 => ?_⟩, ⟨Or.inl (z0 _ (by omega)), ?_, ?_, ?_, ?_⟩, 0, by omega, hK, z0 _ (by omega), z0 _ (by omega), fun s hs => ⟨0, by omega, z0 _ (by omega)⟩⟩
  · obtain ⟨v, a, b⟩ := hV.1.2.2.1 i hi
    exact ⟨v, (sp _ (by omega) (by omega)).trans a, b⟩
  · obtain ⟨h1, h2, -, -⟩ := hg s z hs hz
    refine ⟨g (6 * s + z), h1, qv s z hs hz, ?_⟩
    rw [qv z s hz hs, h2]
  · rw [qv s s hs hs, (hg s s hs hs).2.2.1 rfl]
  · rw [qv s z hs hz, (hg s z hs hz).2.2.2 (Or.inr h)]
  · obtain ⟨v, a, b, c⟩ := hV.1.2.2.1 (7 + r) (by omega)
    have e9 : 2 + (7 + r) = 9 + r := by omega
    rw [e9] at a
    refine ⟨v, ?_, ?_⟩
    · have hm7 : ∀ r, r < 4 → mxs (7 + r) ≤ 63 := by decide
      exact Nat.le_trans c (hm7 r hr)
    · rw [nn_v (v := N (9 + r)) (by omega) (vn_w (by omega) hr), a]
  · rw [z0 _ (by omega)] at h1
    exact absurd h1 (by decide)
  · rw [z0 _ (by omega)] at h3
    exact absurd h3 (by decide)
  · rw [z0 _ (by omega)] at h3
    exact absurd h3 (by decide)
  · rw [z0 _ (by omega), sumT_z (by omega) m hm]
  · rw [z0 _ (by omega), sumT_z (by omega) m hm]
  · rw [z0 _ (by omega), sumT_z (by omega) m hm]
  · rw [z0 _ (by omega), sumT_z (by omega) m hm]
end FB

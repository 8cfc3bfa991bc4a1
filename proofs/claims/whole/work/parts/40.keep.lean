/-! What the rows keep: one rank fails, an exchange begins -/
section KP
variable {M K s r i n m k d h x y : Nat} {F G N C P Q O W C' N' : Nat → Int32} {v u t : Int32} {b : Int32} {p : Nat → Nat}
theorem IR.mono (h : IR M N) (hM : M ≤ 6) (e : ∀ k, 51 ≤ k → k < 87 → N' k = N k) : IR M N' := fun s z hs hz => by
  rw [e _ (by omega) (by omega)]; exact h s z hs hz
theorem FR.mono {f f' : Nat} (h : FR M N s f) (hs : s < 6) (hM : M ≤ 6) (e0 : N' f' = N f) (e1 : N' (f' + 1) = N (f + 1)) (eq : ∀ k, 15 ≤ k → k < 51 → N' k = N k) : FR M N' s f' := by
  obtain ⟨y, u, h1, h2, h3, h4, h5, h6, h7⟩ := h
  exact ⟨y, u, h1, h2, by rw [e0, h3], by rw [eq _ (by omega) (by omega)]; exact h4, by rw [e1, h5], h6, h7⟩
theorem IQ1.mono (h : IQ1 M N s r n) (hs : s < M) (hM : M ≤ 6) (hr : r < 4) (e1 : N' (147 + (4 * s + r)) = N (147 + (4 * s + r))) (e2 : N' (1131 + (4 * s + r)) = N (1131 + (4 * s + r))) (e3 : ∀ k, 171 + 40 * (4 * s + r) ≤ k → k < 171 + 40 * (4 * s + r) + 40 → N' k = N k) (e4 : ∀ k, 15 ≤ k → k < 51 → N' k = N k) : IQ1 M N' s r n := by
  obtain ⟨h1, h2, h3, h4⟩ := h
  refine ⟨h1, by rw [e1]; exact h2, by rw [e2]; exact h3, fun i hi => (h4 i hi).mono (by omega) hM (e3 _ (by omega) (by omega)) (e3 _ (by omega) (by omega)) e4⟩
theorem IQ.one (h : IQ M N) (hM : M ≤ 6) (hx : ∃ n, IQ1 M N' x r n) (hr : r < 4) (e1 : ∀ k, 147 ≤ k → k < 171 → k ≠ 147 + (4 * x + r) → N' k = N k) (e2 : ∀ k, 1131 ≤ k → k < 1155 → k ≠ 1131 + (4 * x + r) → N' k = N k) (e3 : ∀ k, 171 ≤ k → k < 1131 → (k < 171 + 40 * (4 * x + r) ∨ 171 + 40 * (4 * x + r) + 40 ≤ k) → N' k = N k) (e4 : ∀ k, 15 ≤ k → k < 51 → N' k = N k) : IQ M N' := fun s t hs ht => by
  by_cases e : s = x ∧ t = r
  · obtain ⟨rfl, rfl⟩ := e; exact hx
  · have hne : 4 * s + t ≠ 4 * x + r := fun q => e ⟨by omega, by omega⟩
    obtain ⟨n, hn⟩ := h s t hs ht
    exact ⟨n, hn.mono hs hM ht (e1 _ (by omega) (by omega) (by omega)) (e2 _ (by omega) (by omega) (by omega)) (fun k a c => e3 k (by omega) (by omega) (by omega)) e4⟩
theorem IQ.mono (h : IQ M N) (hM : M ≤ 6) (e1 : ∀ k, 147 ≤ k → k < 1155 → N' k = N k) (e4 : ∀ k, 15 ≤ k → k < 51 → N' k = N k) : IQ M N' := fun s t hs ht => by
  obtain ⟨n, hn⟩ := h s t hs ht
  exact ⟨n, hn.mono hs hM ht (e1 _ (by omega) (by omega)) (e1 _ (by omega) (by omega)) (fun k a c => e1 k (by omega) (by omega)) e4⟩
theorem EX.mono {ph c q w : Nat} (e : EX M N x y r h ph c q w p) (hx : x < M) (hM : M ≤ 6) (e1 : ∀ k, 15 ≤ k → k < 87 → N' k = N k) (e2 : N' (147 + (4 * x + r)) = N (147 + (4 * x + r))) (e3 : ∀ k, 171 + 40 * (4 * x + r) ≤ k → k < 171 + 40 * (4 * x + r) + 20 → N' k = N k) (e4 : ∀ k, k < 16 → N' (1179 + 16 * x + k) = N (1179 + 16 * x + k)) : EX M N' x y r h ph c q w p := by
  have e0 : N' (1179 + 16 * x) = N (1179 + 16 * x) := e4 0 (by omega)
  obtain ⟨⟨a0, a1, a2, a3, a4, a7, a8, a6⟩, ⟨b1, b2, b3, b4, b5, b6, b7, b8⟩, ⟨n, n1, n2, n3⟩, pp, h2, h3, h9⟩ := e
  refine ⟨⟨by rw [e0, a0], by rw [e4 1 (by omega), a1], by rw [e4 2 (by omega), a2], by rw [e4 3 (by omega), a3], by rw [e4 4 (by omega), a4], by rw [e4 7 (by omega), a7], by rw [e4 8 (by omega), a8], by rw [e4 6 (by omega), a6]⟩, ⟨b1, b2, by rw [e1 _ (by omega) (by omega)]; exact b3, b4, b5, b6, b7, b8⟩, ⟨n, n1, n2, by rw [e2, n3]⟩, fun k hk => ?_, fun g => ?_, fun g => ?_, by rw [e4 9 (by omega)]; exact h9⟩
  · obtain ⟨p1, p2, p3, p4⟩ := pp k hk
    exact ⟨by rw [Nat.add_assoc, e4 _ (by omega), ← Nat.add_assoc, p1], p2, p3, by rw [e3 _ (by omega) (by omega), e1 _ (by omega) (by omega)]; exact p4⟩
  · rw [e4 5 (by omega)]; exact h2 g
  · rw [e4 9 (by omega)]; exact h3 g
theorem EV.mono (e : EV M N x) (hx : x < M) (hM : M ≤ 6) (e1 : ∀ k, 15 ≤ k → k < 87 → N' k = N k) (e2 : ∀ k, 147 ≤ k → k < 171 → k / 1 = k → (k - 147) / 4 = x → N' k = N k) (e3 : ∀ k, 171 + 160 * x ≤ k → k < 171 + 160 * x + 160 → N' k = N k) (e4 : ∀ k, k < 16 → N' (1179 + 16 * x + k) = N (1179 + 16 * x + k)) : EV M N' x := by
  rcases e with e | ⟨y, r, h, ph, c, q, w, p, e⟩
  · exact Or.inl (by rw [show 1179 + 16 * x = 1179 + 16 * x + 0 from rfl, e4 0 (by omega)]; exact e)
  · have hr : r < 4 := e.2.1.2.2.2.1
    exact Or.inr ⟨y, r, h, ph, c, q, w, p, e.mono hx hM e1 (e2 _ (by omega) (by omega) (by omega) (by omega)) (fun k a c => e3 k (by omega) (by omega)) e4⟩
theorem DB.mono (hd : DB M N) (hM : M ≤ 6) (e1 : ∀ k, 135 ≤ k → k < 147 → N' k = N k) (e2 : ∀ k, 1179 ≤ k → k < 1275 → N' k = N k) : DB M N' := by
  obtain ⟨d1, d2, d3, d4⟩ := hd
  have a0 : ∀ x, x < M → N' (1179 + 16 * x) = N (1179 + 16 * x) := fun x hx => e2 _ (by omega) (by omega)
  have a1 : ∀ x k, x < M → k < 16 → N' (1179 + 16 * x + k) = N (1179 + 16 * x + k) := fun x k hx hk => e2 _ (by omega) (by omega)
  have o1 : ∀ y, y < M → N' (135 + y) = N (135 + y) := fun y hy => e1 _ (by omega) (by omega)
  have o2 : ∀ y, y < M → N' (141 + y) = N (141 + y) := fun y hy => e1 _ (by omega) (by omega)
  refine ⟨fun y hy => ?_, fun x y hx hy => ?_, fun x1 x2 h1 h2 => ?_, fun y x1 x2 hy h1 h2 => ?_⟩
  · rw [o1 y hy, o2 y hy]
    rcases d1 y hy with g | ⟨x, g1, g2, g3, g4, g5, g6⟩
    · exact Or.inl g
    · exact Or.inr ⟨x, g1, g2, by rw [a0 x g1, g3], by rw [a1 x 1 g1 (by omega), g4], by rw [a1 x 15 g1 (by omega), g5], by rw [a1 x 4 g1 (by omega)]; exact g6⟩
  · rw [a0 x hx, a1 x 1 hx (by omega), a1 x 15 hx (by omega), a1 x 4 hx (by omega), o1 y hy, o2 y hy]
    exact d2 x y hx hy
  · rw [a0 x1 h1, a0 x2 h2, a1 x1 4 h1 (by omega), a1 x2 4 h2 (by omega), a1 x1 1 h1 (by omega), a1 x2 1 h2 (by omega), a1 x1 6 h1 (by omega), a1 x2 6 h2 (by omega)]
    exact d3 x1 x2 h1 h2
  · rw [o1 y hy, a0 x2 h2, a1 x2 4 h2 (by omega), a1 x2 1 h2 (by omega), a1 x2 6 h2 (by omega)]
    exact d4 y x1 x2 hy h1 h2
theorem sumT_c {t : Nat} (ht : t < 9) : ∀ {m : Nat}, (∀ s, s < m → N' (1275 + 9 * s + t) = N (1275 + 9 * s + t)) → sumT N' t m = sumT N t m
  | 0, _ => rfl
  | m + 1, e => by
    unfold sumT
    rw [sumT_c ht (fun s hs => e s (by omega)), e m (by omega)]
theorem sumT_u {t : Nat} (ht : t < 9) : ∀ {m : Nat}, s < m → N' (1275 + 9 * s + t) = N (1275 + 9 * s + t) + v → (∀ z, z < m → z ≠ s → N' (1275 + 9 * z + t) = N (1275 + 9 * z + t)) → sumT N' t m = sumT N t m + v
  | 0, h, _, _ => by omega
  | m + 1, h, e, e2 => by
    unfold sumT
    by_cases q : s = m
    · subst q
      rw [sumT_c ht (fun z hz => e2 z (by omega) (by omega)), e]
      apply Int32.toBitVec_inj.mp
      simp only [Int32.toBitVec_add]
      rw [BitVec.add_assoc]
    · rw [sumT_u ht (by omega) e (fun z hz => e2 z (by omega)), e2 m (by omega) (fun g => q g.symm), i32_ac]
theorem nFails_q {j : Nat} (hs : s < 6) (hr : r < 4) (hn : n < 8) (h1 : j ≠ 14) (h2 : j ≠ 147 + (4 * s + r)) (h3 : j < 171 + 40 * (4 * s + r) ∨ 171 + 40 * (4 * s + r) + 40 ≤ j) (h4 : j ≠ 1131 + (4 * s + r)) (h5 : j ≠ 1155 + (4 * s + r)) (h6 : j ≠ 1275 + 9 * s + 2) (h7 : j ≠ 1337) : nFails N s r n j = N j := by
  unfold nFails nDraws nDraw nLost
  split
  · rw [upd_n h5, upd_n h1, upd_n h4, nty_at, if_neg (by omega)]
  · rw [upd_n h5, upd_n h1, upd_n h4, upd_n h7, upd_n h6, nlv_at, if_neg (by omega), if_neg h2, nty_at, if_neg (by omega)]
theorem nFails_fr {f : Nat} (hs : s < 6) (hr : r < 4) (hn : n < 8) (hi : i < 8) (hf : f < 2) : ∃ j, j ≤ i + 1 ∧ nFails N s r n (171 + 5 * (8 * (4 * s + r) + i) + f) = N (171 + 5 * (8 * (4 * s + r) + j) + f) := by
  unfold nFails nDraws nDraw nLost
  split
  · exact ⟨i, by omega, by rw [upd_n (by omega), upd_n (by omega), upd_n (by omega), nty_at, if_neg (by omega)]⟩
  · rw [upd_n (by omega), upd_n (by omega), upd_n (by omega), upd_n (by omega), upd_n (by omega), nlv_at]
    by_cases e : i < n
    · refine ⟨i + 1, by omega, ?_⟩
      have e2 : 171 + 5 * (8 * (4 * s + r) + i) + f + 5 = 171 + 5 * (8 * (4 * s + r) + (i + 1)) + f := by omega
      rw [if_pos (by omega), if_neg (by omega), nty_at, if_neg (by omega), e2]
    · refine ⟨i, by omega, ?_⟩
      rw [if_neg (by omega), if_neg (by omega), nty_at, if_neg (by omega)]
end KP

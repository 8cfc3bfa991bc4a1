/-! The core is kept by the senders' steps -/
section K2
variable {M K s r i n m k d h x y T c ph q w : Nat} {F G N C P Q O W C' N' P' Q' O' W' : Nat → Int32} {v u t : Int32} {b : Int32} {p : Nat → Nat} {ans : Prop}
theorem n10' : ¬ nI 1 = nI 0 := by decide
theorem EX.phs {ph' : Nat} (e : EX M N x y r h ph c q w p) (hx : x < M) (hM : M ≤ 6) (hp : ph' < 4) (h2 : ph ≤ 2) (h3 : ph' < 2 → ph < 2) (e1 : ∀ k, 15 ≤ k → k < 87 → N' k = N k) (e2 : N' (147 + (4 * x + r)) = N (147 + (4 * x + r))) (e3 : ∀ k, 171 + 40 * (4 * x + r) ≤ k → k < 171 + 40 * (4 * x + r) + 20 → N' k = N k) (e4 : ∀ k, k < 16 → k ≠ 4 → k ≠ 15 → N' (1179 + 16 * x + k) = N (1179 + 16 * x + k)) (e5 : N' (1179 + 16 * x + 4) = nI ph') : EX M N' x y r h ph' c q w p := by
  have e0 : N' (1179 + 16 * x) = N (1179 + 16 * x) := e4 0 (by omega) (by omega) (by omega)
  have h4 : h ≤ 4 := e.2.1.2.2.2.2.2.1
  have e' := e
  obtain ⟨⟨a0, a1, a2, a3, a4, a7, a8, a6⟩, ⟨b1, b2, b3, b4, b5, b6, b7, b8⟩, -, pp, g2, g3, h9⟩ := e
  have hc := g2 h2
  have hr : r < 4 := b4
  refine e'.chg (e1 _ (by omega) (by omega)) e2 (fun k hk => e3 _ (by omega) (by omega)) (e1 _ (by omega) (by omega)) (by rw [e0, a0]) (e4 1 (by omega) (by omega) (by omega)) (e4 2 (by omega) (by omega) (by omega)) (e4 3 (by omega) (by omega) (by omega)) (fun k hk => by rw [Nat.add_assoc, e4 (11 + k) (by omega) (by omega) (by omega)]) e5 (by rw [e4 7 (by omega) (by omega) (by omega), a7]) (by rw [e4 8 (by omega) (by omega) (by omega), a8]) (by rw [e4 6 (by omega) (by omega) (by omega), a6]) (by rw [e4 9 (by omega) (by omega) (by omega)]; exact h9) hp b8 (fun _ => ⟨hc.1, hc.2.1, hc.2.2.1, hc.2.2.2.1, by rw [e4 5 (by omega) (by omega) (by omega)]; exact hc.2.2.2.2⟩) (fun g => by rw [e4 9 (by omega) (by omega) (by omega)]; exact g3 (h3 g))
theorem EX.mono2 (e : EX M N x y r h ph c q w p) (f1 : N' (15 + 6 * x + y) = N (15 + 6 * x + y)) (f2 : N' (147 + (4 * x + r)) = N (147 + (4 * x + r))) (f3 : ∀ k, k < h → N' (171 + 5 * (8 * (4 * x + r) + k) + 1) = N (171 + 5 * (8 * (4 * x + r) + k) + 1)) (f4 : N' (51 + 6 * x + y) = N (51 + 6 * x + y)) (e4 : ∀ k, k < 16 → N' (1179 + 16 * x + k) = N (1179 + 16 * x + k)) : EX M N' x y r h ph c q w p := by
  have e0 : N' (1179 + 16 * x) = N (1179 + 16 * x) := e4 0 (by omega)
  have h4 : h ≤ 4 := e.2.1.2.2.2.2.2.1
  have e' := e
  obtain ⟨⟨a0, a1, a2, a3, a4, a7, a8, a6⟩, ⟨b1, b2, b3, b4, b5, b6, b7, b8⟩, -, pp, g2, g3, h9⟩ := e
  exact e'.chg f1 f2 f3 f4 (by rw [e0, a0]) (e4 1 (by omega)) (e4 2 (by omega)) (e4 3 (by omega)) (fun k hk => by rw [Nat.add_assoc, e4 (11 + k) (by omega)]) (by rw [e4 4 (by omega), a4]) (by rw [e4 7 (by omega), a7]) (by rw [e4 8 (by omega), a8]) (by rw [e4 6 (by omega), a6]) (by rw [e4 9 (by omega)]; exact h9) b7 b8 (fun g => by rw [e4 5 (by omega)]; exact g2 g) (fun g => by rw [e4 9 (by omega)]; exact g3 g)
/-- only spans, one exchange's own numbers, places that went by and were spoilt change -/
theorem IC.ex (hI : IC M N) (hx : x < M) (hE : EV M N' x) (e : ∀ k, ¬ spc k → (k < 1179 + 16 * x ∨ 1179 + 16 * x + 16 ≤ k) → (k < 1360 ∨ 1402 ≤ k) → N' k = N k) : IC M N' := by
  obtain ⟨i1, i2, i3, i4, i5⟩ := hI
  have hM := i1.2.1
  have e2 : ∀ k, (k < 129 ∨ 135 ≤ k) → (k < 1179 + 16 * x ∨ 1179 + 16 * x + 16 ≤ k) → k < 1360 → N' k = N k := fun k a c d => e k (by unfold spc; omega) c (Or.inl d)
  refine ⟨i1.mono fun k hk => e2 k (by omega) (by omega) (by omega), i2.mono hM fun k _ _ => e2 k (by omega) (by omega) (by omega), i3.mono hM (fun k _ _ => e2 k (by omega) (by omega) (by omega)) (fun k _ _ => e2 k (by omega) (by omega) (by omega)), fun z hz => ?_, i5.mono hM (e2 _ (by omega) (by omega) (by omega)) (fun k _ _ => e2 k (by omega) (by omega) (by omega)) (fun z t hz ht => e2 _ (by omega) (by omega) (by omega))⟩
  by_cases q : z = x
  · rw [q]; exact hE
  · exact (i4 z hz).mono hz hM (fun k _ _ => e2 k (by omega) (by omega) (by omega)) (fun k _ _ _ _ => e2 k (by omega) (by omega) (by omega)) (fun k _ _ => e2 k (by omega) (by omega) (by omega)) (fun k hk => e2 _ (by omega) (by omega) (by omega))
theorem fb0_ic (hI : IC M N) (hx : x < M) : IC M (nFb0 N x y ans) := by
  obtain ⟨i1, i2, i3, i4, i5⟩ := hI
  have hM := i1.2.1
  have e2 : ∀ k, (k < 1179 ∨ (1179 + 16 * x < k ∧ k < 1275) ∨ (1179 ≤ k ∧ k < 1179 + 16 * x)) → nFb0 N x y ans k = N k := fun k hk => nFb0_n (by omega) hk
  refine ⟨i1.mono fun k hk => e2 k (by omega), i2.mono hM fun k _ _ => e2 k (by omega), i3.mono hM (fun k _ _ => e2 k (by omega)) (fun k _ _ => e2 k (by omega)), fun z hz => ?_, ?_⟩
  · by_cases q : z = x
    · refine Or.inl ?_
      rw [q]
      unfold nFb0
      rw [upd_n (by omega), upd_n (by omega), upd_n (by omega), upd_n (by omega), upd_n (by omega), upd_e rfl]
    · exact (i4 z hz).mono hz hM (fun k _ _ => e2 k (by omega)) (fun k _ _ _ _ => e2 k (by omega)) (fun k _ _ => e2 k (by omega)) (fun k hk => e2 _ (by omega))
  · have h1 := i5.one (v := nI 1) (t := 4) (j := 1338) hM hx (by omega)
    refine h1.mono hM ?_ (fun k a c => ?_) (fun z t hz ht => ?_)
    · unfold nFb0
      rw [upd_n (by omega), upd_n (by omega), upd_n (by omega), upd_n (by omega), upd_n (by omega), upd_n (by omega), upd_n (by omega), upd_n (by omega)]
    · unfold nFb0
      by_cases g : k = 1338
      · rw [upd_e g, upd_e g]
      · rw [upd_n g, upd_n g, upd_n (by omega), upd_n (by omega), upd_n (by omega), upd_n (by omega), upd_n (by omega), upd_n (by omega)]
    · unfold nFb0
      by_cases g : 1275 + 9 * z + t = 1275 + 9 * x + 4
      · rw [g]
        simp (disch := omega) only [upd_e, upd_n]
      · simp (disch := omega) only [upd_n]
theorem failex_ic (hI : IC M N) (hx : x < M) (hr : r < 4) (hn : n < 8) (hq : IQ1 M N x r (n + 1)) : IC M (nFails (nFb0 N x y ans) x r n) := by
  have hM := hI.1.2.1
  have h1 := fb0_ic (y := y) (ans := ans) hI hx
  have e2 : ∀ k, k < 1179 → nFb0 N x y ans k = N k := fun k hk => nFb0_n (by omega) (Or.inl hk)
  have hq1 : IQ1 M (nFb0 N x y ans) x r (n + 1) := hq.mono hx hM hr (e2 _ (by omega)) (e2 _ (by omega)) (fun k _ _ => e2 k (by omega)) (fun k _ _ => e2 k (by omega))
  have h0 : nFb0 N x y ans (1179 + 16 * x) = nI 0 := by
    unfold nFb0
    rw [upd_n (by omega), upd_n (by omega), upd_n (by omega), upd_n (by omega), upd_n (by omega), upd_e rfl]
  refine h1.fail hx hr hn hq1 (Or.inl h0) ?_
  obtain ⟨w, w1, w2⟩ := hq1.2.2.1
  obtain ⟨G, hG1, hG2, hG3⟩ := set_v h1.1 (i := 11) (by omega)
  obtain ⟨L, hL1, hL2, hL3⟩ := set_v h1.1 (i := 7 + r) (by omega)
  rw [show 2 + 11 = 13 from rfl] at hG1
  rw [show 2 + (7 + r) = 9 + r from by omega] at hL1
  unfold nFails
  split
  · refine ⟨if G < 2 * w + 1 then G else 2 * w + 1, by split <;> omega, ?_⟩
    unfold nDraws nDraw
    rw [upd_n (by omega), upd_n (by omega), upd_e rfl, w2, hG1, pk_mul, nI_add, mn_nI (by omega) (by omega)]
  · refine ⟨L, by omega, ?_⟩
    unfold nDraws nDraw
    rw [upd_n (by omega), upd_n (by omega), upd_e rfl, hL1]
theorem failsBy_ic (hI : IC M N) (hx : x < M) (hy : y < M) (hr : r < 4) (hn : n < 8) (hq : IQ1 M N x r (n + 1)) : IC M (nFailsBy N x r y n True) := by
  have hM := hI.1.2.1
  have h1 := failex_ic (y := y) (ans := True) hI hx hr hn hq
  unfold nFailsBy
  rw [if_pos trivial, show 51 + (6 * x + y) = 51 + 6 * x + y from by omega, show 87 + (6 * x + y) = 87 + 6 * x + y from by omega]
  have hrt : nFails (nFb0 N x y True) x r n (51 + 6 * x + y) = N (51 + 6 * x + y) := by rw [nFails_n (by omega) hr hn ⟨by omega, by omega⟩, nFb0_n (by omega) (Or.inl (by omega))]
  have hoff : nFails (nFb0 N x y True) x r n (1179 + 16 * x) = nI 0 := by
    rw [nFails_q (by omega) hr hn (by omega) (by omega) (by omega) (by omega) (by omega) (by omega) (by omega)]
    unfold nFb0
    rw [upd_n (by omega), upd_n (by omega), upd_n (by omega), upd_n (by omega), upd_n (by omega), upd_e rfl]
  generalize nFails (nFb0 N x y True) x r n = L at h1 hrt hoff ⊢
  obtain ⟨i1, i2, i3, i4, i5⟩ := h1
  have eo : ∀ k, k ≠ 51 + 6 * x + y → k ≠ 87 + 6 * x + y → upd (upd L (51 + 6 * x + y) (mx (nI 1) (N (51 + 6 * x + y) - nI 1))) (87 + 6 * x + y) (nI 0) k = L k := fun k a c => by rw [upd_n c, upd_n a]
  obtain ⟨ρ, r1, r2, r3⟩ := i2 x y hx hy
  rw [hrt] at r1
  refine ⟨i1.mono fun k hk => eo k (by omega) (by omega), fun s z hs hz => ?_, i3.mono hM (fun k _ _ => eo k (by omega) (by omega)) (fun k _ _ => eo k (by omega) (by omega)), fun z hz => ?_, i5.mono hM (eo _ (by omega) (by omega)) (fun k _ _ => eo k (by omega) (by omega)) (fun z t hz ht => eo _ (by omega) (by omega))⟩
  · by_cases g : 51 + 6 * s + z = 51 + 6 * x + y
    · rw [g, upd_n (by omega), upd_e rfl, r1, pk_sub r2]
      unfold mx
      by_cases g2 : 1 < ρ - 1
      · exact ⟨ρ - 1, by rw [if_pos (nI_lt g2 (by omega))], by omega, by omega⟩
      · exact ⟨1, by rw [if_neg (nI_nlt (by omega) (by omega))], by omega, by omega⟩
    · rw [eo _ g (by omega)]
      exact i2 s z hs hz
  · rcases i4 z hz with e | ⟨y', t, h, ph, c, q, w, p, e⟩
    · exact Or.inl (by rw [eo _ (by omega) (by omega)]; exact e)
    · by_cases g : z = x
      · subst g
        rw [e.1.1] at hoff
        exact absurd hoff n10'
      · have hy' : y' < M := e.2.1.1
        have ht : t < 4 := e.2.1.2.2.2.1
        have h4 : h ≤ 4 := e.2.1.2.2.2.2.2.1
        exact Or.inr ⟨y', t, h, ph, c, q, w, p, e.mono2 (eo _ (by omega) (by omega)) (eo _ (by omega) (by omega)) (fun k hk => eo _ (by omega) (by omega)) (eo _ (by omega) (by omega)) (fun k hk => eo _ (by omega) (by omega))⟩
end K2

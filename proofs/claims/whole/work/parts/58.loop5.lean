/-! Amid a slot: who asks, who waits for a grant -/
section MH
variable {M K T s r i j n m k d h x y z x1 x2 c q w : Nat} {F G N0 N C P Q O W C' N' P' Q' O' W' : Nat → Int32} {v u t : Int32} {b : Int32} {w1 : Prop} {wb : Nat → Prop} {p : Nat → Nat} {ans : Prop}
theorem clr_idle (hM : M ≤ 6) (hb : b = bv (pS N0) M) (hy : y < M) (hc : ¬ sn b y) : N0 (135 + y) = -1 := by
  apply Classical.byContradiction
  intro e
  apply hc
  rw [hb]
  exact (bv_sn hM (by omega)).mpr ⟨hy, Or.inr e⟩
theorem snd_ask {a : Nat} (hI0 : IC M N0) (hD : DB M N0) (hb : b = bv (pS N0) M) (hB : N0 1329 = b) (hm : Md M T b N0 N O W j) (hj : j < M) (hR : Rl M C N (dP N0 O j) (dQ N0 O W j)) (hE : EX M N j y r h 0 c q w p) : SndTo M T a b N0 N C O W j := by
  have hm' := hm
  obtain ⟨m1, m2, m3, m4, m5, m6⟩ := hm'
  have hM := m1.1.2.1
  have hN0 := m1.1.1
  have h00 : C 0 = nI M := by rw [hR.pl (pd_lo (by omega))]; exact hN0
  have hE' := hE
  obtain ⟨⟨a0, a1, a2, a3, a4, a7, a8, a6⟩, ⟨hy, b2, b3, hr, -⟩, -⟩ := hE'
  obtain ⟨e1, e2, e3, e4, e5, -⟩ := (hR.ex hj).2 a0
  have m30 : N (1179 + 16 * j) = N0 (1179 + 16 * j) := m3 j (Nat.le_refl _) hj 0 (by omega)
  have m31 := m3 j (Nat.le_refl _) hj 1 (by omega)
  have m34 := m3 j (Nat.le_refl _) hj 4 (by omega)
  have m3f := m3 j (Nat.le_refl _) hj 15 (by omega)
  have o0 : N0 (1179 + 16 * j) = nI 1 := m30.symm.trans a0
  have y0 : N0 (1179 + 16 * j + 1) = nI y := m31.symm.trans a1
  have p0 : N0 (1179 + 16 * j + 4) = nI 0 := m34.symm.trans a4
  have hr0 : N (1179 + 16 * j + 15) = nI 0 := m3f.trans ((hD.2.1 j y hj hy o0 y0).2.1 (Or.inl p0))
  have hNb : N 1329 = b := (m2 _ (by unfold keepK; omega)).trans hB
  have k135 : N (135 + y) = N0 (135 + y) := m2 _ (by unfold keepK; omega)
  obtain ⟨C', N', O', W', P', Q', c1, c2, c3, ⟨t1, t2, t3⟩⟩ := j_ask (a := a) (O := O) (W := W) m1.1 hR hb hNb hj hy a0 a1 a4 hr0 (fun hc => by
    have hf := clr_idle hM hb hy hc.2.2.2.1
    rw [dQ_free hD hM hj hy (m5 y hy) hf, k135])
  have same : ∀ k, k < 16 → k ≠ 4 → k ≠ 15 → N' (1179 + 16 * j + k) = N (1179 + 16 * j + k) := fun k hk g1 g2 => t1 _ (by unfold spc; omega) (by omega) (by omega)
  have on' : N' (1179 + 16 * j) = nI 1 := (same 0 (by omega) (by omega) (by omega)).trans a0
  have y' : N' (1179 + 16 * j + 1) = nI y := (same 1 (by omega) (by omega) (by omega)).trans a1
  have ic : IC M N' := by
    refine m1.ex hj (Or.inr ⟨y, r, h, 1, c, q, w, p, hE.phs hj hM (by omega) (by omega) (fun _ => by omega) (fun k _ _ => t1 _ (by unfold spc; omega) (by omega) (by omega)) (t1 _ (by unfold spc; omega) (by omega) (by omega)) (fun k _ _ => t1 _ (by unfold spc; omega) (by omega) (by omega)) same t2⟩) (fun k g1 g2 _ => t1 k g1 (by omega) (by omega))
  have hno : ∀ z, z < M → N0 (135 + z) ≠ nI j := fun z hz => db_ph hD hM hz hj (Or.inr (Or.inl p0))
  have hclr : clr N b M y j ↔ clr N0 b M y j := clr_N hM (by omega) (by omega) (fun k _ _ => m2 k (by unfold keepK; omega))
  have hc' : ∀ σ, b_X0_passSlot_84 a (nI j) (wC a σ C) = b_X0_passSlot_84 a (nI (j + 1)) (wC a σ C') := fun σ => by
    rw [c_snd hM hj h00 (by rw [hR.on hj]; exact a0) (by rw [e1]; exact a1) hy, if_pos (e4.trans a4), c1 σ]
    rfl
  have hm2 : ∀ σ, b_X10_slot_14 (nI j) (wM σ N O W b) = b_X10_slot_14 (nI (j + 1)) (wM σ N' O' W' b) := fun σ => by
    rw [m_snd hM hj hN0 a0, c2 σ]
    rfl
  have k1 : ∀ k, keepK k → N' k = N k := fun k hk => by
    unfold keepK at hk
    exact t1 k (by unfold spc; omega) (by omega) (by omega)
  have k2 : ∀ s, s < M → s ≠ j → ∀ k, k < 16 → N' (1179 + 16 * s + k) = N (1179 + 16 * s + k) := fun s hs g k hk => t1 _ (by unfold spc; omega) (by omega) (by omega)
  have k3 : ∀ s, s < M → N' (1275 + 9 * s + 1) = N (1275 + 9 * s + 1) := fun s hs => t1 _ (by unfold spc; omega) (by omega) (by omega)
  rcases t3 with ⟨g1, g2, g3, g4, g5, rfl, rfl, rfl, rfl⟩ | ⟨g1, rfl, rfl, rfl, rfl⟩
  · refine ⟨C', N', upd O y (nI j), upd W y (nI 1), hc', hm2, hm.next hj ic k1 k2 ?_ ?_ (fun s hs _ => k3 s hs) (fun u hu => ⟨u, by omega, (k3 j hj).trans hu⟩), c3.pq fun z hz => dP_upd hD hM hj hz (hno z hz)⟩
    · exact Or.inr ⟨o0, on', y, hy, y0, y', Or.inl ⟨p0, t2, Or.inl ⟨g5, upd_e rfl, upd_e rfl, hclr.mp g1⟩⟩⟩
    · exact Or.inr ⟨y, nI 1, hy, g4, k135.symm.trans g3, rfl, rfl, on', y', g5, Or.inl ⟨rfl, t2⟩⟩
  · refine ⟨C', N', O', W', hc', hm2, hm.next hj ic k1 k2 ?_ (Or.inl ⟨rfl, rfl⟩) (fun s hs _ => k3 s hs) (fun u hu => ⟨u, by omega, (k3 j hj).trans hu⟩), c3.pq fun z hz => dP_next hD hM hj hz (hno z hz)⟩
    exact Or.inr ⟨o0, on', y, hy, y0, y', Or.inl ⟨p0, t2, Or.inr g1⟩⟩
theorem nFb0_q (hx : x < 6) (h0 : k ≠ 1179 + 16 * x) (h1 : k < 1342 + 3 * x ∨ 1342 + 3 * x + 3 ≤ k) (h2 : k ≠ 1275 + 9 * x + 4) (h3 : k ≠ 1338) : nFb0 N x y ans k = N k := by
  unfold nFb0
  rw [upd_n h3, upd_n h2, upd_n (by omega), upd_n (by omega), upd_n (by omega), upd_n h0]
/-- what a failure leaves alone -/
theorem failex_n (hx : x < 6) (hr : r < 4) (hn : n < 8) (h1 : k < 147 ∨ 1179 ≤ k) (h2 : k ≠ 14) (h3 : k ≠ 1179 + 16 * x) (h4 : k < 1342 + 3 * x ∨ 1342 + 3 * x + 3 ≤ k) (h5 : k ≠ 1275 + 9 * x + 4) (h6 : k ≠ 1338) (h7 : k ≠ 1275 + 9 * x + 2) (h8 : k ≠ 1337) : nFails (nFb0 N x y ans) x r n k = N k := by
  rw [nFails_n hx hr hn ⟨h2, by omega⟩, nFb0_q hx h3 h4 h5 h6]
theorem failex_off (hx : x < 6) (hr : r < 4) (hn : n < 8) : nFails (nFb0 N x y ans) x r n (1179 + 16 * x) = nI 0 := by
  rw [nFails_n hx hr hn ⟨by omega, by omega⟩]
  unfold nFb0
  rw [upd_n (by omega), upd_n (by omega), upd_n (by omega), upd_n (by omega), upd_n (by omega), upd_e rfl]
theorem pay_facts (hD : DB M N0) (hM : M ≤ 6) (hj : j < M) (hy : y < M) (o0 : N0 (1179 + 16 * j) = nI 1) (y0 : N0 (1179 + 16 * j + 1) = nI y) {q : Nat} (hq : (q = 1 ∧ N0 (1179 + 16 * j + 4) = nI 1) ∨ (q = 2 ∧ N0 (1179 + 16 * j + 4) = nI 3)) :
    ((N0 (135 + y) = nI j ∧ N0 (141 + y) = nI q) → N0 (1179 + 16 * j + 15) = nI 0) ∧ (¬ (N0 (135 + y) = nI j ∧ N0 (141 + y) = nI q) → 0 < N0 (1179 + 16 * j + 15)) ∧ (¬ (N0 (135 + y) = nI j ∧ N0 (141 + y) = nI q) → ∀ z, z < M → N0 (135 + z) ≠ nI j) := by
  obtain ⟨f1, f2, f3, f4⟩ := hD.2.1 j y hj hy o0 y0
  have one : N0 (135 + y) = nI j → N0 (141 + y) = nI q ∧ N0 (1179 + 16 * j + 15) = nI 0 := fun e => by
    rcases hD.1 y hy with ⟨g1, g2⟩ | ⟨x, hx, g1, g2, g3, g4, g5⟩
    · rw [g1] at e; exact absurd e.symm (nm1 (by omega))
    · have g : x = j := nI_inj (by omega) (by omega) (g1.symm.trans e)
      subst g
      refine ⟨?_, g4⟩
      rcases hq with ⟨rfl, q1⟩ | ⟨rfl, q1⟩
      · rcases g5 with ⟨g5, -⟩ | ⟨-, g5⟩
        · exact g5
        · rw [q1] at g5; exact absurd g5 (by decide)
      · rcases g5 with ⟨-, g5⟩ | ⟨g5, -⟩
        · rw [q1] at g5; exact absurd g5 (by decide)
        · exact g5
  refine ⟨fun e => (one e.1).2, fun e => ?_, fun e z hz he => ?_⟩
  · rcases f1 with f1 | f1
    · exfalso
      rcases hq with ⟨rfl, q1⟩ | ⟨rfl, q1⟩
      · exact e (f3 q1 f1)
      · exact e (f4 q1 f1)
    · exact f1
  · by_cases g : z = y
    · subst g
      exact e ⟨he, (one he).1⟩
    · exact db_to hD hM hz hy hj y0 g he
end MH

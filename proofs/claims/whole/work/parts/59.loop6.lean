/-! Amid a slot: who waits for a grant, who sends data -/
section MI
variable {M K T s r i j n m k d h x y z x1 x2 c q w : Nat} {F G N0 N C P Q O W C' N' P' Q' O' W' : Nat → Int32} {v u t : Int32} {b : Int32} {w1 : Prop} {wb : Nat → Prop} {p : Nat → Nat} {ans : Prop}
theorem snd_grant {a : Nat} (hI0 : IC M N0) (hD : DB M N0) (hb : b = bv (pS N0) M) (hB : N0 1329 = b) (hm : Md M T b N0 N O W j) (hj : j < M) (hR : Rl M C N (dP N0 O j) (dQ N0 O W j)) (hE : EX M N j y r h 1 c q w p) : SndTo M T a b N0 N C O W j := by
  have hm' := hm
  obtain ⟨m1, m2, m3, m4, m5, m6⟩ := hm'
  have hM := m1.1.2.1
  have hN0 := m1.1.1
  have h00 : C 0 = nI M := by rw [hR.pl (pd_lo (by omega))]; exact hN0
  have hE' := hE
  obtain ⟨⟨a0, a1, a2, a3, a4, a7, a8, a6⟩, ⟨hy, b2, b3, hr, h1, h4, -, -⟩, ⟨n', n1, n2, n3⟩, pp, l1, l2, -⟩ := hE'
  obtain ⟨e1, e2, e3, e4, e5, -⟩ := (hR.ex hj).2 a0
  have m30 : N (1179 + 16 * j) = N0 (1179 + 16 * j) := m3 j (Nat.le_refl _) hj 0 (by omega)
  have m31 := m3 j (Nat.le_refl _) hj 1 (by omega)
  have m34 := m3 j (Nat.le_refl _) hj 4 (by omega)
  have m3f := m3 j (Nat.le_refl _) hj 15 (by omega)
  have o0 : N0 (1179 + 16 * j) = nI 1 := m30.symm.trans a0
  have y0 : N0 (1179 + 16 * j + 1) = nI y := m31.symm.trans a1
  have p0 : N0 (1179 + 16 * j + 4) = nI 1 := m34.symm.trans a4
  have hNb : N 1329 = b := (m2 _ (by unfold keepK; omega)).trans hB
  have k135 : N (135 + y) = N0 (135 + y) := m2 _ (by unfold keepK; omega)
  have k141 : N (141 + y) = N0 (141 + y) := m2 _ (by unfold keepK; omega)
  obtain ⟨g1, g2, g3⟩ := pay_facts hD hM hj hy o0 y0 (q := 1) (Or.inl ⟨rfl, p0⟩)
  obtain ⟨n, rfl⟩ : ∃ n, n' = n + 1 := ⟨n' - 1, by omega⟩
  obtain ⟨nq, hq⟩ := m1.2.2.1 j r hj hr
  have hnq : nq = n + 1 := nI_inj (by have := hq.1; omega) (by omega) (hq.2.1.symm.trans n3)
  subst hnq
  obtain ⟨l3, l4, l5⟩ := l2 (by omega)
  obtain ⟨-, -, -, w0, l6⟩ := l1 (by omega)
  subst l3
  have hlf : N (1179 + 16 * j + 5) = ps N j h := by
    rw [l6, l4, ps_sm h (fun k hk => (pp k hk).1)]
    obtain ⟨h', rfl⟩ : ∃ h', h = h' + 1 := ⟨h - 1, by omega⟩
    rfl
  have hpay := dP_is (N := N) (W := W) hD hM hj hy (m5 y hy) (q := 1) (Or.inl rfl)
  obtain ⟨C', N', P', Q', c1, c2, c3, t3, t4⟩ := j_grant (a := a) (O := O) (W := W) m1.1 hR hb hNb hj hy a0 a1 a2 hr a4 (by omega) n3 hq.2.2.1 a3 h4 hlf (by rw [k135, k141]; exact hpay) (fun e => by rw [m3f]; rw [k135, k141] at e; exact g1 e) (fun e => by rw [m3f]; rw [k135, k141] at e; exact g2 e)
  have hc' : ∀ σ, b_X0_passSlot_84 a (nI j) (wC a σ C) = b_X0_passSlot_84 a (nI (j + 1)) (wC a σ C') := fun σ => by
    rw [c_snd hM hj h00 (by rw [hR.on hj]; exact a0) (by rw [e1]; exact a1) hy, e4.trans a4, if_neg (by decide), if_pos rfl, c1 σ]
    rfl
  have hm2 : ∀ σ, b_X10_slot_14 (nI j) (wM σ N O W b) = b_X10_slot_14 (nI (j + 1)) (wM σ N' O W b) := fun σ => by
    rw [m_snd hM hj hN0 a0, c2 σ]
    rfl
  have hclr : clr N b M j y ↔ clr N0 b M j y := clr_N hM (by omega) (by omega) (fun k _ _ => m2 k (by unfold keepK; omega))
  have hpq : ∀ z, z < M → dP N0 O (j + 1) z = P' z ∧ dQ N0 O W (j + 1) z = Q' z := fun z hz => by
    rcases t3 with ⟨q1, q2, rfl, rfl⟩ | ⟨q1, rfl, rfl⟩
    · have ho := (hpay.mp ⟨q1, q2⟩).1
      have hO : O y = -1 := by
        rcases m5 y hy with ⟨f, -⟩ | ⟨x, hx, -, f, -⟩
        · exact f
        · rw [ho] at f; exact absurd f (nm1 (by omega))
      exact dP_pay hD hM hj hz ho hO (fun g => db_to hD hM hz hy hj y0 g)
    · exact dP_next hD hM hj hz (g3 (fun e => q1 (hpay.mpr e)) z hz)
  rcases t4 with ⟨f1, f2, f3, eN⟩ | eN
  · have t1 : ∀ k, ¬ spc k → k ≠ 1179 + 16 * j + 4 → N' k = N k := fun k q1 q2 => by
      rw [eN, upd_n q2, nSpans_n hM (by omega) q1 (by omega)]
    have t2 : N' (1179 + 16 * j + 4) = nI 2 := by rw [eN]; exact upd_e rfl
    have same : ∀ k, k < 16 → k ≠ 4 → k ≠ 15 → N' (1179 + 16 * j + k) = N (1179 + 16 * j + k) := fun k hk g1 g2 => t1 _ (by unfold spc; omega) (by omega)
    have f15 : N' (1179 + 16 * j + 15) = nI 0 := by
      rw [t1 _ (by unfold spc; omega) (by omega), m3f]
      exact g1 ⟨k135.symm.trans f1, k141.symm.trans f2⟩
    have w00 : w = 0 := by
      have : 2 ^ 0 = 1 := rfl
      omega
    refine ⟨C', N', O, W, hc', hm2, hm.next hj ?_ (fun k hk => ?_) (fun s hs g k hk => t1 _ (by unfold spc; omega) (by omega)) ?_ (Or.inl ⟨rfl, rfl⟩) (fun s hs _ => t1 _ (by unfold spc; omega) (by omega)) (fun u hu => ⟨u, by omega, (t1 _ (by unfold spc; omega) (by omega)).trans hu⟩), c3.pq hpq⟩
    · refine m1.ex hj (Or.inr ⟨y, r, h, 2, 0, q, w, p, hE.phs hj hM (by omega) (by omega) (fun _ => by omega) (fun k _ _ => t1 _ (by unfold spc; omega) (by omega)) (t1 _ (by unfold spc; omega) (by omega)) (fun k _ _ => t1 _ (by unfold spc; omega) (by omega)) same t2⟩) (fun k q1 q2 _ => t1 k q1 (by omega))
    · unfold keepK at hk
      exact t1 k (by unfold spc; omega) (by omega)
    · refine Or.inr ⟨o0, (same 0 (by omega) (by omega) (by omega)).trans a0, y, hy, y0, (same 1 (by omega) (by omega) (by omega)).trans a1, Or.inr (Or.inl ⟨t2, f15, ?_⟩)⟩
      rw [same 6 (by omega) (by omega) (by omega), a6, w00]
  · have t1 : ∀ k, (k < 147 ∨ 1179 ≤ k) → k ≠ 14 → k ≠ 1179 + 16 * j → (k < 1342 + 3 * j ∨ 1342 + 3 * j + 3 ≤ k) → k ≠ 1275 + 9 * j + 4 → k ≠ 1338 → k ≠ 1275 + 9 * j + 2 → k ≠ 1337 → N' k = N k := fun k q1 q2 q3 q4 q5 q6 q7 q8 => by
      rw [eN]
      exact failex_n (by omega) hr (by omega) q1 q2 q3 q4 q5 q6 q7 q8
    have ic : IC M N' := by rw [eN]; exact failex_ic m1 hj hr (by omega) hq
    have off : N' (1179 + 16 * j) = nI 0 := by rw [eN]; exact failex_off (by omega) hr (by omega)
    refine ⟨C', N', O, W, hc', hm2, hm.next hj ic (fun k hk => ?_) (fun s hs g k hk => t1 _ (by omega) (by omega) (by omega) (by omega) (by omega) (by omega) (by omega) (by omega)) (Or.inl off) (Or.inl ⟨rfl, rfl⟩) (fun s hs g => t1 _ (by omega) (by omega) (by omega) (by omega) (by omega) (by omega) (by omega) (by omega)) (fun u hu => ⟨u, by omega, (t1 _ (by omega) (by omega) (by omega) (by omega) (by omega) (by omega) (by omega) (by omega)).trans hu⟩), c3.pq hpq⟩
    unfold keepK at hk
    exact t1 k (by omega) (by omega) (by omega) (by omega) (by omega) (by omega) (by omega) (by omega)
theorem snd_data {a : Nat} (hI0 : IC M N0) (hD : DB M N0) (hb : b = bv (pS N0) M) (hB : N0 1329 = b) (hm : Md M T b N0 N O W j) (hj : j < M) (hR : Rl M C N (dP N0 O j) (dQ N0 O W j)) (hE : EX M N j y r h 2 c q w p) : SndTo M T a b N0 N C O W j := by
  have hm' := hm
  obtain ⟨m1, m2, m3, m4, m5, m6⟩ := hm'
  have hM := m1.1.2.1
  have hN0 := m1.1.1
  have h00 : C 0 = nI M := by rw [hR.pl (pd_lo (by omega))]; exact hN0
  have hE' := hE
  obtain ⟨⟨a0, a1, a2, a3, a4, a7, a8, a6⟩, ⟨hy, b2, b3, hr, h1, h4, -, hw⟩, ⟨n, n1, n2, n3⟩, -⟩ := hE'
  obtain ⟨e1, e2, e3, e4, e5, -⟩ := (hR.ex hj).2 a0
  have m30 : N (1179 + 16 * j) = N0 (1179 + 16 * j) := m3 j (Nat.le_refl _) hj 0 (by omega)
  have m31 := m3 j (Nat.le_refl _) hj 1 (by omega)
  have m34 := m3 j (Nat.le_refl _) hj 4 (by omega)
  have m36 := m3 j (Nat.le_refl _) hj 6 (by omega)
  have m3f := m3 j (Nat.le_refl _) hj 15 (by omega)
  have o0 : N0 (1179 + 16 * j) = nI 1 := m30.symm.trans a0
  have y0 : N0 (1179 + 16 * j + 1) = nI y := m31.symm.trans a1
  have p0 : N0 (1179 + 16 * j + 4) = nI 2 := m34.symm.trans a4
  have hr0 : N (1179 + 16 * j + 15) = nI 0 := m3f.trans ((hD.2.1 j y hj hy o0 y0).2.1 (Or.inr p0))
  have hNb : N 1329 = b := (m2 _ (by unfold keepK; omega)).trans hB
  have k135 : N (135 + y) = N0 (135 + y) := m2 _ (by unfold keepK; omega)
  obtain ⟨nq, hq⟩ := m1.2.2.1 j r hj hr
  have hnq : nq = n := nI_inj (by have := hq.1; omega) (by omega) (hq.2.1.symm.trans n3)
  subst hnq
  obtain ⟨ρ, r1, r2, r3⟩ := m1.2.1 j y hj hy
  have hno : ∀ z, z < M → N0 (135 + z) ≠ nI j := fun z hz => db_ph hD hM hz hj (Or.inr (Or.inr p0))
  have hw16 : w < 2147483648 := by
    have : 2 ^ h ≤ 2 ^ 4 := Nat.pow_le_pow_right (by omega) h4
    omega
  obtain ⟨C', N', O', W', P', Q', c1, c2, c3, ⟨t1, ph', c', q', w', t2, t3, t4⟩⟩ := j_data (a := a) (O := O) (W := W) m1.1 hR hb hNb hj hE r1 r2 r3 (fun k hk => by
      obtain ⟨-, u, -, -, -, -, u1, u2, u3⟩ := hq.2.2.2 k (by omega)
      exact ⟨u, u1, u2, u3⟩) hr0 (fun hc => by
    have hf : N0 (135 + y) = -1 := by
      rcases hc with hc | hc
      · rcases hD.1 y hy with ⟨f, -⟩ | ⟨x, hx, f, -⟩
        · exact f
        · exfalso
          have hxj : j ≠ x := fun e => hno y hy (by rw [f, e])
          have := hD.2.2.2 y x j hy hx hj f hxj o0 p0 y0
          rw [← m36, a6] at this
          exact hc (nI_inj hw16 (by omega) this)
      · exact clr_idle hM hb hy hc.2.2.2.1
    rw [dQ_free hD hM hj hy (m5 y hy) hf, k135])
  have hc' : ∀ σ, b_X0_passSlot_84 a (nI j) (wC a σ C) = b_X0_passSlot_84 a (nI (j + 1)) (wC a σ C') := fun σ => by
    rw [c_snd hM hj h00 (by rw [hR.on hj]; exact a0) (by rw [e1]; exact a1) hy, e4.trans a4, if_neg (by decide), if_neg (by decide), if_pos rfl, c1 σ]
    rfl
  have hm2 : ∀ σ, b_X10_slot_14 (nI j) (wM σ N O W b) = b_X10_slot_14 (nI (j + 1)) (wM σ N' O' W' b) := fun σ => by
    rw [m_snd hM hj hN0 a0, c2 σ]
    rfl
  have hclr : clr N b M y j ↔ clr N0 b M y j := clr_N hM (by omega) (by omega) (fun k _ _ => m2 k (by unfold keepK; omega))
  have ic : IC M N' := m1.ex hj (Or.inr ⟨y, r, h, ph', c', q', w', p, t2⟩) t1
  have k1 : ∀ k, keepK k → N' k = N k := fun k hk => by
    unfold keepK at hk
    exact t1 k (by unfold spc; omega) (by omega) (by omega)
  have k2 : ∀ s, s < M → s ≠ j → ∀ k, k < 16 → N' (1179 + 16 * s + k) = N (1179 + 16 * s + k) := fun s hs g k hk => t1 _ (by unfold spc; omega) (by omega) (by omega)
  have k3 : ∀ s, s < M → N' (1275 + 9 * s + 1) = N (1275 + 9 * s + 1) := fun s hs => t1 _ (by unfold spc; omega) (by omega) (by omega)
  obtain ⟨⟨b0, b1, -, -, b4, -, -, b6⟩, ⟨-, -, -, -, -, -, -, hw'⟩, -⟩ := t2
  have hw16' : w' < 2147483648 := by
    have : 2 ^ h ≤ 2 ^ 4 := Nat.pow_le_pow_right (by omega) h4
    omega
  have wor : N' (1179 + 16 * j + 6) = N0 (1179 + 16 * j + 6) ∨ clr N0 b M y j := by
    rcases t3 with t3 | t3
    · left
      rw [b6, t3, ← a6, m36]
    · exact Or.inr (hclr.mp t3)
  rcases t4 with ⟨rfl, f1, rfl, rfl, rfl, rfl⟩ | ⟨rfl, f1, f2, ⟨f3, f4, f5⟩, rfl, rfl, rfl, rfl⟩ | ⟨rfl, f1, rfl, rfl, rfl, rfl⟩
  · refine ⟨C', N', O', W', hc', hm2, hm.next hj ic k1 k2 ?_ (Or.inl ⟨rfl, rfl⟩) (fun s hs _ => k3 s hs) (fun u hu => ⟨u, by omega, (k3 j hj).trans hu⟩), c3.pq fun z hz => dP_next hD hM hj hz (hno z hz)⟩
    exact Or.inr ⟨o0, b0, y, hy, y0, b1, Or.inr (Or.inr (Or.inl ⟨p0, b4, f1, wor⟩))⟩
  · have w0' : N' (1179 + 16 * j + 6) ≠ nI 0 := fun e => f2 (nI_inj hw16' (by omega) (b6.symm.trans e))
    refine ⟨C', N', upd O y (nI j), upd W y (nI 2), hc', hm2, hm.next hj ic k1 k2 ?_ ?_ (fun s hs _ => k3 s hs) (fun u hu => ⟨u, by omega, (k3 j hj).trans hu⟩), c3.pq fun z hz => dP_upd hD hM hj hz (hno z hz)⟩
    · exact Or.inr ⟨o0, b0, y, hy, y0, b1, Or.inr (Or.inr (Or.inr ⟨p0, b4, Or.inl ⟨f1, upd_e rfl, upd_e rfl, w0', wor⟩⟩))⟩
    · exact Or.inr ⟨y, nI 2, hy, f5, k135.symm.trans f4, rfl, rfl, b0, b1, f1, Or.inr ⟨rfl, b4⟩⟩
  · refine ⟨C', N', O', W', hc', hm2, hm.next hj ic k1 k2 ?_ (Or.inl ⟨rfl, rfl⟩) (fun s hs _ => k3 s hs) (fun u hu => ⟨u, by omega, (k3 j hj).trans hu⟩), c3.pq fun z hz => dP_next hD hM hj hz (hno z hz)⟩
    exact Or.inr ⟨o0, b0, y, hy, y0, b1, Or.inr (Or.inr (Or.inr ⟨p0, b4, Or.inr f1⟩))⟩
end MI

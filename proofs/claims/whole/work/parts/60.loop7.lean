/-! Amid a slot: who waits for an answer; all senders -/
section MJ
variable {M K T s r i j n m k d h x y z x1 x2 c q w : Nat} {F G N0 N C P Q O W C' N' P' Q' O' W' : Nat → Int32} {v u t : Int32} {b : Int32} {w1 : Prop} {wb : Nat → Prop} {p : Nat → Nat} {ans : Prop}
theorem snd_answer {a : Nat} (hI0 : IC M N0) (hD : DB M N0) (hb : b = bv (pS N0) M) (hB : N0 1329 = b) (hm : Md M T b N0 N O W j) (hj : j < M) (hR : Rl M C N (dP N0 O j) (dQ N0 O W j)) (hE : EX M N j y r h 3 c q w p) : SndTo M T a b N0 N C O W j := by
  have hm' := hm
  obtain ⟨m1, m2, m3, m4, m5, m6⟩ := hm'
  have hM := m1.1.2.1
  have hN0 := m1.1.1
  have h00 : C 0 = nI M := by rw [hR.pl (pd_lo (by omega))]; exact hN0
  have hE' := hE
  obtain ⟨⟨a0, a1, a2, a3, a4, a7, a8, a6⟩, ⟨hy, b2, b3, hr, h1, h4, -, hw⟩, ⟨n', n1, n2, n3⟩, -⟩ := hE'
  obtain ⟨e1, e2, e3, e4, e5, -⟩ := (hR.ex hj).2 a0
  have m30 : N (1179 + 16 * j) = N0 (1179 + 16 * j) := m3 j (Nat.le_refl _) hj 0 (by omega)
  have m31 := m3 j (Nat.le_refl _) hj 1 (by omega)
  have m34 := m3 j (Nat.le_refl _) hj 4 (by omega)
  have m3f := m3 j (Nat.le_refl _) hj 15 (by omega)
  have o0 : N0 (1179 + 16 * j) = nI 1 := m30.symm.trans a0
  have y0 : N0 (1179 + 16 * j + 1) = nI y := m31.symm.trans a1
  have p0 : N0 (1179 + 16 * j + 4) = nI 3 := m34.symm.trans a4
  have hNb : N 1329 = b := (m2 _ (by unfold keepK; omega)).trans hB
  have k135 : N (135 + y) = N0 (135 + y) := m2 _ (by unfold keepK; omega)
  have k141 : N (141 + y) = N0 (141 + y) := m2 _ (by unfold keepK; omega)
  obtain ⟨g1, g2, g3⟩ := pay_facts hD hM hj hy o0 y0 (q := 2) (Or.inr ⟨rfl, p0⟩)
  obtain ⟨n, rfl⟩ : ∃ n, n' = n + 1 := ⟨n' - 1, by omega⟩
  obtain ⟨nq, hq⟩ := m1.2.2.1 j r hj hr
  have hnq : nq = n + 1 := nI_inj (by have := hq.1; omega) (by omega) (hq.2.1.symm.trans n3)
  subst hnq
  have hpay := dP_is (N := N) (W := W) hD hM hj hy (m5 y hy) (q := 2) (Or.inr rfl)
  obtain ⟨C', N', P', Q', c1, c2, c3, t3, t4⟩ := j_answer (a := a) (O := O) (W := W) m1.1 hR hb hNb hj hy a0 a1 a2 hr a4 (by omega) n3 hq.2.2.1 a3 h1 h4 n2 a6 m1.2.2.2.2.1 (by rw [k135, k141]; exact hpay) (fun e => by rw [m3f]; rw [k135, k141] at e; exact g1 e) (fun e => by rw [m3f]; rw [k135, k141] at e; exact g2 e)
  have hc' : ∀ σ, b_X0_passSlot_84 a (nI j) (wC a σ C) = b_X0_passSlot_84 a (nI (j + 1)) (wC a σ C') := fun σ => by
    rw [c_snd hM hj h00 (by rw [hR.on hj]; exact a0) (by rw [e1]; exact a1) hy, e4.trans a4, if_neg (by decide), if_neg (by decide), if_neg (by decide), c1 σ]
    rfl
  have hm2 : ∀ σ, b_X10_slot_14 (nI j) (wM σ N O W b) = b_X10_slot_14 (nI (j + 1)) (wM σ N' O W b) := fun σ => by
    rw [m_snd hM hj hN0 a0, c2 σ]
    rfl
  have hpq : ∀ z, z < M → dP N0 O (j + 1) z = P' z ∧ dQ N0 O W (j + 1) z = Q' z := fun z hz => by
    rcases t3 with ⟨q1, q2, rfl, rfl⟩ | ⟨q1, rfl, rfl⟩
    · have ho := (hpay.mp ⟨q1, q2⟩).1
      have hO : O y = -1 := by
        rcases m5 y hy with ⟨f, -⟩ | ⟨x, hx, -, f, -⟩
        · exact f
        · rw [ho] at f; exact absurd f (nm1 (by omega))
      exact dP_pay hD hM hj hz ho hO (fun g => db_to hD hM hz hy hj y0 g)
    · exact dP_next hD hM hj hz (g3 (fun e => q1 (hpay.mpr e)) z hz)
  rcases t4 with ⟨f1, f2, f3, eN⟩ | eN
  · obtain ⟨ic, off, s1, s2, s3, s4⟩ := ans_ic (wb := fun k => sn (nI w) k) m1 hj hy hr (by omega) n2 n3
    rw [← eN] at ic off s1 s2 s3 s4
    refine ⟨C', N', O, W, hc', hm2, hm.next hj ic (fun k hk => ?_) (fun s hs g k hk => s2 _ (by omega) (by omega) (by omega)) (Or.inl off) (Or.inl ⟨rfl, rfl⟩) (fun s hs g => s3 _ (by omega) (by omega) (by omega) (by omega) (by omega)) (fun u hu => ?_), c3.pq hpq⟩
    · unfold keepK at hk
      by_cases g : k < 147
      · exact s1 k g (by omega) (by omega) (by omega)
      · exact s3 k (by omega) (by omega) (by omega) (by omega) (by omega)
    · obtain ⟨u', f4, f5⟩ := s4 u hu
      exact ⟨u', by omega, f5⟩
  · have t1 : ∀ k, (k < 147 ∨ 1179 ≤ k) → k ≠ 14 → k ≠ 51 + (6 * j + y) → k ≠ 87 + (6 * j + y) → k ≠ 1179 + 16 * j → (k < 1342 + 3 * j ∨ 1342 + 3 * j + 3 ≤ k) → k ≠ 1275 + 9 * j + 4 → k ≠ 1338 → k ≠ 1275 + 9 * j + 2 → k ≠ 1337 → N' k = N k := fun k q1 q2 qa qb q3 q4 q5 q6 q7 q8 => by
      rw [eN]
      unfold nFailsBy
      rw [if_pos trivial, upd_n qb, upd_n qa]
      exact failex_n (by omega) hr (by omega) q1 q2 q3 q4 q5 q6 q7 q8
    have ic : IC M N' := by rw [eN]; exact failsBy_ic m1 hj hy hr (by omega) hq
    have off : N' (1179 + 16 * j) = nI 0 := by
      rw [eN]
      unfold nFailsBy
      rw [if_pos trivial, upd_n (by omega), upd_n (by omega)]
      exact failex_off (by omega) hr (by omega)
    refine ⟨C', N', O, W, hc', hm2, hm.next hj ic (fun k hk => ?_) (fun s hs g k hk => t1 _ (by omega) (by omega) (by omega) (by omega) (by omega) (by omega) (by omega) (by omega) (by omega) (by omega)) (Or.inl off) (Or.inl ⟨rfl, rfl⟩) (fun s hs g => t1 _ (by omega) (by omega) (by omega) (by omega) (by omega) (by omega) (by omega) (by omega) (by omega) (by omega)) (fun u hu => ⟨u, by omega, (t1 _ (by omega) (by omega) (by omega) (by omega) (by omega) (by omega) (by omega) (by omega) (by omega) (by omega)).trans hu⟩), c3.pq hpq⟩
    unfold keepK at hk
    exact t1 k (by omega) (by omega) (by omega) (by omega) (by omega) (by omega) (by omega) (by omega) (by omega) (by omega)
theorem snd_any {a : Nat} (hI0 : IC M N0) (hD : DB M N0) (hb : b = bv (pS N0) M) (hB : N0 1329 = b) (hm : Md M T b N0 N O W j) (hj : j < M) (hR : Rl M C N (dP N0 O j) (dQ N0 O W j)) : SndTo M T a b N0 N C O W j := by
  rcases hm.1.2.2.2.1 j hj with e | ⟨y, r, h, ph, c, q, w, p, e⟩
  · exact snd_off hD hm hj hR e
  · have hph : ph < 4 := e.2.1.2.2.2.2.2.2.1
    have : ph = 0 ∨ ph = 1 ∨ ph = 2 ∨ ph = 3 := by omega
    rcases this with rfl | rfl | rfl | rfl
    · exact snd_ask hI0 hD hb hB hm hj hR e
    · exact snd_grant hI0 hD hb hB hm hj hR e
    · exact snd_data hI0 hD hb hB hm hj hR e
    · exact snd_answer hI0 hD hb hB hm hj hR e
theorem snd_all_from {a : Nat} (hI0 : IC M N0) (hD : DB M N0) (hb : b = bv (pS N0) M) (hB : N0 1329 = b) : ∀ (d j : Nat) (C N O W : Nat → Int32), j + d = M → Md M T b N0 N O W j → Rl M C N (dP N0 O j) (dQ N0 O W j) →
    ∃ C' N' O' W', (∀ σ, b_X0_passSlot_84 a (nI j) (wC a σ C) = b_X0_passSlot_84 a (nI M) (wC a σ C')) ∧ (∀ σ, b_X10_slot_14 (nI j) (wM σ N O W b) = b_X10_slot_14 (nI M) (wM σ N' O' W' b)) ∧ Md M T b N0 N' O' W' M ∧ Rl M C' N' (dP N0 O' M) (dQ N0 O' W' M)
  | 0, j, C, N, O, W, hd, hm, hR => by
    have : j = M := by omega
    subst this
    exact ⟨C, N, O, W, fun _ => rfl, fun _ => rfl, hm, hR⟩
  | d + 1, j, C, N, O, W, hd, hm, hR => by
    obtain ⟨C1, N1, O1, W1, c1, c2, c3, c4⟩ := snd_any (a := a) hI0 hD hb hB hm (by omega) hR
    obtain ⟨C2, N2, O2, W2, f1, f2, f3, f4⟩ := snd_all_from (a := a) hI0 hD hb hB d (j + 1) C1 N1 O1 W1 (by omega) c3 c4
    exact ⟨C2, N2, O2, W2, fun σ => (c1 σ).trans (f1 σ), fun σ => (c2 σ).trans (f2 σ), f3, f4⟩
end MJ

/-! Both rows: a station begins; the core of what is kept -/
section B3
variable {M K s r i n m k d h x y T : Nat} {F G N C P Q O W C' N' : Nat → Int32} {v u t : Int32} {b : Int32} {p : Nat → Nat}
def IC (M : Nat) (N : Nat → Int32) : Prop := IS M N ∧ IR M N ∧ IQ M N ∧ (∀ s, s < M → EV M N s) ∧ IM M N
theorem nDraws_u {j : Nat} (h1 : j ≠ 14) (h2 : j ≠ 1131 + (4 * s + r)) (h3 : j ≠ 1155 + (4 * s + r)) : nDraws (upd N j v) s r = upd (nDraws N s r) j v := by
  have e : nDraw (upd N j v) = upd (nDraw N) j v := by
    unfold nDraw
    rw [upd_n (k := j) (j := 14) (fun q => h1 q.symm), upd_c (k := j) (j := 14) h1]
  unfold nDraws
  rw [e, upd_n (k := j) (j := 14) (fun q => h1 q.symm), upd_n (k := j) (j := 1131 + (4 * s + r)) (fun q => h2 q.symm), upd_c (k := j) (j := 1155 + (4 * s + r)) h3]
theorem nFails_u {j : Nat} (hs : s < 6) (hr : r < 4) (hn : n < 8) (hj : 1179 ≤ j) (h1 : j ≠ 1275 + 9 * s + 2) (h2 : j ≠ 1337) : nFails (upd N j v) s r n = upd (nFails N s r n) j v := by
  have ht : nTry (upd N j v) (171 + 5 * (8 * (4 * s + r) + 0)) = upd (nTry N (171 + 5 * (8 * (4 * s + r) + 0))) j v := by
    unfold nTry
    rw [upd_n (by omega), upd_c (by omega)]
  unfold nFails
  rw [upd_n (j := 171 + 5 * (8 * (4 * s + r) + 0) + 2) (by omega), upd_n (j := 4) (by omega), upd_n (j := 1131 + (4 * s + r)) (by omega), upd_n (j := 13) (by omega), upd_n (j := 9 + r) (by omega), ht]
  split
  · rw [upd_c (k := j) (j := 1131 + (4 * s + r)) (by omega), nDraws_u (by omega) (by omega) (by omega)]
  · unfold nLost
    rw [nLeaves_u hs hr hn (by omega), upd_n (j := 1275 + 9 * s + 2) (fun q => h1 q.symm), upd_n (j := 1337) (fun q => h2 q.symm), upd_c (k := j) (j := 1275 + 9 * s + 2) h1, upd_c (k := j) (j := 1337) h2, upd_c (k := j) (j := 1131 + (4 * s + r)) (by omega), nDraws_u (by omega) (by omega) (by omega)]
theorem nFails_t (hs : s < 6) (hr : r < 4) (hn : n < 8) : (nFails N s r n (1275 + 9 * s + 2) = N (1275 + 9 * s + 2) ∧ nFails N s r n 1337 = N 1337) ∨ (nFails N s r n (1275 + 9 * s + 2) = N (1275 + 9 * s + 2) + nI 1 ∧ nFails N s r n 1337 = N 1337 + nI 1) := by
  unfold nFails nDraws nDraw nLost
  split
  · left
    simp (disch := omega) only [upd_n, nty_at, if_neg]
    exact ⟨trivial, trivial⟩
  · right
    have e : ∀ k, 1179 ≤ k → nLeaves (nTry N (171 + 5 * (8 * (4 * s + r) + 0))) s r 0 n k = N k := fun k hk => by rw [nlv_at, if_neg (by omega), if_neg (by omega), nty_at, if_neg (by omega)]
    simp (disch := omega) only [upd_n, upd_e, e]
    exact ⟨trivial, trivial⟩
theorem nFails_iq (hM : M ≤ 6) (hs : s < M) (hr : r < 4) (hn : n < 8) (hq : IQ1 M N s r (n + 1)) (hw : ∃ w, w ≤ 63 ∧ nFails N s r n (1131 + (4 * s + r)) = nI w) : ∃ n', IQ1 M (nFails N s r n) s r n' := by
  obtain ⟨h1, h2, -, h4⟩ := hq
  have eq : ∀ k, 15 ≤ k → k < 51 → nFails N s r n k = N k := fun k a c => nFails_n (by omega) hr hn ⟨by omega, by omega⟩
  by_cases hc : N (171 + 5 * (8 * (4 * s + r) + 0) + 2) + nI 1 < N 4
  · have e : ∀ k, (147 ≤ k ∧ k < 1131 ∧ k ≠ 171 + 5 * (8 * (4 * s + r) + 0) + 2) → nFails N s r n k = N k := fun k hk => by
      unfold nFails nDraws nDraw
      rw [if_pos hc, upd_n (by omega), upd_n (by omega), upd_n (by omega), nty_at, if_neg (by omega)]
    exact ⟨n + 1, h1, by rw [e _ (by omega)]; exact h2, hw, fun i hi => (h4 i hi).mono (by omega) hM (e _ (by omega)) (e _ (by omega)) eq⟩
  · have e : ∀ k, (147 ≤ k ∧ k < 1131) → nFails N s r n k = nLeaves (nTry N (171 + 5 * (8 * (4 * s + r) + 0))) s r 0 n k := fun k hk => by
      unfold nFails nDraws nDraw nLost
      rw [if_neg hc, upd_n (by omega), upd_n (by omega), upd_n (by omega), upd_n (by omega), upd_n (by omega)]
    refine ⟨n, by omega, by rw [e _ (by omega), nlv_at, if_neg (by omega), if_pos rfl], hw, fun i hi => (h4 (i + 1) (by omega)).mono (by omega) hM ?_ ?_ eq⟩
    · rw [e _ (by omega), nlv_at, if_pos (by omega), if_neg (by omega), nty_at, if_neg (by omega), show 171 + 5 * (8 * (4 * s + r) + i) + 5 = 171 + 5 * (8 * (4 * s + r) + (i + 1)) from by omega]
    · rw [e _ (by omega), nlv_at, if_pos (by omega), if_neg (by omega), nty_at, if_neg (by omega), show 171 + 5 * (8 * (4 * s + r) + i) + 1 + 5 = 171 + 5 * (8 * (4 * s + r) + (i + 1)) + 1 from by omega]
theorem IM.mono (h : IM M N) (hM : M ≤ 6) (e0 : N' 1340 = N 1340) (e1 : ∀ k, 1336 ≤ k → k < 1340 → N' k = N k) (e2 : ∀ s t, s < M → (t = 0 ∨ t = 2 ∨ t = 4 ∨ t = 6) → N' (1275 + 9 * s + t) = N (1275 + 9 * s + t)) : IM M N' := by
  obtain ⟨h1, h2, h3, h4, h5⟩ := h
  refine ⟨by rw [e0]; exact h1, ?_, ?_, ?_, ?_⟩
  · rw [e1 _ (by omega) (by omega), h2]; exact (sumT_c (by omega) fun s hs => e2 s 0 hs (by omega)).symm
  · rw [e1 _ (by omega) (by omega), h3]; exact (sumT_c (by omega) fun s hs => e2 s 2 hs (by omega)).symm
  · rw [e1 _ (by omega) (by omega), h4]; exact (sumT_c (by omega) fun s hs => e2 s 4 hs (by omega)).symm
  · rw [e1 _ (by omega) (by omega), h5]; exact (sumT_c (by omega) fun s hs => e2 s 6 hs (by omega)).symm
/-- one tally and its sum grow alike -/
theorem IM.one {t j : Nat} (h : IM M N) (hM : M ≤ 6) (hs : s < M) (ht : (t = 0 ∧ j = 1336) ∨ (t = 2 ∧ j = 1337) ∨ (t = 4 ∧ j = 1338) ∨ (t = 6 ∧ j = 1339)) : IM M (upd (upd N (1275 + 9 * s + t) (N (1275 + 9 * s + t) + v)) j (N j + v)) := by
  obtain ⟨h1, h2, h3, h4, h5⟩ := h
  have key : ∀ t' j', ((t' = 0 ∧ j' = 1336) ∨ (t' = 2 ∧ j' = 1337) ∨ (t' = 4 ∧ j' = 1338) ∨ (t' = 6 ∧ j' = 1339)) → N j' = sumT N t' M → upd (upd N (1275 + 9 * s + t) (N (1275 + 9 * s + t) + v)) j (N j + v) j' = sumT (upd (upd N (1275 + 9 * s + t) (N (1275 + 9 * s + t) + v)) j (N j + v)) t' M := by
    intro t' j' ht' hj
    by_cases e : t' = t
    · have ej : j' = j := by omega
      subst e
      subst ej
      rw [upd_e rfl, hj]
      refine (sumT_u (s := s) (v := v) (N := N) (by omega) hs ?_ (fun z hz hne => ?_)).symm
      · rw [upd_n (by omega), upd_e rfl]
      · rw [upd_n (by omega), upd_n (by omega)]
    · rw [upd_n (by omega), upd_n (by omega), hj]
      refine (sumT_c (by omega) fun z hz => ?_).symm
      rw [upd_n (by omega), upd_n (by omega)]
  exact ⟨by rw [upd_n (by omega), upd_n (by omega)]; exact h1, key 0 1336 (by omega) h2, key 2 1337 (by omega) h3, key 4 1338 (by omega) h4, key 6 1339 (by omega) h5⟩
theorem IM.fail (h : IM M N) (hM : M ≤ 6) (hs : s < M) (hr : r < 4) (hn : n < 8) : IM M (nFails N s r n) := by
  have eo : ∀ k, 1275 ≤ k → k ≠ 1275 + 9 * s + 2 → k ≠ 1337 → nFails N s r n k = N k := fun k a c d => nFails_q (by omega) hr hn (by omega) (by omega) (by omega) (by omega) (by omega) c d
  rcases nFails_t (N := N) (show s < 6 by omega) hr hn with ⟨t1, t2⟩ | ⟨t1, t2⟩
  · refine h.mono hM (eo _ (by omega) (by omega) (by omega)) (fun k a c => ?_) (fun z t hz ht => ?_)
    · by_cases e : k = 1337
      · rw [e]; exact t2
      · exact eo k (by omega) (by omega) e
    · by_cases e : 1275 + 9 * z + t = 1275 + 9 * s + 2
      · rw [e]; exact t1
      · exact eo _ (by omega) e (by omega)
  · have := h.one (v := nI 1) (t := 2) (j := 1337) hM hs (by omega)
    refine this.mono hM ?_ (fun k a c => ?_) (fun z t hz ht => ?_)
    · rw [eo _ (by omega) (by omega) (by omega), upd_n (by omega), upd_n (by omega)]
    · by_cases e : k = 1337
      · rw [e, t2, upd_e rfl]
      · rw [eo k (by omega) (by omega) e, upd_n e, upd_n (by omega)]
    · by_cases e : 1275 + 9 * z + t = 1275 + 9 * s + 2
      · rw [e, t1, upd_n (by omega), upd_e rfl]
      · rw [eo _ (by omega) e (by omega), upd_n (by omega), upd_n e]
/-- a rank fails that is not its exchange's: the core is kept -/
theorem IC.fail (h : IC M N) (hs : s < M) (hr : r < 4) (hn : n < 8) (hq : IQ1 M N s r (n + 1)) (hx : N (1179 + 16 * s) = nI 0 ∨ N (1179 + 16 * s + 2) ≠ nI r) (hw : ∃ w, w ≤ 63 ∧ nFails N s r n (1131 + (4 * s + r)) = nI w) : IC M (nFails N s r n) := by
  obtain ⟨h1, h2, h3, h4, h5⟩ := h
  have hM := h1.2.1
  have eo : ∀ k, k ≠ 14 → (k < 147 ∨ (1179 ≤ k ∧ k < 1275)) → nFails N s r n k = N k := fun k a c => nFails_q (by omega) hr hn a (by omega) (by omega) (by omega) (by omega) (by omega) (by omega)
  have eq : ∀ k, 147 ≤ k → k < 1179 → k ≠ 147 + (4 * s + r) → (k < 171 + 40 * (4 * s + r) ∨ 171 + 40 * (4 * s + r) + 40 ≤ k) → k ≠ 1131 + (4 * s + r) → k ≠ 1155 + (4 * s + r) → nFails N s r n k = N k := fun k a c d e f g => nFails_q (by omega) hr hn (by omega) d e f g (by omega) (by omega)
  refine ⟨?_, h2.mono hM (fun k a c => eo k (by omega) (by omega)), h3.one hM (nFails_iq hM hs hr hn hq hw) hr (fun k a c d => eq k (by omega) (by omega) d (by omega) (by omega) (by omega)) (fun k a c d => eq k (by omega) (by omega) (by omega) (by omega) d (by omega)) (fun k a c d => eq k (by omega) (by omega) (by omega) d (by omega) (by omega)) (fun k a c => eo k (by omega) (by omega)), fun z hz => ?_, h5.fail hM hs hr hn⟩
  · obtain ⟨g1, g2, g3, g4, g5, g6⟩ := h1
    refine ⟨by rw [eo _ (by omega) (by omega)]; exact g1, g2, fun j hj => by rw [eo _ (by omega) (by omega)]; exact g3 j hj, fun u z hu hz => by rw [eo _ (by omega) (by omega), eo _ (by omega) (by omega)]; exact g4 u z hu hz, fun u hu => by rw [eo _ (by omega) (by omega)]; exact g5 u hu, fun u z hu hz hm => by rw [eo _ (by omega) (by omega)]; exact g6 u z hu hz hm⟩
  · rcases h4 z hz with e | ⟨y, t, h, ph, c, q, w, p, e⟩
    · exact Or.inl (by rw [eo _ (by omega) (by omega)]; exact e)
    · have ht : t < 4 := e.2.1.2.2.2.1
      have hne : 4 * z + t ≠ 4 * s + r := fun g => by
        have hzs : z = s := by omega
        have htr : t = r := by omega
        subst hzs
        subst htr
        rcases hx with hx | hx
        · rw [e.1.1] at hx; exact absurd hx (by decide)
        · exact hx e.1.2.2.1
      exact Or.inr ⟨y, t, h, ph, c, q, w, p, e.mono hz hM (fun k a c => eo k (by omega) (by omega)) (eq _ (by omega) (by omega) (by omega) (by omega) (by omega) (by omega)) (fun k a c => eq k (by omega) (by omega) (by omega) (by omega) (by omega) (by omega)) (fun k hk => eo _ (by omega) (by omega))⟩
/-- what changes beside an exchange's own numbers -/
theorem Rl.three (hR : Rl M C N P Q) (hM : M ≤ 6) (hs : s < M) (hx : ExR C' N' s) (h1 : ∀ k, (k < 1179 + 16 * s ∨ 1179 + 16 * s + 16 ≤ k) → k ≠ 1275 + 9 * s + 3 → k ≠ 1341 → C' k = C k) (h2 : ∀ k, (k < 1179 + 16 * s ∨ 1179 + 16 * s + 16 ≤ k) → k ≠ 1275 + 9 * s + 3 → k ≠ 1341 → N' k = N k) (e3 : C' (1275 + 9 * s + 3) = N' (1275 + 9 * s + 3)) (e4 : C' 1341 = N' 1341) : Rl M C' N' P Q := by
  have hA : Rl M (upd (upd C (1275 + 9 * s + 3) (C' (1275 + 9 * s + 3))) 1341 (C' 1341)) (upd (upd N (1275 + 9 * s + 3) (C' (1275 + 9 * s + 3))) 1341 (C' 1341)) P Q := (hR.u hM (Or.inr (Or.inr (Or.inr (by omega))))).u hM (Or.inr (Or.inr (Or.inr (by omega))))
  have gen : ∀ (A B : Nat → Int32), (∀ k, (k < 1179 + 16 * s ∨ 1179 + 16 * s + 16 ≤ k) → k ≠ 1275 + 9 * s + 3 → k ≠ 1341 → A k = B k) → A (1275 + 9 * s + 3) = C' (1275 + 9 * s + 3) → A 1341 = C' 1341 → ∀ k, (k < 1179 + 16 * s ∨ 1179 + 16 * s + 16 ≤ k) → A k = upd (upd B (1275 + 9 * s + 3) (C' (1275 + 9 * s + 3))) 1341 (C' 1341) k := by
    intro A B g1 g2 g3 k hk
    by_cases q1 : k = 1341
    · rw [upd_e q1, q1, g3]
    · rw [upd_n q1]
      by_cases q2 : k = 1275 + 9 * s + 3
      · rw [upd_e q2, q2, g2]
      · rw [upd_n q2]; exact g1 k hk q2 q1
  exact hA.X hM hs hx (gen C' C h1 rfl rfl) (gen N' N h2 e3.symm e4.symm)
/-- an exchange begins, in both rows -/
theorem j_begin {a : Nat} (hI : IC M N) (hR : Rl M C N P Q) (hs : s < M) (hr : r < 4) (hn1 : 1 ≤ n) (hq : IQ1 M N s r n) :
    ∃ C' N' y h ph p, (∀ σ, e_X0_beginExchange a (nI s) (nI r) (wC a σ C) = some (some none, wC a σ C')) ∧ (∀ σ O W b, e_X10_begins (nI s) (nI r) (wM σ N O W b) = some (some none, wM σ N' O W b)) ∧ Rl M C' N' P Q ∧ IC M N' ∧
      (∀ k, (k < 1179 + 16 * s ∨ 1179 + 16 * s + 16 ≤ k) → k ≠ 1275 + 9 * s + 3 → k ≠ 1341 → N' k = N k) ∧ N' 1341 = N 1341 ||| (nI 1 <<< (nI s &&& 31)) ∧ EX M N' s y r h ph 0 (p 0) 0 p ∧ (ph = 0 ∨ ph = 2) ∧ N' (1179 + 16 * s + 15) = nI 0 := by
  obtain ⟨i1, i2, i3, i4, i5⟩ := hI
  have hM := i1.2.1
  obtain ⟨q1, q2, q3, q4⟩ := hq
  obtain ⟨T, hT1, hT2, hT3⟩ := i1.2.2.1 1 (by omega)
  obtain ⟨A, hA1, hA2, hA3⟩ := i1.2.2.1 0 (by omega)
  have hT4 : T ≤ 4 := hT3
  have hA4 : A ≤ 10 := hA3
  obtain ⟨y, u0, hy, hys, hy0, hyh, -, -, -⟩ := q4 0 (by omega)
  obtain ⟨h, hh1, hA⟩ := alk_ex N s r n T y hy0 hn1 hT2
  obtain ⟨ρ, hρ1, hρ2, hρ3⟩ := i2 s y hs hy
  obtain ⟨g1, g2, g3, g4⟩ := id hA
  have hu : ∀ k, k < h → ∃ u, N (171 + 5 * (8 * (4 * s + r) + k) + 1) = nI u ∧ 1 ≤ u ∧ u ≤ 9 := fun k hk => by
    obtain ⟨-, u, -, -, -, -, u1, u2, u3⟩ := q4 k (by omega)
    exact ⟨u, u1, u2, u3⟩
  obtain ⟨p, hP⟩ := plc_ex (F := N) (r := r) (h := h) hρ1 hρ2 hρ3 hu
  have frE : ∀ k f, k < n → f < 5 → C (171 + 5 * (8 * (4 * s + r) + k) + f) = N (171 + 5 * (8 * (4 * s + r) + k) + f) := fun k f hk hf => hR.frv hs hr q1 q2 hk hf
  have hPC : PLC C s r y ρ h p := by
    obtain ⟨p1, p2, p3, p4⟩ := hP
    refine ⟨by rw [hR.pl (pd_rt hM hs (by omega))]; exact p1, p2, p3, fun k hk => ?_⟩
    rw [frE k 1 (by omega) (by omega), hR.pl (pd_rt hM hs (by omega))]
    exact p4 k hk
  have hAC : ALK C s r n T y h := by
    refine ⟨g1, g2, fun k hk => ?_, ?_⟩
    · have := frE k 0 (by omega) (by omega)
      rw [Nat.add_zero] at this
      rw [this]; exact g3 k hk
    · by_cases e : h = n
      · exact Or.inl e
      · have := frE h 0 (by omega) (by omega)
        rw [Nat.add_zero] at this
        rw [this]; exact g4
  obtain ⟨C', c0, c1, c2, c3, c4, c5, c6, c7, c8, c9, c10, c11, c12, c13, c14, c15, c16⟩ := c_begin (a := a) (A := A) (T := T) (h := h) (y := y) (by omega) (by omega) hr q1 hn1 g1 hh1 (by omega) hPC (by rw [hR.pl (pd_sz hM hs hr)]; exact q2) (by rw [Nat.add_zero]; have := frE 0 0 (by omega) (by omega); rw [Nat.add_zero, Nat.add_zero] at this; rw [this]; rw [Nat.add_zero] at hy0; exact hy0) (by rw [hR.pl (pd_lo (by omega))]; exact hT1) hT4 hAC (by rw [hR.pl (pd_lo (by omega))]; exact hA1) hA4
  obtain ⟨N', n0, n1, n2, n3, n4, n5, n6, n7, n8, n9, n10', n11, n12, n13, n14, n15, n16⟩ := m_begins (A := A) (T := T) (h := h) (y := y) (by omega) (by omega) hr q1 hn1 g1 hh1 (by omega) hP q2 hy0 hT1 hT4 hA hA1 hA4
  have hsm : sm p 0 h = p 0 + sm p 1 (h - 1) := by
    obtain ⟨g, rfl⟩ : ∃ g, h = g + 1 := ⟨h - 1, by omega⟩
    rfl
  have hEX : EX M N' s y r h (if sm p 0 h < A then 2 else 0) 0 (p 0) 0 p := by
    refine ⟨⟨n4, n5, n6, n7, n8, n13, n14, n11⟩, ⟨hy, hys, by rw [n1 _ (by omega) (by omega) (by omega)]; exact hyh, hr, hh1, by omega, by split <;> omega, Nat.two_pow_pos h⟩, ⟨n, q1, g1, by rw [n1 _ (by omega) (by omega) (by omega)]; exact q2⟩, fun k hk => ?_, fun _ => ⟨by omega, (hP.2.2.2 0 (by omega)).2.1, (hP.2.2.2 0 (by omega)).2.2.1, by decide, by rw [n9, hsm]; rfl⟩, fun _ => ⟨rfl, rfl, n15⟩, Or.inr n15⟩
    obtain ⟨-, p2, p3, p4⟩ := hP.2.2.2 k hk
    exact ⟨n16 k hk, p2, p3, by rw [n1 _ (by omega) (by omega) (by omega), n1 _ (by omega) (by omega) (by omega)]; exact p4⟩
  have hps : ∀ h', h' ≤ 4 → N' (1179 + 16 * s + 3) = nI h' → C' (1179 + 16 * s + 11) = ps N' s h' := fun h' a1 a2 => by
    rw [n7] at a2
    have : h = h' := (nI_eq (by omega) (by omega)).mp a2
    subst this
    rw [c8, ps_sm h n16]
  refine ⟨C', N', y, h, _, p, c0, n0, ?_, ⟨i1.mono fun k hk => n1 k (by omega) (by omega) (by omega), i2.mono hM fun k a c => n1 k (by omega) (by omega) (by omega), i3.mono hM (fun k a c => n1 k (by omega) (by omega) (by omega)) (fun k a c => n1 k (by omega) (by omega) (by omega)), fun z hz => ?_, i5.mono hM (n1 _ (by omega) (by omega) (by omega)) (fun k a c => n1 k (by omega) (by omega) (by omega)) (fun z t hz ht => n1 _ (by omega) (by omega) (by omega))⟩, n1, n3, hEX, by split <;> omega, n12⟩
  · refine hR.three hM hs ?_ c1 n1 (by rw [c2, n2, hR.pl (pd_ty hM hs (by omega))]) (by rw [c3, n3, hR.pl (pd_hi (by omega))])
    refine ExR.mk' (by rw [c4, n4]) (by rw [c5, n5]) (by rw [c6, n6]) (by rw [c7, n7]) (by rw [c9, n8]) (by rw [c12, n11]) (by rw [c14, n13]) ?_ (by rw [c13, n12]) (fun g => ?_) (fun _ => by rw [c15, n14]) (Or.inl ⟨c16, n15⟩) hps
    · rw [c11, n10', hR.pl (pd_lo (k := 1) (by omega))]
      congr 2
      split <;> omega
    · rw [n8] at g
      by_cases ka : sm p 0 h < A
      · rw [c10 ka, n9]
      · rw [if_neg ka] at g; exact absurd g (by decide)
  · by_cases e : z = s
    · exact Or.inr (by rw [e]; exact ⟨y, r, h, _, 0, p 0, 0, p, hEX⟩)
    · exact (i4 z hz).mono hz hM (fun k a c => n1 k (by omega) (by omega) (by omega)) (fun k a c d e => n1 k (by omega) (by omega) (by omega)) (fun k a c => n1 k (by omega) (by omega) (by omega)) (fun k hk => n1 _ (by omega) (by omega) (by omega))
end B3

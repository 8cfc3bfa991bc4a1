/-! Both rows: data, together -/
section D3
variable {M x y r n k h ph c q w : Nat} {F C N P Q O W N' : Nat → Int32} {v : Int32} {b : Int32} {pS hp : Nat → Prop} {p : Nat → Nat}
theorem upd_idv {j : Nat} (h1 : F j = v) : upd F j v = F := by rw [← h1]; exact upd_id
theorem EX.chg {ph' c' q' w' : Nat} (e : EX M N x y r h ph c q w p) (f1 : N' (15 + 6 * x + y) = N (15 + 6 * x + y)) (f2 : N' (147 + (4 * x + r)) = N (147 + (4 * x + r))) (f3 : ∀ k, k < h → N' (171 + 5 * (8 * (4 * x + r) + k) + 1) = N (171 + 5 * (8 * (4 * x + r) + k) + 1)) (f4 : N' (51 + 6 * x + y) = N (51 + 6 * x + y))
    (g0 : N' (1179 + 16 * x) = nI 1) (g1 : N' (1179 + 16 * x + 1) = N (1179 + 16 * x + 1)) (g2 : N' (1179 + 16 * x + 2) = N (1179 + 16 * x + 2)) (g3 : N' (1179 + 16 * x + 3) = N (1179 + 16 * x + 3)) (gp : ∀ k, k < h → N' (1179 + 16 * x + 11 + k) = N (1179 + 16 * x + 11 + k))
    (d4 : N' (1179 + 16 * x + 4) = nI ph') (d7 : N' (1179 + 16 * x + 7) = nI c') (d8 : N' (1179 + 16 * x + 8) = nI q') (d6 : N' (1179 + 16 * x + 6) = nI w') (d9 : N' (1179 + 16 * x + 9) = nI 0 ∨ N' (1179 + 16 * x + 9) = nI 1) (hph : ph' < 4) (hw : w' < 2 ^ h)
    (hl : ph' ≤ 2 → c' < h ∧ 1 ≤ q' ∧ q' ≤ 9 ∧ w' < 2 ^ c' ∧ N' (1179 + 16 * x + 5) = nI (q' + sm p (c' + 1) (h - 1 - c'))) (h2 : ph' < 2 → c' = 0 ∧ q' = p 0 ∧ N' (1179 + 16 * x + 9) = nI 1) : EX M N' x y r h ph' c' q' w' p := by
  obtain ⟨⟨-, a1, a2, a3, -, -, -, -⟩, ⟨b1, b2, b3, b4, b5, b6, -, -⟩, ⟨n, n1, n2, n3⟩, pp, -, -, -⟩ := e
  refine ⟨⟨g0, by rw [g1, a1], by rw [g2, a2], by rw [g3, a3], d4, d7, d8, d6⟩, ⟨b1, b2, by rw [f1]; exact b3, b4, b5, b6, hph, hw⟩, ⟨n, n1, n2, by rw [f2, n3]⟩, fun k hk => ?_, hl, h2, d9⟩
  obtain ⟨p1, p2, p3, p4⟩ := pp k hk
  exact ⟨by rw [gp k hk, p1], p2, p3, by rw [f3 k hk, f4]; exact p4⟩
/-- the exchange's numbers behind a place, in both rows -/
theorem ExR.mk' {C' : Nat → Int32} (a0 : C' (1179 + 16 * x) = N' (1179 + 16 * x)) (a1 : C' (1179 + 16 * x + 1) = N' (1179 + 16 * x + 1)) (a2 : C' (1179 + 16 * x + 2) = N' (1179 + 16 * x + 2)) (a3 : C' (1179 + 16 * x + 3) = N' (1179 + 16 * x + 3)) (a4 : C' (1179 + 16 * x + 4) = N' (1179 + 16 * x + 4)) (a6 : C' (1179 + 16 * x + 6) = N' (1179 + 16 * x + 6)) (a7 : C' (1179 + 16 * x + 7) = N' (1179 + 16 * x + 7)) (a10 : C' (1179 + 16 * x + 10) = N' (1179 + 16 * x + 10)) (a15 : C' (1179 + 16 * x + 15) = N' (1179 + 16 * x + 15))
    (a5 : N' (1179 + 16 * x + 4) = nI 2 → C' (1179 + 16 * x + 5) = N' (1179 + 16 * x + 5)) (a8 : N' (1179 + 16 * x + 4) ≠ nI 3 → C' (1179 + 16 * x + 8) = N' (1179 + 16 * x + 8)) (a9 : (C' (1179 + 16 * x + 9) = nI 0 ∧ N' (1179 + 16 * x + 9) = nI 1) ∨ (C' (1179 + 16 * x + 9) = nI 1 ∧ N' (1179 + 16 * x + 9) = nI 0)) (a11 : ∀ h, h ≤ 4 → N' (1179 + 16 * x + 3) = nI h → C' (1179 + 16 * x + 11) = ps N' x h) : ExR C' N' x :=
  ⟨a0, fun _ => ⟨a1, a2, a3, a4, a6, a7, a10, a15, a5, a8, a9, a11⟩⟩
noncomputable def cGone (C N : Nat → Int32) (b : Int32) (M x y : Nat) : Nat → Int32 := @ite _ (clr N b M y x) (Classical.propDecidable _) (upd C (1396 + x) (C (1396 + x) + nI 1)) (spo (hpN N b M y) x 6 0 (upd C (1396 + x) (C (1396 + x) + nI 1)))
noncomputable def mGone (N : Nat → Int32) (b : Int32) (M x y : Nat) : Nat → Int32 := @ite _ (clr N b M y x) (Classical.propDecidable _) (upd N (1396 + x) (N (1396 + x) + nI 1)) (spo (fun z => hpN N b M y z ∧ z ≠ x) x M 0 (upd N (1396 + x) (N (1396 + x) + nI 1)))
def badP (N : Nat → Int32) (b : Int32) (M x y : Nat) : Prop := ¬ clr N b M y x ∨ N (15 + 6 * x + y) < N (51 + 6 * x + y)
theorem nSpoilt_eq (hM : M ≤ 6) (hx : x < 6) : nSpoilt N b M x y = @ite _ (badP N b M x y) (Classical.propDecidable _) (upd (mGone N b M x y) (1179 + 16 * x + 9) (nI 0)) (mGone N b M x y) := by
  unfold nSpoilt nGone nBad mGone badP
  by_cases k : ¬ clr N b M y x ∨ N (15 + 6 * x + y) < N (51 + 6 * x + y)
  · rw [if_pos k, if_pos k, upd_c (by omega)]
    by_cases k1 : clr N b M y x
    · rw [if_pos k1, if_pos k1]
    · rw [if_neg k1, if_neg k1, spo_u (by omega) M 0 _ (by omega)]
  · rw [if_neg k, if_neg k]
theorem mGone_n (hM : M ≤ 6) (hk : k < 1360 ∨ 1402 ≤ k) (hx : x < 6) : mGone N b M x y k = N k := by
  unfold mGone
  split
  · rw [upd_n (by omega)]
  · rw [spo_n (by omega) M 0 _ (by omega), upd_n (by omega)]
theorem cGone_n (hk : k < 1360 ∨ 1402 ≤ k) (hx : x < 6) : cGone C N b M x y k = C k := by
  unfold cGone
  split
  · rw [upd_n (by omega)]
  · rw [spo_n (by omega) 6 0 _ (by omega), upd_n (by omega)]
theorem Rl.gone (hR : Rl M C N P Q) (hM : M ≤ 6) (hx : x < M) : Rl M (cGone C N b M x y) (mGone N b M x y) P Q := by
  have h1 : Rl M (upd C (1396 + x) (C (1396 + x) + nI 1)) (upd N (1396 + x) (N (1396 + x) + nI 1)) P Q := by
    rw [hR.pl (pd_go hM hx)]
    exact hR.u hM (Or.inr (Or.inr (Or.inr (by omega))))
  unfold cGone mGone
  by_cases k : clr N b M y x
  · rw [if_pos k, if_pos k]; exact h1
  · rw [if_neg k, if_neg k, spo_M hM (fun z q => q.1)]
    exact Rl.spoF hM hx M 0 _ _ (by omega) h1
/-- the class's step up to the place -/
theorem c_data {a : Nat} {C3 : Nat → Int32} (hI : IS M N) (hR : Rl M C N P Q) (hb : b = bv pS M) (hNb : N 1329 = b) (hx : x < M) (hy : y < M) (h3 : ∀ σ, e_X0_goPlace a x (bI (clr N b M y x)) (wC a σ (cGone C N b M x y)) = some (some none, wC a σ C3)) :
    ∀ σ, e_X0_goData a (nI x) (nI y) a x (wC a σ C) = (
      if 0 < C3 (1179 + 16 * x + 5) - nI 1 then some (some none, wC a σ (upd C3 (1179 + 16 * x + 5) (C3 (1179 + 16 * x + 5) - nI 1)))
      else bdV (e_X0_spread a (nI x) (nI y) (nI x) (nI 2) (C3 1 + nI 2) (wC a σ (upd C3 (1179 + 16 * x + 5) (C3 (1179 + 16 * x + 5) - nI 1)))) (fun σ7 =>
        if σ7.1 (2, a, x, 0) 7 = 0 then (
          let σ8 := st σ7 (2, a, x, 0) 9 (nI 5)
          let σ9 := st σ8 (2, a, x, 0) 5 (nI 3)
          some (some none, σ9))
        else (
          bdI (e_X8_isFree a y σ7) (fun v11 σ10 =>
          if v11 = 0 then (
            let σ12 := st σ10 (2, a, x, 0) 9 (nI 6)
            let σ13 := st σ12 (2, a, x, 0) 5 (nI 3)
            some (some none, σ13))
          else (
            bdV (e_X8_setOwing a y (nI x) (nI 2) σ10) (fun σ14 =>
            let σ15 := st σ14 (2, a, x, 0) 5 (nI 3)
            some (some none, σ15))))))) := by
  intro σ
  have hM := hI.2.1
  have hC : C 1329 = b := by rw [hR.pl (pd_hi (by omega))]; exact hNb
  have cx : ¬ (nI x < 0 ∨ 6 ≤ x) := ckn (by omega) (by omega)
  have cy : ¬ (nI y < 0 ∨ 6 ≤ y) := ckn (by omega) (by omega)
  have h3' := h3 σ
  unfold cGone at h3'
  rw [q_X0_goData, c_isClr hI hR.2.1 hb hC hy hx]
  dsimp only [bdI]
  rw [nI_clamp (by omega), nI_clamp (by omega), if_neg cx, if_neg cx, rC_dataPlaces (by omega), sC_dataPlaces (by omega)]
  by_cases k : clr N b M y x
  · rw [if_bI k, if_neg cx]
    rw [if_pos k] at h3'
    rw [h3']
    dsimp only [bdV]
    rw [rC_left (by omega), sC_left (by omega), rC_left (by omega), upd_e rfl]
    by_cases k2 : 0 < C3 (1179 + 16 * x + 5) - nI 1
    · rw [if_pos k2, if_pos k2]
    · rw [if_neg k2, if_neg k2, rC_time, upd_n (by omega)]
      simp only [if_neg cy]
  · rw [if_nbI k, if_neg cy, rC_hears (by omega), rC_sending]
    rw [if_neg k] at h3'
    have hh : ∀ z, z < 6 → (sn (upd C (1396 + x) (C (1396 + x) + nI 1) (1436 + y) &&& upd C (1396 + x) (C (1396 + x) + nI 1) 1329) z ↔ hpN N b M y z) := by
      intro z hz
      rw [upd_n (by omega), upd_n (by omega), hC, hR.2.1 y hy, hb, bv_and, bv_sn hM (by omega)]
      unfold hpN
      rw [bv_sn hM (by omega)]
      exact ⟨fun q => ⟨q.1, q.2.1, q.1, q.2.2⟩, fun q => ⟨q.1, q.2.1, q.2.2.2⟩⟩
    rw [q_X0_noteSpoilt, c_spoil_from (by omega) hh 6 0 _ (by omega)]
    dsimp only [bdV]
    rw [if_neg cx, h3']
    dsimp only
    rw [rC_left (by omega), sC_left (by omega), rC_left (by omega), upd_e rfl]
    by_cases k2 : 0 < C3 (1179 + 16 * x + 5) - nI 1
    · rw [if_pos k2, if_pos k2]
    · rw [if_neg k2, if_neg k2, rC_time, upd_n (by omega)]
      simp only [if_neg cy]
/-- what a slot of data comes to -/
def DataTo (b : Int32) (M x y r h w : Nat) (p : Nat → Nat) (N O W P Q N' O' W' P' Q' : Nat → Int32) : Prop :=
  (∀ k, ¬ spc k → (k < 1179 + 16 * x ∨ 1179 + 16 * x + 16 ≤ k) → (k < 1360 ∨ 1402 ≤ k) → N' k = N k) ∧
  ∃ ph' c' q' w', EX M N' x y r h ph' c' q' w' p ∧ (w' = w ∨ clr N b M y x) ∧
    ((ph' = 2 ∧ N' (1179 + 16 * x + 15) = nI 0 ∧ O' = O ∧ W' = W ∧ P' = P ∧ Q' = Q) ∨
     (ph' = 3 ∧ N' (1179 + 16 * x + 15) = nI 0 ∧ w' ≠ 0 ∧ (N (1179 + 16 * y) = 0 ∧ N (135 + y) = -1 ∧ O y = -1) ∧ O' = upd O y (nI x) ∧ W' = upd W y (nI 2) ∧ P' = upd P y (nI x) ∧ Q' = upd Q y (nI 2)) ∨
     (ph' = 3 ∧ 0 < N' (1179 + 16 * x + 15) ∧ O' = O ∧ W' = W ∧ P' = P ∧ Q' = Q))
theorem j_data {a ρ : Nat} (hI : IS M N) (hR : Rl M C N P Q) (hb : b = bv pS M) (hNb : N 1329 = b) (hx : x < M) (hE : EX M N x y r h 2 c q w p) (hρ : N (51 + 6 * x + y) = nI ρ) (hρ1 : 1 ≤ ρ) (hρ2 : ρ ≤ 3) (hu : ∀ k, k < h → ∃ u, N (171 + 5 * (8 * (4 * x + r) + k) + 1) = nI u ∧ 1 ≤ u ∧ u ≤ 9) (hr0 : N (1179 + 16 * x + 15) = nI 0)
    (hfree : (w ≠ 0 ∨ clr N b M y x) → ((N (1179 + 16 * y) = 0 ∧ Q y = 0) ↔ (N (1179 + 16 * y) = 0 ∧ N (135 + y) = -1 ∧ O y = -1))) :
    ∃ C' N' O' W' P' Q', (∀ σ, e_X0_goData a (nI x) (nI y) a x (wC a σ C) = some (some none, wC a σ C')) ∧ (∀ σ, e_X10_stepSender (nI x) (wM σ N O W b) = some (some none, wM σ N' O' W' b)) ∧ Rl M C' N' P' Q' ∧ DataTo b M x y r h w p N O W P Q N' O' W' P' Q' := by
  have hM := hI.2.1
  have hE0 := hE
  obtain ⟨⟨a0, a1, a2, a3, a4, a7, a8, a6⟩, ⟨hy, b2, b3, hr, b5, b6, -, b8⟩, ⟨n, n1, n2, n3⟩, pp, h2, -, a9⟩ := hE
  obtain ⟨hch, hq1, hq2, hwc, hl⟩ := h2 (by omega)
  obtain ⟨e0, e⟩ := hR.ex hx
  obtain ⟨e1, e2, e3, e4, e6, e7, e10, e15, e5, e8, e9, e11⟩ := e a0
  have e5 := e5 a4
  have e8 := e8 (by rw [a4]; decide)
  -- class: the place
  have hG : Rl M (cGone C N b M x y) (mGone N b M x y) P Q := hR.gone hM hx
  have cg : ∀ k, k < 1360 → cGone C N b M x y k = C k := fun k hk => cGone_n (Or.inl hk) (by omega)
  have mg : ∀ k, k < 1360 → mGone N b M x y k = N k := fun k hk => mGone_n hM (Or.inl hk) (by omega)
  have frE : ∀ k, k < h → C (171 + 5 * (8 * (4 * x + r) + k) + 1) = N (171 + 5 * (8 * (4 * x + r) + k) + 1) := fun k hk => hR.frv hx hr n1 n3 (by omega) (by omega)
  have rtE : C (51 + 6 * x + y) = N (51 + 6 * x + y) := hR.pl (pd_rt hM hx (by omega))
  have qlE : C (15 + 6 * x + y) = N (15 + 6 * x + y) := hR.pl (pd_ql hM hx (by omega))
  have hg9 : C (1179 + 16 * x + 9) = nI 0 ∨ C (1179 + 16 * x + 9) = nI 1 := by
    rcases e9 with e9 | e9
    · exact Or.inl e9.1
    · exact Or.inr e9.1
  obtain ⟨C3, c1, c2, c3, c4⟩ := c_place (a := a) (F := cGone C N b M x y) (kc := clr N b M y x) (p := p) (ρ := ρ) (u := 1) (q := q) (c := c) (w := w) (h := h) (n := n) (x := x) (y := y) (r := r) (by omega) (by omega) hr n1 (by rw [cg _ (by omega), e1, a1]) (by rw [cg _ (by omega), e2, a2]) (by rw [cg _ (by omega), hR.pl (pd_sz hM hx hr), n3]) (by rw [cg _ (by omega), rtE, hρ]) hρ1 hρ2 (by rw [cg _ (by omega), e8, a8]) hq1 hq2 (by rw [cg _ (by omega), e7, a7]) hch b6 n2 (by rw [cg _ (by omega), e6, a6]) (by rw [cg _ (by omega)]; exact hg9)
    (fun k hk => by
      rw [cg _ (by omega), cg _ (by omega), frE k hk, rtE]
      exact ⟨(pp k hk).2.2.2, hu k hk⟩)
  rw [cg _ (by omega), cg _ (by omega), cg _ (by omega), qlE, rtE] at c3 c4
  have c5 : C3 (1179 + 16 * x + 5) = nI (q + sm p (c + 1) (h - 1 - c)) := by rw [c2 _ (by omega), cg _ (by omega), e5, hl]
  have hcd := c_data hI hR hb hNb hx hy c1
  -- the reference: the place
  have hNs := nSpoilt_eq (N := N) (b := b) (x := x) (y := y) hM (by omega)
  have ns : ∀ k, k < 1360 → k ≠ 1179 + 16 * x + 9 → nSpoilt N b M x y k = N k := fun k hk hk2 => by
    rw [hNs]
    split
    · rw [upd_n hk2, mg k hk]
    · exact mg k hk
  have ns9 : nSpoilt N b M x y (1179 + 16 * x + 9) = @ite _ (badP N b M x y) (Classical.propDecidable _) (nI 0) (N (1179 + 16 * x + 9)) := by
    rw [hNs]
    by_cases kb : badP N b M x y
    · rw [if_pos kb, if_pos kb, upd_e rfl]
    · rw [if_neg kb, if_neg kb, mg _ (by omega)]
  have nsm : ∀ k, k ≠ 1179 + 16 * x + 9 → nSpoilt N b M x y k = mGone N b M x y k := fun k hk => by
    rw [hNs]
    split
    · rw [upd_n hk]
    · rfl
  obtain ⟨N4, m1, m2, m5, m3, m4⟩ := m_place (N := nSpoilt N b M x y) (x := x) (y := y) (b := b) (q := q) (c := c) (w := w) (h := h) (lf := q + sm p (c + 1) (h - 1 - c)) (p := p) (by omega) (by rw [ns _ (by omega) (by omega), a8]) hq1 hq2 (by rw [ns _ (by omega) (by omega), a7]) hch b6 (by rw [ns _ (by omega) (by omega), a3]) (by rw [ns _ (by omega) (by omega), a6]) (by rw [ns _ (by omega) (by omega), hl]) (by omega) (fun k hk => by rw [ns _ (by omega) (by omega)]; exact (pp k hk).1)
  rw [ns9] at m3 m4
  -- both behind the place
  obtain ⟨c', q', w', hc7, hn7, hc6, hn6, hn8, hc8, h9, hw', hw2, hq'⟩ : ∃ c' q' w' : Nat, C3 (1179 + 16 * x + 7) = nI c' ∧ N4 (1179 + 16 * x + 7) = nI c' ∧ C3 (1179 + 16 * x + 6) = nI w' ∧ N4 (1179 + 16 * x + 6) = nI w' ∧ N4 (1179 + 16 * x + 8) = nI q' ∧ (c' < h → C3 (1179 + 16 * x + 8) = nI q') ∧ ((C3 (1179 + 16 * x + 9) = nI 0 ∧ N4 (1179 + 16 * x + 9) = nI 1) ∨ (C3 (1179 + 16 * x + 9) = nI 1 ∧ N4 (1179 + 16 * x + 9) = nI 0)) ∧ (w' = w ∨ clr N b M y x) ∧ w' < 2 ^ h ∧ ((2 ≤ q ∧ c' = c ∧ q' = q - 1 ∧ w' < 2 ^ c') ∨ (q = 1 ∧ c' = c + 1 ∧ (c' < h → q' = p c') ∧ w' < 2 ^ c')) := by
    by_cases hq3 : 2 ≤ q
    · obtain ⟨u8, u9, u6, u7⟩ := c3 hq3
      obtain ⟨v8, v9, v6, v7⟩ := m3 hq3
      refine ⟨c, q - 1, w, u7, v7, u6, v6, v8, fun _ => u8, ?_, Or.inl rfl, b8, Or.inl ⟨hq3, rfl, rfl, hwc⟩⟩
      by_cases kb : badP N b M x y
      · rw [u9, v9, if_pos kb]
        refine Or.inr ⟨?_, rfl⟩
        unfold badP at kb
        rw [if_pos kb]
      · rw [u9, v9, if_neg kb]
        unfold badP at kb
        rw [if_neg kb]
        exact e9
    · have hq4 : q = 1 := by omega
      obtain ⟨u7, u9, u6, u8⟩ := c4 hq4
      obtain ⟨v7, v9, v6, v8⟩ := m4 hq4
      have hpw : 2 ^ (c + 1) = 2 * 2 ^ c := by rw [Nat.pow_succ]; omega
      have hle : 2 ^ (c + 1) ≤ 2 ^ h := Nat.pow_le_pow_right (by omega) (by omega)
      by_cases kb : badP N b M x y
      · rw [if_pos kb, if_neg n01] at v6
        unfold badP at kb
        rw [if_pos (Or.inl kb)] at u6
        exact ⟨c + 1, _, w, u7, v7, u6, v6, v8, fun q1 => by rw [u8 q1, if_pos q1], Or.inl ⟨u9, v9⟩, Or.inl rfl, b8, Or.inr ⟨hq4, rfl, fun q1 => if_pos q1, by omega⟩⟩
      · rw [if_neg kb] at v6
        unfold badP at kb
        rcases e9 with ⟨z1, z2⟩ | ⟨z1, z2⟩
        · rw [z2, if_pos rfl, or_pow hwc (by omega)] at v6
          rw [if_neg (fun q => q.elim kb (fun q => by rw [z1] at q; exact n01 q)), or_pow hwc (by omega)] at u6
          exact ⟨c + 1, _, 2 ^ c + w, u7, v7, u6, v6, v8, fun q1 => by rw [u8 q1, if_pos q1], Or.inl ⟨u9, v9⟩, Or.inr (Classical.not_not.mp (fun q => kb (Or.inl q))), by omega, Or.inr ⟨hq4, rfl, fun q1 => if_pos q1, by omega⟩⟩
        · rw [z2, if_neg n01] at v6
          rw [if_pos (Or.inr z1)] at u6
          exact ⟨c + 1, _, w, u7, v7, u6, v6, v8, fun q1 => by rw [u8 q1, if_pos q1], Or.inl ⟨u9, v9⟩, Or.inl rfl, b8, Or.inr ⟨hq4, rfl, fun q1 => if_pos q1, by omega⟩⟩
  have hw64 : w' < 64 := by
    have : 2 ^ h ≤ 2 ^ 4 := Nat.pow_le_pow_right (by omega) b6
    omega
  have lfN : q + sm p (c + 1) (h - 1 - c) < 2 ^ 31 := by
    have : ∀ d c, (∀ k, c ≤ k → k < c + d → p k ≤ 9) → sm p c d ≤ 9 * d := by
      intro d
      induction d with
      | zero => intro c _; exact Nat.le_refl _
      | succ d ih =>
        intro c hh
        have a1 := ih (c + 1) (fun k u v => hh k (by omega) (by omega))
        have a2 := hh c (Nat.le_refl _) (by omega)
        show p c + sm p (c + 1) d ≤ _
        omega
    have := this (h - 1 - c) (c + 1) (fun k u v => (pp k (by omega)).2.2.1)
    omega
  generalize hlf : q + sm p (c + 1) (h - 1 - c) = lf at *
  -- cells of both rows behind the place
  have n4 : ∀ k, k < 1179 + 16 * x + 5 ∨ 1179 + 16 * x + 9 < k → N4 k = mGone N b M x y k := fun k hk => by rw [m2 k hk, nsm k (by omega)]
  have n4' : ∀ k, k < 1179 + 16 * x + 5 ∨ 1179 + 16 * x + 9 < k → (k < 1360 ∨ 1402 ≤ k) → N4 k = N k := fun k hk hk2 => by rw [n4 k hk, mGone_n hM hk2 (by omega)]
  have c34 : ∀ k, k < 1179 + 16 * x + 6 ∨ 1179 + 16 * x + 9 < k → (k < 1360 ∨ 1402 ≤ k) → C3 k = C k := fun k hk hk2 => by rw [c2 k hk, cGone_n hk2 (by omega)]
  have c4d : C3 (1179 + 16 * x + 5) - nI 1 = nI (lf - 1) := by rw [c5, pk_sub (by omega)]
  rw [c4d] at hcd
  have hps : ∀ h', h' ≤ 4 → N4 (1179 + 16 * x + 3) = nI h' → C3 (1179 + 16 * x + 11) = ps N4 x h' := fun h' g1 g2 => by
    rw [c34 _ (by omega) (by omega), e11 h' g1 (by rw [← n4' _ (by omega) (by omega)]; exact g2)]
    exact (ps_c fun k hk => n4' _ (by omega) (by omega)).symm
  by_cases hlf2 : 2 ≤ lf
  · -- more places are left
    have hch' : c' < h ∧ 1 ≤ q' ∧ q' ≤ 9 ∧ w' < 2 ^ c' ∧ lf - 1 = q' + sm p (c' + 1) (h - 1 - c') := by
      rcases hq' with ⟨g1, rfl, rfl, g2⟩ | ⟨g1, rfl, g3, g2⟩
      · exact ⟨hch, by omega, by omega, g2, by omega⟩
      · have hd : ∃ d, h - 1 - c = d + 1 := by
          refine ⟨h - 1 - c - 1, ?_⟩
          have : h - 1 - c ≠ 0 := fun q0 => by
            rw [q0] at hlf
            have : sm p (c + 1) 0 = 0 := rfl
            omega
          omega
        obtain ⟨d, hd⟩ := hd
        have hc1 : c + 1 < h := by omega
        obtain ⟨-, z2, z3, -⟩ := pp (c + 1) hc1
        rw [g3 hc1]
        refine ⟨hc1, z2, z3, g2, ?_⟩
        rw [hd] at hlf
        have : sm p (c + 1) (d + 1) = p (c + 1) + sm p (c + 1 + 1) d := rfl
        rw [show h - 1 - (c + 1) = d from by omega]
        omega
    refine ⟨upd C3 (1179 + 16 * x + 5) (nI (lf - 1)), N4, O, W, P, Q, fun σ => ?_, fun σ => ?_, ?_, ?_⟩
    · rw [hcd σ, if_pos (by rw [nI_0lt (by omega)]; omega)]
    · rw [me_data hI hx hy a1 a4, m1, m_end_go (by omega) m5 (by omega) (by omega)]
      rfl
    · refine hG.X hM hx ?_ (fun k hk => by rw [upd_n (by omega), c2 k (by omega)]) (fun k hk => n4 k (by omega))
      refine ExR.mk' ?_ ?_ ?_ ?_ ?_ ?_ ?_ ?_ ?_ ?_ ?_ ?_ ?_
      · rw [upd_n (by omega), c34 _ (by omega) (by omega), n4' _ (by omega) (by omega), e0]
      · rw [upd_n (by omega), c34 _ (by omega) (by omega), n4' _ (by omega) (by omega), e1]
      · rw [upd_n (by omega), c34 _ (by omega) (by omega), n4' _ (by omega) (by omega), e2]
      · rw [upd_n (by omega), c34 _ (by omega) (by omega), n4' _ (by omega) (by omega), e3]
      · rw [upd_n (by omega), c34 _ (by omega) (by omega), n4' _ (by omega) (by omega), e4]
      · rw [upd_n (by omega), hc6, hn6]
      · rw [upd_n (by omega), hc7, hn7]
      · rw [upd_n (by omega), c34 _ (by omega) (by omega), n4' _ (by omega) (by omega), e10]
      · rw [upd_n (by omega), c34 _ (by omega) (by omega), n4' _ (by omega) (by omega), e15]
      · intro _; rw [upd_e rfl, m5]
      · intro _; rw [upd_n (by omega), hc8 hch'.1, hn8]
      · rw [upd_n (by omega)]; exact h9
      · intro h' g1 g2; rw [upd_n (by omega)]; exact hps h' g1 g2
    · refine ⟨fun k k1 k2 k3 => n4' k (by omega) k3, 2, c', q', w', hE0.chg (n4' _ (by omega) (by omega)) (n4' _ (by omega) (by omega)) (fun k hk => n4' _ (by omega) (by omega)) (n4' _ (by omega) (by omega)) (by rw [n4' _ (by omega) (by omega), a0]) (n4' _ (by omega) (by omega)) (n4' _ (by omega) (by omega)) (n4' _ (by omega) (by omega)) (fun k hk => n4' _ (by omega) (by omega)) (by rw [n4' _ (by omega) (by omega), a4]) hn7 hn8 hn6 ?_ (by omega) hw2 (fun _ => ⟨hch'.1, hch'.2.1, hch'.2.2.1, hch'.2.2.2.1, by rw [m5, hch'.2.2.2.2]⟩) (fun q1 => by omega), hw', Or.inl ⟨rfl, by rw [n4' _ (by omega) (by omega), hr0], rfl, rfl, rfl, rfl⟩⟩
      rcases h9 with g | g
      · exact Or.inr g.2
      · exact Or.inl g.2
  · -- it was the last one
    have hlf1 : lf = 1 := by omega
    subst hlf1
    have hn5 : N4 (1179 + 16 * x + 5) = nI 0 := m5
    have hn4p : N4 (1179 + 16 * x + 4) = nI 2 := by rw [n4' _ (by omega) (by omega), a4]
    have hN40 : N4 0 = nI M := by rw [n4' _ (by omega) (by omega)]; exact hI.1
    have hcl : (fun z => clr N4 b M z x) = (fun z => clr N b M z x) ∨ True := Or.inr trivial
    -- with its end told
    have hX : ∀ f, Rl M (upd (upd (upd C3 (1179 + 16 * x + 5) (nI 0)) (1179 + 16 * x + 15) f) (1179 + 16 * x + 4) (nI 3)) (upd (upd N4 (1179 + 16 * x + 15) f) (1179 + 16 * x + 4) (nI 3)) P Q := by
      intro f
      refine hG.X hM hx ?_ (fun k hk => by rw [upd_n (by omega), upd_n (by omega), upd_n (by omega), c2 k (by omega)]) (fun k hk => by rw [upd_n (by omega), upd_n (by omega), n4 k (by omega)])
      refine ExR.mk' ?_ ?_ ?_ ?_ ?_ ?_ ?_ ?_ ?_ ?_ ?_ ?_ ?_
      · rw [upd_n (by omega), upd_n (by omega), upd_n (by omega), upd_n (by omega), upd_n (by omega), c34 _ (by omega) (by omega), n4' _ (by omega) (by omega), e0]
      · rw [upd_n (by omega), upd_n (by omega), upd_n (by omega), upd_n (by omega), upd_n (by omega), c34 _ (by omega) (by omega), n4' _ (by omega) (by omega), e1]
      · rw [upd_n (by omega), upd_n (by omega), upd_n (by omega), upd_n (by omega), upd_n (by omega), c34 _ (by omega) (by omega), n4' _ (by omega) (by omega), e2]
      · rw [upd_n (by omega), upd_n (by omega), upd_n (by omega), upd_n (by omega), upd_n (by omega), c34 _ (by omega) (by omega), n4' _ (by omega) (by omega), e3]
      · rw [upd_e rfl, upd_e rfl]
      · rw [upd_n (by omega), upd_n (by omega), upd_n (by omega), upd_n (by omega), upd_n (by omega), hc6, hn6]
      · rw [upd_n (by omega), upd_n (by omega), upd_n (by omega), upd_n (by omega), upd_n (by omega), hc7, hn7]
      · rw [upd_n (by omega), upd_n (by omega), upd_n (by omega), upd_n (by omega), upd_n (by omega), c34 _ (by omega) (by omega), n4' _ (by omega) (by omega), e10]
      · rw [upd_n (by omega), upd_e rfl, upd_n (by omega), upd_e rfl]
      · intro g; rw [upd_e rfl] at g; exact absurd g (by decide)
      · intro g; rw [upd_e rfl] at g; exact absurd rfl g
      · rw [upd_n (by omega), upd_n (by omega), upd_n (by omega), upd_n (by omega), upd_n (by omega)]; exact h9
      · intro h' g1 g2
        rw [upd_n (by omega), upd_n (by omega)] at g2
        rw [upd_n (by omega), upd_n (by omega), upd_n (by omega), hps h' g1 g2]
        exact (ps_c fun k hk => by rw [upd_n (by omega), upd_n (by omega)]).symm
    have hsp : ∀ f, Rl M (upd (upd (spV (fun z => clr N b M z x) (nI y) (N 1 + nI 2) x (nI 2) M 0 (upd C3 (1179 + 16 * x + 5) (nI 0))) (1179 + 16 * x + 15) f) (1179 + 16 * x + 4) (nI 3)) (upd (upd (spV (fun z => clr N b M z x) (nI y) (N 1 + nI 2) x (nI 2) M 0 N4) (1179 + 16 * x + 15) f) (1179 + 16 * x + 4) (nI 3)) P Q := by
      intro f
      have := (hX f).sp (cl := fun z => clr N b M z x) (but := nI y) (e := N 1 + nI 2) (sd := x) (stp := nI 2) hM
      rw [spV_u (by unfold spc; omega) M 0 (upd (upd C3 (1179 + 16 * x + 5) (nI 0)) (1179 + 16 * x + 15) f) (by omega), spV_u (by unfold spc; omega) M 0 (upd C3 (1179 + 16 * x + 5) (nI 0)) (by omega), spV_u (by unfold spc; omega) M 0 (upd N4 (1179 + 16 * x + 15) f) (by omega), spV_u (by unfold spc; omega) M 0 N4 (by omega)] at this
      exact this
    have hN41 : N4 1 = N 1 := n4' _ (by omega) (by omega)
    have hspN : spV (fun z => clr N4 b M z x) (nI y) (N4 1 + nI 2) x (nI 2) M 0 N4 = spV (fun z => clr N b M z x) (nI y) (N 1 + nI 2) x (nI 2) M 0 N4 := by
      rw [hN41, ← nSp_e hM (by omega) (by omega) hn4p, nSp_eq (N0 := N) hM (by omega) (by omega) M 0 N4 (by omega) hn4p (fun k u v => n4' _ (by omega) (by omega))]
    have hmend := fun (σ : mS) (O W : Nat → Int32) => m_end (b := b) (σ := σ) (O := O) (W := W) hM hN40 hx hy hn5 hn4p hn6 hw64 hspN.symm
    have hC31 : C3 1 = N 1 := by rw [c34 _ (by omega) (by omega), hR.pl (pd_lo (by omega))]
    have hN1 : ∀ k, ¬ spc k → spV (fun z => clr N b M z x) (nI y) (N 1 + nI 2) x (nI 2) M 0 N4 k = N4 k := fun k hk => spV_n hk M 0 N4 (by omega)
    have hC1 : ∀ k, ¬ spc k → spV (fun z => clr N b M z x) (nI y) (N 1 + nI 2) x (nI 2) M 0 (upd C3 (1179 + 16 * x + 5) (nI 0)) k = upd C3 (1179 + 16 * x + 5) (nI 0) k := fun k hk => spV_n hk M 0 _ (by omega)
    have hcs : ∀ σ, e_X0_spread a (nI x) (nI y) (nI x) (nI 2) (C3 1 + nI 2) (wC a σ (upd C3 (1179 + 16 * x + 5) (nI 0))) = some (some none, wC a σ (spV (fun z => clr N b M z x) (nI y) (N 1 + nI 2) x (nI 2) M 0 (upd C3 (1179 + 16 * x + 5) (nI 0)))) := fun σ => by
      rw [hC31, c_spread hI hR.2.1 hb hx hx (by rw [upd_n (by omega), c34 _ (by omega) (by omega), hR.pl (pd_lo (by omega))]; exact hI.1) (by rw [upd_n (by omega), c34 _ (by omega) (by omega), hR.pl (pd_hi (by omega))]; exact hNb) (fun z hz => by rw [upd_n (by omega), c34 _ (by omega) (by omega)])]
    have hEX : ∀ f, EX M (upd (upd (spV (fun z => clr N b M z x) (nI y) (N 1 + nI 2) x (nI 2) M 0 N4) (1179 + 16 * x + 15) f) (1179 + 16 * x + 4) (nI 3)) x y r h 3 c' q' w' p := by
      intro f
      have g : ∀ k, ¬ spc k → k ≠ 1179 + 16 * x + 15 → k ≠ 1179 + 16 * x + 4 → upd (upd (spV (fun z => clr N b M z x) (nI y) (N 1 + nI 2) x (nI 2) M 0 N4) (1179 + 16 * x + 15) f) (1179 + 16 * x + 4) (nI 3) k = N4 k := fun k k1 k2 k3 => by rw [upd_n k3, upd_n k2, hN1 k k1]
      refine hE0.chg ?_ ?_ (fun k hk => ?_) ?_ ?_ ?_ ?_ ?_ (fun k hk => ?_) (upd_e rfl) ?_ ?_ ?_ ?_ (by omega) hw2 (fun q1 => by omega) (fun q1 => by omega)
      · rw [g _ (by unfold spc; omega) (by omega) (by omega), n4' _ (by omega) (by omega)]
      · rw [g _ (by unfold spc; omega) (by omega) (by omega), n4' _ (by omega) (by omega)]
      · rw [g _ (by unfold spc; omega) (by omega) (by omega), n4' _ (by omega) (by omega)]
      · rw [g _ (by unfold spc; omega) (by omega) (by omega), n4' _ (by omega) (by omega)]
      · rw [g _ (by unfold spc; omega) (by omega) (by omega), n4' _ (by omega) (by omega), a0]
      · rw [g _ (by unfold spc; omega) (by omega) (by omega), n4' _ (by omega) (by omega)]
      · rw [g _ (by unfold spc; omega) (by omega) (by omega), n4' _ (by omega) (by omega)]
      · rw [g _ (by unfold spc; omega) (by omega) (by omega), n4' _ (by omega) (by omega)]
      · rw [g _ (by unfold spc; omega) (by omega) (by omega), n4' _ (by omega) (by omega)]
      · rw [g _ (by unfold spc; omega) (by omega) (by omega), hn7]
      · rw [g _ (by unfold spc; omega) (by omega) (by omega), hn8]
      · rw [g _ (by unfold spc; omega) (by omega) (by omega), hn6]
      · rw [g _ (by unfold spc; omega) (by omega) (by omega)]
        rcases h9 with g | g
        · exact Or.inr g.2
        · exact Or.inl g.2
    have hfrm : ∀ f k, ¬ spc k → (k < 1179 + 16 * x ∨ 1179 + 16 * x + 16 ≤ k) → (k < 1360 ∨ 1402 ≤ k) → upd (upd (spV (fun z => clr N b M z x) (nI y) (N 1 + nI 2) x (nI 2) M 0 N4) (1179 + 16 * x + 15) f) (1179 + 16 * x + 4) (nI 3) k = N k := fun f k k1 k2 k3 => by rw [upd_n (by omega), upd_n (by omega), hN1 k k1, n4' k (by omega) k3]
    have h15 : ∀ f, upd (upd (spV (fun z => clr N b M z x) (nI y) (N 1 + nI 2) x (nI 2) M 0 N4) (1179 + 16 * x + 15) f) (1179 + 16 * x + 4) (nI 3) (1179 + 16 * x + 15) = f := fun f => by rw [upd_n (by omega), upd_e rfl]
    have hcw : spV (fun z => clr N b M z x) (nI y) (N 1 + nI 2) x (nI 2) M 0 (upd C3 (1179 + 16 * x + 5) (nI 0)) (1179 + 16 * x + 6) = nI w' := by rw [hC1 _ (by unfold spc; omega), upd_n (by omega), hc6]
    have hme : ∀ σ, e_X10_stepSender (nI x) (wM σ N O W b) = bdV (b_X10_stepData_307 (nI x) (nI (1179 + 16 * x)) (nI y) (wM σ N4 O W b)) (fun σ12 => some (some none, σ12)) := fun σ => by rw [me_data hI hx hy a1 a4, m1]
    have hcd0 : ∀ σ, e_X0_goData a (nI x) (nI y) a x (wC a σ C) = _ := hcd
    by_cases kw : w' = 0
    · refine ⟨_, _, O, W, P, Q, fun σ => ?_, fun σ => ?_, hsp (nI 5), hfrm _, 3, c', q', w', hEX _, hw', Or.inr (Or.inr ⟨rfl, by rw [h15]; decide, rfl, rfl, rfl, rfl⟩)⟩
      · rw [hcd σ, if_neg (by decide), hcs]
        dsimp only [bdV]
        rw [rC_whole (by omega), hcw, if_pos (by rw [kw]; exact n00), sC_failure (by omega), sC_step (by omega)]
      · rw [hme, (hmend σ O W).1 kw]
        rfl
    · have kf : w ≠ 0 ∨ clr N b M y x := by
        rcases hw' with g | g
        · exact Or.inl (by omega)
        · exact Or.inr g
      have hfr := hfree kf
      have hnf : (N4 (1179 + 16 * y) = 0 ∧ N4 (135 + y) = -1 ∧ O y = -1) ↔ (N (1179 + 16 * y) = 0 ∧ N (135 + y) = -1 ∧ O y = -1) := by
        rw [n4' (1179 + 16 * y) (by omega) (by omega), n4' (135 + y) (by omega) (by omega)]
      have hcf : (spV (fun z => clr N b M z x) (nI y) (N 1 + nI 2) x (nI 2) M 0 (upd C3 (1179 + 16 * x + 5) (nI 0)) (1179 + 16 * y) = 0 ∧ spV (fun z => clr N b M z x) (nI y) (N 1 + nI 2) x (nI 2) M 0 (upd C3 (1179 + 16 * x + 5) (nI 0)) (141 + y) = 0) ↔ (N (1179 + 16 * y) = 0 ∧ Q y = 0) := by
        rw [hC1 _ (by unfold spc; omega), hC1 _ (by unfold spc; omega), upd_n (by omega), upd_n (by omega), c34 _ (by omega) (by omega), c34 _ (by omega) (by omega), hR.on hy, (hR.2.2.2.2 y hy).2]
      by_cases kfr : N (1179 + 16 * y) = 0 ∧ N (135 + y) = -1 ∧ O y = -1
      · have hD := (hsp (nI 0)).D2 (p := nI x) (q := nI 2) hM hy
        refine ⟨_, _, upd O y (nI x), upd W y (nI 2), upd P y (nI x), upd Q y (nI 2), fun σ => ?_, fun σ => ?_, hD, hfrm _, 3, c', q', w', hEX _, hw', Or.inr (Or.inl ⟨rfl, h15 _, kw, kfr, rfl, rfl, rfl, rfl⟩)⟩
        · rw [hcd σ, if_neg (by decide), hcs]
          dsimp only [bdV]
          rw [rC_whole (by omega), hcw, if_neg (nI_ne0 (by omega) (by omega)), c_isFree (by omega)]
          dsimp only [bdI]
          rw [if_bI (hcf.mpr (hfr.mpr kfr)), c_setOwing (by omega)]
          dsimp only
          rw [sC_step (by omega)]
          have e15' : spV (fun z => clr N b M z x) (nI y) (N 1 + nI 2) x (nI 2) M 0 (upd C3 (1179 + 16 * x + 5) (nI 0)) (1179 + 16 * x + 15) = nI 0 := by
            rw [hC1 _ (by unfold spc; omega), upd_n (by omega), c34 _ (by omega) (by omega), e15, hr0]
          rw [show upd (spV (fun z => clr N b M z x) (nI y) (N 1 + nI 2) x (nI 2) M 0 (upd C3 (1179 + 16 * x + 5) (nI 0))) (1179 + 16 * x + 15) (nI 0) = spV (fun z => clr N b M z x) (nI y) (N 1 + nI 2) x (nI 2) M 0 (upd C3 (1179 + 16 * x + 5) (nI 0)) from upd_idv e15']
          rw [upd_c (k := 141 + y) (j := 1179 + 16 * x + 4) (by omega), upd_c (k := 135 + y) (j := 1179 + 16 * x + 4) (by omega)]
        · rw [hme, (hmend σ O W).2.2 kw (hnf.mpr kfr)]
          rfl
      · refine ⟨_, _, O, W, P, Q, fun σ => ?_, fun σ => ?_, hsp (nI 6), hfrm _, 3, c', q', w', hEX _, hw', Or.inr (Or.inr ⟨rfl, by rw [h15]; decide, rfl, rfl, rfl, rfl⟩)⟩
        · rw [hcd σ, if_neg (by decide), hcs]
          dsimp only [bdV]
          rw [rC_whole (by omega), hcw, if_neg (nI_ne0 (by omega) (by omega)), c_isFree (by omega)]
          dsimp only [bdI]
          rw [if_nbI (fun g => kfr (hfr.mp (hcf.mp g))), sC_failure (by omega), sC_step (by omega)]
        · rw [hme, (hmend σ O W).2.1 kw (fun g => kfr (hnf.mp g))]
          rfl
end D3

/-! Frames that come, counts that are drawn: both rows -/
section PT
variable {M K K' s z r i n m k a b x y t h w lo sz la u : Nat} {σ τ σ' σ'' σ1 σ2 : mS} {A C D N N' C' O W P Q U F G : Nat → Int32} {o o' : mO} {v p p1 p2 p3 p4 mk : Int32} {S S' : mO → Prop} {l : List Int64}
theorem wM_sF : wM σ F (σ.1 (34, 0, 0, 0)) (σ.1 (35, 0, 0, 0)) (σ.1 (10, 0, 0, 0) 12) = sF σ (30, 0, 0, 0) F := by
  refine Prod.ext ?_ rfl
  funext o i
  show (wM σ F (σ.1 (34, 0, 0, 0)) (σ.1 (35, 0, 0, 0)) (σ.1 (10, 0, 0, 0) 12)).1 o i = (if o = (30, 0, 0, 0) then F i else σ.1 o i)
  by_cases h : o = (30, 0, 0, 0)
  · rw [if_pos h, h]
    exact wM_N
  · rw [if_neg h]
    have e := congrArg (fun t : mS => t.1 o i) (wM_self σ)
    refine Eq.trans ?_ e
    simp only [wM]
    rw [if_neg h, if_neg h]
/-- an offer that may be done -/
def OfOk (M : Nat) (N : Nat → Int32) (p1 p2 p3 p4 : Int32) : Prop := ∃ x r y u n, p1 = nI x ∧ p2 = nI r ∧ p3 = nI y ∧ p4 = nI u ∧ x < M ∧ r < 4 ∧ y < M ∧ y ≠ x ∧ 0 < N (15 + 6 * x + y) ∧ 1 ≤ u ∧ u ≤ 9 ∧ n < 8 ∧ N (147 + (4 * x + r)) = nI n
def ofG (M : Nat) (p1 p2 p3 p4 : Int32) : Prop := isS M p1 ∧ isS 4 p2 ∧ isS M p3 ∧ p1 ≠ p3 ∧ (¬ p4 < nI 1 ∧ ¬ nI 9 < p4)
theorem c_why_no (hd : Hd a σ C) (h0 : C 0 = nI M) (hM : M ≤ 6) (h : ¬ ofG M p1 p2 p3 p4) : e_X0_whyNotOffer a p1 p2 p3 p4 σ = some (some (some (.inl (-1))), σ) := by
  rw [q_X0_whyNotOffer, hd.rd ix_many, h0]
  by_cases h1 : isS M p1
  · obtain ⟨x, hx, rfl⟩ := h1
    have h1 : isS M (nI x) := ⟨x, hx, rfl⟩
    rw [if_neg (nI_pos (by omega)), if_pos (nI_lt hx (by omega))]
    by_cases h3 : isS M p3
    · obtain ⟨y, hy, rfl⟩ := h3
      have h3 : isS M (nI y) := ⟨y, hy, rfl⟩
      rw [if_neg (nI_pos (by omega)), if_pos (nI_lt hy (by omega))]
      by_cases h4 : nI x = nI y
      · rw [if_pos h4]
      · rw [if_neg h4, c_isRk]
        dsimp only [bdI]
        by_cases h2 : isS 4 p2
        · rw [if_bI h2]
          by_cases h5 : p4 < nI 1
          · rw [if_pos h5]
          · rw [if_neg h5, if_pos (Classical.byContradiction fun q => h ⟨h1, h2, h3, h4, h5, q⟩)]
        · rw [if_nbI h2]
    · rcases nS_cases' (k := M) (by omega) h3 with h5 | ⟨h5, h6⟩
      · rw [if_pos h5]
      · rw [if_neg h5, if_neg h6]
  · rcases nS_cases' (k := M) (by omega) h1 with h5 | ⟨h5, h6⟩
    · rw [if_pos h5]
    · rw [if_neg h5, if_neg h6]
theorem m_why_no (hN0 : τ.1 (30, 0, 0, 0) 0 = nI M) (hM : M ≤ 6) (h : ¬ ofG M p1 p2 p3 p4) : e_X10_refusesOffer p1 p2 p3 p4 τ = some (some (some (.inl (-1))), τ) := by
  rw [q_X10_refusesOffer, m_isSt hN0 hM]
  dsimp only [bdI]
  by_cases h1 : isS M p1
  · rw [if_bI h1, m_isRk]
    dsimp only
    by_cases h2 : isS 4 p2
    · rw [if_bI h2, m_isSt hN0 hM]
      dsimp only
      by_cases h3 : isS M p3
      · rw [if_bI h3]
        by_cases h4 : p1 = p3
        · rw [if_pos h4]
        · rw [if_neg h4, m_in]
          dsimp only
          rw [if_nbI (fun q => h ⟨h1, h2, h3, h4, q⟩)]
      · rw [if_nbI h3]
    · rw [if_nbI h2]
  · rw [if_nbI h1]
theorem j_why (hd : Hd a σ C) (hV : IV M K N) (hR : Rl M C N P Q) : ∃ v, e_X0_whyNotOffer a p1 p2 p3 p4 σ = some (some (some (.inl v)), σ) ∧ (∀ τ : mS, τ.1 (30, 0, 0, 0) = N → e_X10_refusesOffer p1 p2 p3 p4 τ = some (some (some (.inl v)), τ)) ∧ ((v < 0 ∧ ¬ v = 0) ∨ (v = nI 0 ∧ OfOk M N p1 p2 p3 p4)) := by
  have hM := hV.1.2.1
  have hN0 := hV.1.1
  have h0 : C 0 = nI M := (hR.pl (pd_lo (by omega))).trans hN0
  by_cases hg : ofG M p1 p2 p3 p4
  · have hg' := hg
    obtain ⟨h1, h2, h3, h4, h5⟩ := hg
    have h1' := h1
    obtain ⟨x, hx, rfl⟩ := h1'
    have h2' := h2
    obtain ⟨r, hr, rfl⟩ := h2'
    have h3' := h3
    obtain ⟨y, hy, rfl⟩ := h3'
    have hyx : y ≠ x := fun e => h4 (by rw [e])
    obtain ⟨n, n1, n2, -⟩ := hV.2.2.1 x r hx hr
    have csz : C (147 + (4 * x + r)) = nI n := (hR.pl (pd_sz hM hx hr)).trans n2
    have cs : e_X0_whyNotOffer a (nI x) (nI r) (nI y) p4 σ = if 0 < N (15 + 6 * x + y) then (if nI n < nI 8 then some (some (some (.inl (nI 0))), σ) else some (some (some (.inl (-2))), σ)) else some (some (some (.inl (-3))), σ) := by
      rw [q_X0_whyNotOffer, hd.rd ix_many, h0, if_neg (nI_pos (by omega)), if_pos (nI_lt hx (by omega)), if_neg (nI_pos (by omega)), if_pos (nI_lt hy (by omega)), if_neg h4, c_isRk]
      dsimp only [bdI]
      rw [if_bI h2, if_neg h5.1, if_neg h5.2, c_hear hd h0 hM (hR.2.1 x hx) hx hy]
      dsimp only
      by_cases g : 0 < N (15 + 6 * x + y)
      · rw [if_bI g, if_pos g, if_neg (nI_in (by omega) (by omega)), if_neg (nI_in (by omega) (by omega)), nI_clamp (by omega), nI_clamp (by omega), hd.rd (ix_size (by omega) hr), csz]
      · rw [if_nbI g, if_neg g]
    have ms : ∀ τ : mS, τ.1 (30, 0, 0, 0) = N → e_X10_refusesOffer (nI x) (nI r) (nI y) p4 τ = if 0 < N (15 + 6 * x + y) then (if nI n = nI 8 then some (some (some (.inl (-2))), τ) else some (some (some (.inl (nI 0))), τ)) else some (some (some (.inl (-3))), τ) := fun τ hτ => by
      rw [q_X10_refusesOffer, m_isSt (by rw [hτ]; exact hN0) hM]
      dsimp only [bdI]
      rw [if_bI h1, m_isRk]
      dsimp only
      rw [if_bI h2, m_isSt (by rw [hτ]; exact hN0) hM]
      dsimp only
      rw [if_bI h3, if_neg h4, m_in]
      dsimp only
      rw [if_bI h5, M_h (by omega) (by omega), hτ]
      dsimp only
      by_cases g : 0 < N (15 + 6 * x + y)
      · rw [if_bI g, if_pos g, r_at]
        dsimp only
        rw [nI_add, if_neg (nI_in (by omega) (by omega)), nI_clamp (by omega), hτ, n2]
      · rw [if_nbI g, if_neg g]
    by_cases g : 0 < N (15 + 6 * x + y)
    · by_cases g2 : n < 8
      · refine ⟨nI 0, ?_, fun τ hτ => ?_, Or.inr ⟨rfl, ?_⟩⟩
        · rw [cs, if_pos g, if_pos (nI_lt g2 (by omega))]
        · rw [ms τ hτ, if_pos g, if_neg (fun e => by have := nI_inj (by omega) (by omega) e; omega)]
        · obtain ⟨j, hj, rfl⟩ := (in_S2 (k := 9) (by omega)).mp (⟨fun q => h5.1 (by rw [i32_lt, nI_toInt (by omega)] at q ⊢; omega), h5.2⟩ : ¬ p4 < nI 0 ∧ ¬ nI 9 < p4)
          have h6 : ¬ nI j < nI 1 := h5.1
          rw [nI_ltI (by omega) (by omega)] at h6
          exact ⟨x, r, y, j, n, rfl, rfl, rfl, rfl, hx, hr, hy, hyx, g, by omega, by omega, g2, n2⟩
      · have g3 : n = 8 := by omega
        refine ⟨-2, ?_, fun τ hτ => ?_, Or.inl ⟨by decide, by decide⟩⟩
        · rw [cs, if_pos g, if_neg (nI_nlt (by omega) (by omega))]
        · rw [ms τ hτ, if_pos g, if_pos (by rw [g3])]
    · refine ⟨-3, ?_, fun τ hτ => ?_, Or.inl ⟨by decide, by decide⟩⟩
      · rw [cs, if_neg g]
      · rw [ms τ hτ, if_neg g]
  · exact ⟨-1, c_why_no hd h0 hM hg, fun τ hτ => m_why_no (by rw [hτ]; exact hN0) hM hg, Or.inl ⟨by decide, by decide⟩⟩
theorem nPut_n {to uu tt : Int32} (h1 : k ≠ 147 + (4 * s + r)) (h2 : k < 171 + 5 * (8 * (4 * s + r) + n) ∨ 171 + 5 * (8 * (4 * s + r) + n) + 5 ≤ k) : nPut N s r n to uu tt mk k = N k := by
  unfold nPut
  rw [upd_n h1, upd_n (by omega), upd_n (by omega), upd_n (by omega), upd_n (by omega), upd_n (by omega)]
theorem nPut_sz {to uu tt : Int32} : nPut N s r n to uu tt mk (147 + (4 * s + r)) = nI (n + 1) := upd_e rfl
theorem nPut_f {to uu tt : Int32} (hs : s < 6) (hr : r < 4) : nPut N s r n to uu tt mk (171 + 5 * (8 * (4 * s + r) + n)) = to ∧ nPut N s r n to uu tt mk (171 + 5 * (8 * (4 * s + r) + n) + 1) = uu ∧ nPut N s r n to uu tt mk (171 + 5 * (8 * (4 * s + r) + n) + 4) = mk := by
  unfold nPut
  refine ⟨?_, ?_, ?_⟩
  · rw [upd_n (by omega), upd_n (by omega), upd_n (by omega), upd_n (by omega), upd_n (by omega), upd_e rfl]
  · rw [upd_n (by omega), upd_n (by omega), upd_n (by omega), upd_n (by omega), upd_e rfl]
  · rw [upd_n (by omega), upd_e rfl]
theorem nPut_new {to uu tt : Int32} {j : Nat} (hj : j < 5) (hs : s < 6) (hr : r < 4) : nPut C s r n to uu tt mk (171 + 5 * (8 * (4 * s + r) + n) + j) = nPut N s r n to uu tt mk (171 + 5 * (8 * (4 * s + r) + n) + j) := by
  unfold nPut
  have : j = 0 ∨ j = 1 ∨ j = 2 ∨ j = 3 ∨ j = 4 := by omega
  rcases this with rfl | rfl | rfl | rfl | rfl
  · rw [upd_n (by omega), upd_n (by omega), upd_n (by omega), upd_n (by omega), upd_n (by omega), upd_e (by omega), upd_n (by omega), upd_n (by omega), upd_n (by omega), upd_n (by omega), upd_n (by omega), upd_e (by omega)]
  · rw [upd_n (by omega), upd_n (by omega), upd_n (by omega), upd_n (by omega), upd_e rfl, upd_n (by omega), upd_n (by omega), upd_n (by omega), upd_n (by omega), upd_e rfl]
  · rw [upd_n (by omega), upd_n (by omega), upd_n (by omega), upd_e rfl, upd_n (by omega), upd_n (by omega), upd_n (by omega), upd_e rfl]
  · rw [upd_n (by omega), upd_n (by omega), upd_e rfl, upd_n (by omega), upd_n (by omega), upd_e rfl]
  · rw [upd_n (by omega), upd_e rfl, upd_n (by omega), upd_e rfl]
theorem Rl.put {to uu tt : Int32} (hR : Rl M C N P Q) (hM : M ≤ 6) (hx : x < M) (hr : r < 4) (hn : n < 8) (hN : N (147 + (4 * x + r)) = nI n) : Rl M (nPut C x r n to uu tt mk) (nPut N x r n to uu tt mk) P Q := by
  obtain ⟨h1, h2, h3, h4, h5⟩ := hR
  refine ⟨h1.mono fun k hk => ?_, h2.mono hM (fun s hs => nPut_n (by omega) (by omega)) (fun k _ _ => nPut_n (by omega) (by omega)), fun s' r' n' j hs' hr' hn' hN' hj => ?_, h4.mono hM (fun k _ _ => nPut_n (by omega) (by omega)) (fun k _ _ => nPut_n (by omega) (by omega)), h5.mono fun s hs => ⟨nPut_n (by omega) (by omega), nPut_n (by omega) (by omega)⟩⟩
  · by_cases e : k = 147 + (4 * x + r)
    · left
      rw [e, nPut_sz, nPut_sz]
    · have hw := pd_where hk
      right
      exact ⟨nPut_n e (by omega), nPut_n e (by omega)⟩
  · by_cases e : 4 * s' + r' = 4 * x + r
    · rw [e] at hN' ⊢
      rw [nPut_sz] at hN'
      have hn1 : n + 1 = n' := nI_inj (by omega) (by omega) hN'
      by_cases e2 : j < 5 * n
      · rw [nPut_n (by omega) (by omega), nPut_n (by omega) (by omega)]
        exact h3 x r n j hx hr (by omega) hN e2
      · have := nPut_new (C := C) (N := N) (s := x) (r := r) (n := n) (to := to) (uu := uu) (tt := tt) (mk := mk) (j := j - 5 * n) (by omega) (by omega) hr
        rw [show 171 + 40 * (4 * x + r) + j = 171 + 5 * (8 * (4 * x + r) + n) + (j - 5 * n) from by omega]
        exact this
    · rw [nPut_n (by omega) (by omega), nPut_n (by omega) (by omega)]
      rw [nPut_n (by omega) (by omega)] at hN'
      exact h3 s' r' n' j hs' hr' hn' hN' hj
theorem EV.put {to uu tt : Int32} (hE : EV M N s) (hM : M ≤ 6) (hs : s < M) (hx : x < M) (hr : r < 4) (hn : n < 8) (hN : N (147 + (4 * x + r)) = nI n) : EV M (nPut N x r n to uu tt mk) s := by
  rcases hE with e | ⟨y, r', h, ph, c, q, w, p, e⟩
  · left
    rw [nPut_n (by omega) (by omega)]
    exact e
  · right
    refine ⟨y, r', h, ph, c, q, w, p, ?_⟩
    have hr' : r' < 4 := e.2.1.2.2.2.1
    by_cases g : 4 * s + r' = 4 * x + r
    · obtain ⟨⟨a0, a1, a2, a3, a4, a5, a6, a7⟩, ⟨b0, b1, b2, b3⟩, ⟨n', n1, n2, n3⟩, d, f1, f2, f3⟩ := e
      have hnn : n' = n := nI_inj (by omega) (by omega) (by rw [g] at n3; exact n3.symm.trans hN)
      subst hnn
      have cx : ∀ k, k < 16 → nPut N x r n' to uu tt mk (1179 + 16 * s + k) = N (1179 + 16 * s + k) := fun k hk => nPut_n (by omega) (by omega)
      have cx0 : nPut N x r n' to uu tt mk (1179 + 16 * s) = N (1179 + 16 * s) := cx 0 (by omega)
      have c9 := cx 9 (by omega)
      have c5 := cx 5 (by omega)
      refine ⟨⟨cx0.trans a0, (cx 1 (by omega)).trans a1, (cx 2 (by omega)).trans a2, (cx 3 (by omega)).trans a3, (cx 4 (by omega)).trans a4, (cx 7 (by omega)).trans a5, (cx 8 (by omega)).trans a6, (cx 6 (by omega)).trans a7⟩, ⟨b0, b1, ?_, b3⟩, ⟨n' + 1, by omega, by omega, ?_⟩, fun k hk => ?_, ?_, ?_, ?_⟩
      · rw [nPut_n (by omega) (by omega)]; exact b2
      · rw [g]; exact nPut_sz
      · obtain ⟨d1, d2, d3, d4⟩ := d k hk
        have hb3 := b3.2.2
        refine ⟨?_, d2, d3, ?_⟩
        · rw [nPut_n (by omega) (by omega)]; exact d1
        · rw [nPut_n (k := 171 + 5 * (8 * (4 * s + r') + k) + 1) (by omega) (by omega), nPut_n (k := 51 + 6 * s + y) (by omega) (by omega)]; exact d4
      · rw [c5]; exact f1
      · rw [c9]; exact f2
      · rw [c9]; exact f3
    · exact e.mono hs hM (fun k _ _ => nPut_n (by omega) (by omega)) (nPut_n (by omega) (by omega)) (fun k _ _ => nPut_n (by omega) (by omega)) (fun k _ => nPut_n (by omega) (by omega))
theorem IV.put {tt : Int32} (hV : IV M K N) (hx : x < M) (hr : r < 4) (hy : y < M) (hyx : y ≠ x) (hq : 0 < N (15 + 6 * x + y)) (hu1 : 1 ≤ u) (hu9 : u ≤ 9) (hn : n < 8) (hN : N (147 + (4 * x + r)) = nI n) : IV M K (nPut N x r n (nI y) (nI u) tt mk) := by
  obtain ⟨h1, h2, h3, h4, h5, h6, t, t1, t2, t3, t4, t5⟩ := hV
  have hM := h1.2.1
  obtain ⟨nq, q1, q2, q3, q4⟩ := h3 x r hx hr
  have hnn : nq = n := nI_inj (by omega) (by omega) (q2.symm.trans hN)
  subst hnn
  refine ⟨h1.mono fun k hk => nPut_n (by omega) (by omega), h2.mono hM fun k _ _ => nPut_n (by omega) (by omega), h3.one hM ⟨nq + 1, by omega, nPut_sz, ?_, fun i hi => ?_⟩ hr (fun k _ _ g => nPut_n g (by omega)) (fun k _ _ _ => nPut_n (by omega) (by omega)) (fun k _ _ g => nPut_n (by omega) (by omega)) (fun k _ _ => nPut_n (by omega) (by omega)), fun s hs => (h4 s hs).put hM hs hx hr hn hN, h5.mono hM (fun k _ _ => nPut_n (by omega) (by omega)) (fun k _ _ => nPut_n (by omega) (by omega)), h6.mono hM (nPut_n (by omega) (by omega)) (fun k _ _ => nPut_n (by omega) (by omega)) (fun s t hs ht => nPut_n (by omega) (by omega)), t, t1, t2, ?_, ?_, fun s hs => ?_⟩
  · obtain ⟨w, w1, w2⟩ := q3
    exact ⟨w, w1, (nPut_n (by omega) (by omega)).trans w2⟩
  · by_cases e : i < nq
    · obtain ⟨y', u', f1, f2, f3, f4, f5, f6, f7⟩ := q4 i e
      exact ⟨y', u', f1, f2, (nPut_n (by omega) (by omega)).trans f3, by rw [nPut_n (by omega) (by omega)]; exact f4, (nPut_n (by omega) (by omega)).trans f5, f6, f7⟩
    · have hi' : i = nq := by omega
      subst hi'
      obtain ⟨g1, g2, -⟩ := nPut_f (N := N) (s := x) (r := r) (n := i) (to := nI y) (uu := nI u) (tt := tt) (mk := mk) (by omega) hr
      exact ⟨y, u, hy, hyx, g1, by rw [nPut_n (by omega) (by omega)]; exact hq, g2, hu1, hu9⟩
  · rw [nPut_n (by omega) (by omega)]; exact t3
  · rw [nPut_n (by omega) (by omega)]; exact t4
  · obtain ⟨u', u1, u2⟩ := t5 s hs
    exact ⟨u', u1, (nPut_n (by omega) (by omega)).trans u2⟩
theorem c_take {to uu : Int32} (hx : x < 6) (hr : r < 4) (hn : n < 8) (hN : C (147 + (4 * x + r)) = nI n) : e_X0_takeFrame a (nI x) (nI r) to uu (wC a σ C) = some (some (some (.inl (nI (n + 1)))), wC a σ (nPut C x r n to uu (C 1) (nI 0))) := by
  rw [q_X0_takeFrame, if_neg (nI_in (by omega) (by omega)), if_neg (nI_in (by omega) (by omega)), nI_clamp (by omega), nI_clamp (by omega), rC_time, c_addLast hx hr hn hN]
  dsimp only [bdV]
  rw [rC_size hx hr, nPut_sz]
theorem m_put {to uu : Int32} (hx : x < 6) (hr : r < 4) (hn : n < 8) (hN : σ.1 (30, 0, 0, 0) (147 + (4 * x + r)) = nI n) : e_X10_put (nI x) (nI r) to uu mk σ = some (some none, sF σ (30, 0, 0, 0) (nPut (σ.1 (30, 0, 0, 0)) x r n to uu (σ.1 (30, 0, 0, 0) 1) mk)) := by
  have key : ∀ (N O W : Nat → Int32) (b : Int32), N (147 + (4 * x + r)) = nI n → e_X10_put (nI x) (nI r) to uu mk (wM σ N O W b) = some (some none, wM σ (nPut N x r n to uu (N 1) mk) O W b) := fun N O W b hN => by
    rw [q_X10_put, r_at]
    dsimp only [bdI]
    rw [nI_add, if_neg (nI_in (by omega) (by omega)), nI_clamp (by omega), wM_N, hN, r_frameAt]
    dsimp only
    unfold nPut
    simp (disch := omega) only [nI_add, nI_clamp, ck2, if_false, wM_N, wM_stN, upd_n, r_at, hN]
  have h := key (σ.1 (30, 0, 0, 0)) (σ.1 (34, 0, 0, 0)) (σ.1 (35, 0, 0, 0)) (σ.1 (10, 0, 0, 0) 12) hN
  rw [wM_self, wM_sF] at h
  exact h
end PT

/-! A net: the call -/
section FC
variable {M K K' s z r i n m k a b x y t h w lo hi j u q : Nat} {σ τ σ' σ1 σ2 : mS} {C D N V F G O W P Q : Nat → Int32} {E E' : Nat → Nat → Int32} {o : mO} {v p p1 p2 wr bb : Int32} {g : Nat → Nat} {S S' : Nat → Prop}
def zz (N : Nat → Int32) (i : Nat) : Nat → Int32 := fun k => if k < i ∧ (k < 2 ∨ 15 ≤ k) then nI 0 else N k
theorem zz_0 : zz N 0 = N := by
  funext k
  exact if_neg (by omega)
theorem zz_s (h : i < 2 ∨ 15 ≤ i) : upd (zz N i) i (nI 0) = zz N (i + 1) := by
  funext k
  unfold upd zz
  by_cases e : k = i
  · rw [if_pos e, if_pos (by omega)]
  · rw [if_neg e]
    by_cases h2 : k < i ∧ (k < 2 ∨ 15 ≤ k)
    · rw [if_pos h2, if_pos (by omega)]
    · rw [if_neg h2, if_neg (by omega)]
theorem zz_n (h : ¬ (i < 2 ∨ 15 ≤ i)) : zz N i = zz N (i + 1) := by
  funext k
  unfold zz
  by_cases h2 : k < i ∧ (k < 2 ∨ 15 ≤ k)
  · rw [if_pos h2, if_pos (by omega)]
  · rw [if_neg h2, if_neg (by omega)]
theorem sm_st {o : mO} (hv : v = V k) : st (sF σ o (mix S V D)) o k v = sF σ o (mix (fun q => S q ∨ q = k) V D) := by
  rw [sF_st, hv]
  congr 1
  funext q
  by_cases h1 : q = k
  · rw [upd_e h1, mix_t (Or.inr h1), h1]
  · rw [upd_n h1]
    by_cases h2 : S q
    · rw [mix_t h2, mix_t (Or.inl h2)]
    · rw [mix_f h2, mix_f (fun e => e.elim h2 h1)]
theorem m_95_from : ∀ d i, i + d = 1432 → b_X10_net_95 p1 p2 (nI i) (sF σ (30, 0, 0, 0) (zz N i)) = b_X10_net_134 p2 (nI 0) (st (sF σ (30, 0, 0, 0) (zz N 1432)) (30, 0, 0, 0) 0 p1)
  | 0, i, hi => by
    rw [show i = 1432 from by omega, q_X10_net_95, if_neg (by decide), if_neg c0, c0c]
  | d + 1, i, hi => by
    rw [q_X10_net_95, if_pos (nI_lt (by omega) (by omega)), m_in]
    dsimp only [bdI]
    by_cases h : i < 2 ∨ 15 ≤ i
    · rw [if_nbI, if_neg (nI_in (by omega) (by omega)), nI_clamp (by omega), sF_st, zz_s h, nI_1]
      · exact m_95_from d (i + 1) (by omega)
      · rintro ⟨q1, q2⟩
        rw [nI_ltI (by omega) (by omega)] at q1 q2
        omega
    · rw [if_bI, zz_n h, nI_1]
      · exact m_95_from d (i + 1) (by omega)
      · rw [nI_ltI (by omega) (by omega), nI_ltI (by omega) (by omega)]
        omega
theorem m_134_from (h33 : ∀ k, k < 36 → σ.1 (33, 0, 0, 0) k = nI (g k)) : ∀ d i S, i + d = 36 → ∃ S' : Nat → Prop, (∀ q, S q → S' q) ∧ (∀ w, i ≤ w → w < 36 → S' (15 + w) ∧ S' (51 + w)) ∧ b_X10_net_134 p (nI i) (sF σ (30, 0, 0, 0) (mix S (Vn m g N) D)) = b_X10_net_176 p (nI 0) (sF σ (30, 0, 0, 0) (mix S' (Vn m g N) D))
  | 0, i, S, hi => ⟨S, fun _ q => q, fun w h1 h2 => by omega, by rw [show i = 36 from by omega, q_X10_net_134, if_neg (by decide)]⟩
  | d + 1, i, S, hi => by
    obtain ⟨S', s1, s2, s3⟩ := m_134_from h33 d (i + 1) (fun q => (S q ∨ q = 15 + i) ∨ q = 51 + i) (by omega)
    refine ⟨S', fun q hq => s1 q (Or.inl (Or.inl hq)), fun w h1 h2 => ?_, ?_⟩
    · by_cases e : w = i
      · subst e
        exact ⟨s1 _ (Or.inl (Or.inr rfl)), s1 _ (Or.inr rfl)⟩
      · exact s2 w (by omega) h2
    · rw [← s3, q_X10_net_134, if_pos (nI_lt (by omega) (by omega)), nI_add, nI_add, if_neg (nI_in (by omega) (by omega)), if_neg (nI_in (by omega) (by omega)), if_neg (nI_in (by omega) (by omega)), nI_clamp (n := i) (by omega), nI_clamp (n := 15 + i) (by omega), nI_clamp (n := 51 + i) (by omega), sF_ne (o' := (33, 0, 0, 0)) (by decide), h33 _ (by omega), sm_st (vn_q (by omega)), sm_st (vn_1 (by omega)), nI_1]
theorem m_196_from (hs : s < 6) (hD : ∀ k, 2 ≤ k → k < 15 → D k = N k) : ∀ d r S, r + d = 4 → ∃ S' : Nat → Prop, (∀ q, S q → S' q) ∧ (∀ w, r ≤ w → w < 4 → S' (1131 + (4 * s + w))) ∧ b_X10_net_196 p (nI s) (nI r) (sF σ (30, 0, 0, 0) (mix S (Vn m g N) D)) = b_X10_net_176 p (nI (s + 1)) (sF σ (30, 0, 0, 0) (mix S' (Vn m g N) D))
  | 0, r, S, hr => ⟨S, fun _ q => q, fun w h1 h2 => by omega, by rw [show r = 4 from by omega, q_X10_net_196, if_neg (by decide), nI_1]⟩
  | d + 1, r, S, hr => by
    obtain ⟨S', s1, s2, s3⟩ := m_196_from hs hD d (r + 1) (fun q => S q ∨ q = 1131 + (4 * s + r)) (by omega)
    refine ⟨S', fun q hq => s1 q (Or.inl hq), fun w h1 h2 => ?_, ?_⟩
    · by_cases e : w = r
      · subst e
        exact s1 _ (Or.inr rfl)
      · exact s2 w (by omega) h2
    · rw [← s3, q_X10_net_196, if_pos (nI_lt (by omega) (by omega)), r_at]
      dsimp only [bdI]
      rw [nI_add, nI_add, if_neg (nI_in (by omega) (by omega)), if_neg (nI_in (by omega) (by omega)), nI_clamp (n := 1131 + (4 * s + r)) (by omega), nI_clamp (n := 9 + r) (by omega), sF_at, sm_st ?_, nI_1]
      rw [← vn_w (m := m) (g := g) hs (show r < 4 by omega)]
      unfold mix
      split
      · exact (vn_s (by omega) (by omega)).symm
      · exact hD _ (by omega) (by omega)
theorem m_176_from (hD : ∀ k, 2 ≤ k → k < 15 → D k = N k) : ∀ d s S, s + d = 6 → ∃ S' : Nat → Prop, (∀ q, S q → S' q) ∧ (∀ x, s ≤ x → x < 6 → S' (135 + x) ∧ ∀ w, w < 4 → S' (1131 + (4 * x + w))) ∧ b_X10_net_176 p (nI s) (sF σ (30, 0, 0, 0) (mix S (Vn m g N) D)) = some (some (some (.inl p)), sF σ (30, 0, 0, 0) (mix S' (Vn m g N) D))
  | 0, s, S, hs => ⟨S, fun _ q => q, fun w h1 h2 => by omega, by rw [show s = 6 from by omega, q_X10_net_176, if_neg (by decide)]⟩
  | d + 1, s, S, hs => by
    obtain ⟨S1, a1, a2, a3⟩ := m_196_from (σ := σ) (p := p) (m := m) (g := g) (show s < 6 by omega) hD 4 0 (fun q => S q ∨ q = 135 + s) (by omega)
    obtain ⟨S', s1, s2, s3⟩ := m_176_from hD d (s + 1) S1 (by omega)
    refine ⟨S', fun q hq => s1 q (a1 q (Or.inl hq)), fun x h1 h2 => ?_, ?_⟩
    · by_cases e : x = s
      · subst e
        exact ⟨s1 _ (a1 _ (Or.inr rfl)), fun w hw => s1 _ (a2 w (by omega) hw)⟩
      · exact s2 x (by omega) h2
    · rw [← s3, q_X10_net_176, if_pos (nI_lt (by omega) (by omega)), nI_add, if_neg (nI_in (by omega) (by omega)), nI_clamp (by omega), sm_st (vn_m (by omega)), a3]
theorem m_anew (h30 : σ.1 (30, 0, 0, 0) = N) (h33 : ∀ k, k < 36 → σ.1 (33, 0, 0, 0) k = nI (g k)) : ∃ N', b_X10_net_95 (nI m) p (nI 0) σ = some (some (some (.inl p)), sF σ (30, 0, 0, 0) N') ∧ ∀ k, k < 1432 → N' k = Nn m g N k := by
  have e1 := m_95_from (σ := σ) (N := N) (p1 := nI m) (p2 := p) 1432 0 (by omega)
  rw [zz_0, ← h30, sF_self, h30] at e1
  have hD : ∀ k, 2 ≤ k → k < 15 → zz N 1432 k = N k := fun k h1 h2 => if_neg (by omega)
  have e2 := sm_st (σ := σ) (S := fun _ => False) (D := zz N 1432) (o := (30, 0, 0, 0)) (k := 0) (v := nI m) (V := Vn m g N) rfl
  rw [mix_0] at e2
  obtain ⟨S1, a1, a2, a3⟩ := m_134_from (p := p) (m := m) (N := N) (D := zz N 1432) h33 36 0 (fun q => False ∨ q = 0) (by omega)
  obtain ⟨S2, b1, b2, b3⟩ := m_176_from (σ := σ) (p := p) (m := m) (g := g) hD 6 0 S1 (by omega)
  refine ⟨mix S2 (Vn m g N) (zz N 1432), ?_, fun k hk => ?_⟩
  · rw [e1, e2, a3, b3]
  · unfold mix
    split
    · exact vn_lt hk
    · rename_i hS
      by_cases h1 : 2 ≤ k ∧ k < 15
      · exact (hD k h1.1 h1.2).trans ((vn_s h1.1 h1.2).trans (vn_lt hk))
      · have hz : zz N 1432 k = nI 0 := if_pos ⟨hk, by omega⟩
        rw [hz]
        refine (vn_0 ?_).trans (vn_lt hk)
        have n0 : k ≠ 0 := fun e => hS (b1 _ (a1 _ (Or.inr e)))
        have n1 : ¬ (15 ≤ k ∧ k < 51) := fun e => hS (by
          have := b1 _ (a2 (k - 15) (by omega) (by omega)).1
          rwa [show 15 + (k - 15) = k from by omega] at this)
        have n2 : ¬ (51 ≤ k ∧ k < 87) := fun e => hS (by
          have := b1 _ (a2 (k - 51) (by omega) (by omega)).2
          rwa [show 51 + (k - 51) = k from by omega] at this)
        have n3 : ¬ (135 ≤ k ∧ k < 141) := fun e => hS (by
          have := (b2 (k - 135) (by omega) (by omega)).1
          rwa [show 135 + (k - 135) = k from by omega] at this)
        have n4 : ¬ (1131 ≤ k ∧ k < 1155) := fun e => hS (by
          have := (b2 ((k - 1131) / 4) (by omega) (by omega)).2 ((k - 1131) % 4) (by omega)
          rwa [show 1131 + (4 * ((k - 1131) / 4) + (k - 1131) % 4) = k from by omega] at this)
        omega
/-- the class's air anew -/
theorem c_anew (h25 : ∀ k, k < 36 → σ.1 (25, 0, 0, 0) k = nI (g k)) (hg : GP m g) (hm : m ≤ 6) (hD : ∀ k, 2 ≤ k → k < 15 → C k = N k) : ∃ C', e_X0_startAnew a (nI m) (wC a σ C) = some (some none, wC a σ C') ∧ Rl m C' (Nn m g N) (dO (Nn m g N)) (dW (Nn m g N)) := by
  have hg3 : ∀ k, k < 36 → g k ≤ 3 := fun k hk => by
    have := (hg (k / 6) (k % 6) (by omega) (by omega)).1
    rwa [show 6 * (k / 6) + k % 6 = k from by omega] at this
  have e0 : wC a σ C = wC a σ (mix (fun _ => False) (Vn m g N) C) := by rw [mix_0]
  obtain ⟨S', s1, s2, s3⟩ := c_anew_from (a := a) (S := fun q => (((((((((False ∨ q = 0) ∨ q = 1) ∨ q = 1329) ∨ q = 1330) ∨ q = 1331) ∨ q = 1341) ∨ q = 1333) ∨ q = 1334) ∨ q = 1335) ∨ q = 1340) h25 hg3 hm hD m 0 (by omega) (by simp)
  refine ⟨_, ?_, nn_rl (D := C) hm hg hD (fun x q hx hq => s2 x q (by omega) hx hq) (fun q hq => s1 q ?_)⟩
  · rw [e0, q_X0_startAnew]
    dsimp only
    rw [sv_st ix_many (show nI m = Vn m g N 0 from rfl), sv_st ix_time (vn_0 (by omega)), sv_st ix_sending (vn_0 (by omega)), sv_st ix_clear (vn_0 (by omega)), sv_st ix_ran (vn_0 (by omega)), sv_st ix_beginning (vn_0 (by omega)), sv_st ix_one (vn_0 (by omega)), sv_st ix_none (vn_0 (by omega)), sv_st ix_more (vn_0 (by omega)), if_pos z1, sv_st ix_marked (vn_0 (by omega))]
    exact s3
  · have : q = 0 ∨ q = 1 ∨ q = 1329 ∨ q = 1330 ∨ q = 1331 ∨ q = 1341 ∨ q = 1333 ∨ q = 1334 ∨ q = 1335 ∨ q = 1340 := by omega
    rcases this with e | e | e | e | e | e | e | e | e | e <;> simp only [e, true_or, or_true]
theorem o_net (hJ : J K σ) (hK : K ≤ K') (h24 : K' < 2 ^ 24) : Res K' e_X9_net e_X10_net σ := by
  obtain ⟨n, T, hn, hT, h2, h31⟩ := jt_get hJ.2.2.2.1
  have rnet : ∀ τ : mS, τ.1 (10, 0, 0, 0) = σ.1 (10, 0, 0, 0) → e_X10_net τ = b_X10_net_11 (nI 0) (rd (bg τ n) 0 (-1)) := fun τ hτ => by
    rw [q_X10_net]
    dsimp only
    rw [m_begin (n := n) (by rw [hτ]; exact h2)]
    rfl
  rcases j_nread (T := T) hn with ⟨p, hp, c1, r1⟩ | ⟨m, c, g, hm1, hm, hg, c1, r1⟩
  · obtain ⟨G', hf⟩ := c1 σ hT
    obtain ⟨j', G2, hg⟩ := r1 (bg (st (sF σ (25, 0, 0, 0) G') (7, 0, 0, 0) 1 (nI 0)) n) (bg_tx (by rw [st_ne (by decide), sF_ne (by decide)]; exact h31))
    exact fin_wrong (σ1 := st (sF σ (25, 0, 0, 0) G') (7, 0, 0, 0) 1 (nI 0)) (q := 33) hJ hK h24 (fun _ _ h => Ev_gn h) (fun _ _ h => Ev_gn h) (Or.inl rfl) (fun o a b => by rw [st_ne (fun e => a (by rw [e])), sF_ne (fun e => b (by rw [e]))]) rfl (by rw [st_self, upd_s]) hf ((rnet _ (by rw [st_ne (by decide), sF_ne (by decide)])).trans hg)
  · obtain ⟨C, M, hd, hV, hR⟩ := jget hJ
    have hM := hV.1.2.1
    have hN0 := hV.1.1
    have h0 : C 0 = nI M := (hR.pl (pd_lo (by omega))).trans hN0
    obtain ⟨G', hG, cl⟩ := c1 σ hT
    obtain ⟨sz, la, E, E', uc, um, hE⟩ := ju_get hJ.2.1
    have s1 : ∀ o : mO, o.1 ≠ 25 → o.1 ≠ 7 → (st (sF σ (25, 0, 0, 0) G') (7, 0, 0, 0) 1 (nI 0)).1 o = σ.1 o := fun o a b => by
      rw [st_ne (fun e => b (by rw [e])), sF_ne (fun e => a (by rw [e]))]
    have s25 : (st (sF σ (25, 0, 0, 0) G') (7, 0, 0, 0) 1 (nI 0)).1 (25, 0, 0, 0) = G' := by rw [st_ne (by decide), sF_at]
    have s7 : (st (sF σ (25, 0, 0, 0) G') (7, 0, 0, 0) 1 (nI 0)).1 (7, 0, 0, 0) 1 = nI 0 := by rw [st_self, upd_s]
    have sn : (st (sF σ (25, 0, 0, 0) G') (7, 0, 0, 0) 1 (nI 0)).2 = σ.2 := rfl
    have hB1 : Bo (st (sF σ (25, 0, 0, 0) G') (7, 0, 0, 0) 1 (nI 0)) := fun o i hb => by
      rw [s1 o (fun e => by rw [e] at hb; exact absurd hb (by simp [bcl])) (fun e => by rw [e] at hb; exact absurd hb (by simp [bcl]))]
      exact hJ.2.2.2.2.2 o i hb
    generalize st (sF σ (25, 0, 0, 0) G') (7, 0, 0, 0) 1 (nI 0) = σ1 at *
    have hd1 : Hd 0 σ1 C := hd.mono fun o _ hk => s1 o (by unfold aK at hk; omega) (by unfold aK at hk; omega)
    obtain ⟨σp, Cp, p1, p2, p3, p4, p5⟩ := c_push (a := 0) (uc.mono (by rw [s1 _ (by decide) (by decide)]) (fun o _ hk => s1 o (by unfold aK at hk; omega) (by unfold aK at hk; omega))) hd1 (by omega) hB1 hM h0
    have hdp : Hd 0 σp C := push_hd hd1 p4
    obtain ⟨C', q1, q2⟩ := c_anew (a := 0) (σ := σp) (C := C) (N := σ.1 (30, 0, 0, 0)) (by rw [p4 _ (by decide) (by unfold aK; decide), s25]; exact hG) hg hm (fun k _ h => hR.pl (pd_lo h))
    rw [show wC 0 σp C = σp from hdp] at q1
    have hf : e_X9_net σ = some (some (some (.inl (nI c))), wC 0 σp C') := by
      rw [cl, p1]
      dsimp only [bdV]
      rw [q1]
    have f1 : ∀ o : mO, ¬ BC o → (wC 0 σp C').1 o = σ.1 o := fun o ho => by
      rw [wC_same (fun e => ho (Or.inr (Or.inr (Or.inr (Or.inr ⟨e.1, by omega⟩))))), p4 o (fun e => ho (by rw [e]; exact Or.inl rfl)) (fun e => ho (Or.inr (Or.inr (Or.inr (Or.inr ⟨e.1, Or.inr e.2⟩))))), s1 o (fun e => ho (Or.inr (Or.inr (Or.inr (Or.inl e))))) (fun e => ho (Or.inr (Or.inr (Or.inl e))))]
    have e10 := f1 (10, 0, 0, 0) (by unfold BC aK; decide)
    have e30 := f1 (30, 0, 0, 0) (by unfold BC aK; decide)
    have e31 := f1 (31, 0, 0, 0) (by unfold BC aK; decide)
    have e38 := f1 (38, 0, 0, 0) (by unfold BC aK; decide)
    obtain ⟨G2, hG2, r2⟩ := r1 (bg (wC 0 σp C') n) (bg_tx (by rw [e31]; exact h31))
    obtain ⟨σm, m1, m2, m3, m4, m5⟩ := m_change (σ := rd (sF (bg (wC 0 σp C') n) (33, 0, 0, 0) G2) n (-1)) (um.mono (by rw [rd_10 (by decide) (by decide), sF_ne (by decide), bg_10 (by decide) (by decide) (by decide), e10]) (by rw [rd_ne (by decide), sF_ne (by decide), bg_ne (by decide), e38]))
    have r30 : (rd (sF (bg (wC 0 σp C') n) (33, 0, 0, 0) G2) n (-1)).1 (30, 0, 0, 0) = σ.1 (30, 0, 0, 0) := by rw [rd_ne (by decide), sF_ne (by decide), bg_ne (by decide), e30]
    obtain ⟨N', n1, n2⟩ := m_anew (σ := σm) (m := m) (g := g) (p := nI c) (N := σ.1 (30, 0, 0, 0)) (by rw [m3 _ (by decide) (by decide) (by decide), r30]) (by rw [m3 _ (by decide) (by decide) (by decide), rd_ne (by decide), sF_at]; exact hG2)
    have hg2 : e_X10_net (wC 0 σp C') = some (some (some (.inl (nI c))), sF σm (30, 0, 0, 0) N') := by
      rw [rnet _ e10, r2, m1]
      dsimp only [bdV]
      exact n1
    have f2 : ∀ o : mO, ¬ BM o → (sF σm (30, 0, 0, 0) N').1 o = (wC 0 σp C').1 o := fun o ho => by
      have a30 : o.1 ≠ 30 := fun e => ho (by unfold BM; omega)
      have a33 : o.1 ≠ 33 := fun e => ho (by unfold BM; omega)
      have a10 : o.1 ≠ 10 := fun e => ho (by unfold BM; omega)
      have a38 : o.1 ≠ 38 := fun e => ho (by unfold BM; omega)
      have a39 : o.1 ≠ 39 := fun e => ho (by unfold BM; omega)
      rw [sF_ne (fun e => a30 (by rw [e])), m3 o (fun e => a10 (by rw [e])) (fun e => a38 (by rw [e])) (fun e => a39 (by rw [e])), rd_ne (fun e => a10 (by rw [e])), sF_ne (fun e => a33 (by rw [e])), bg_ne (fun e => a10 (by rw [e]))]
    refine ⟨_, _, _, hf, hg2, hJ.mk2 hK h24 ⟨C', ?_, ?_⟩ (ju_mk (sz := nx sz) (la := nl la) (E := cons0 Cp E) (E' := cons0 (cpl ((rd (sF (bg (wC 0 σp C') n) (33, 0, 0, 0) G2) n (-1)).1 (30, 0, 0, 0)) ((rd (sF (bg (wC 0 σp C') n) (33, 0, 0, 0) G2) n (-1)).1 (39, 0, 0, 0)) 1432) E') (p2.mono ?_ (fun o h1 h2 => ?_)) (m2.mono ?_ ?_) (PR.le' (ju_next hV hR p3 (fun k hk => by rw [cpl_lt hk, r30]) hE uc.1) hK h24)) (fun o a1 a2 => (f2 o a2).trans (f1 o a1)) ⟨0, by omega, ?_, ?_, fun k hk => by omega⟩ (hJ.2.2.2.2.1.same ?_ ?_ ?_ ?_) ((Ev_gn hg2).2 ((Ev_gn hf).2 hJ.2.2.2.2.2))⟩
    · exact (Hd.mk' (σ := σp)).mono fun o ho hk => f2 o (by unfold BM; unfold aK at hk; omega)
    · rw [sF_at]
      exact PR.congN (N := Nn m g (σ.1 (30, 0, 0, 0))) ⟨m, nn_iv (hV.le hK h24) hm hg h24, q2⟩ n2
    · rw [f2 _ (by unfold BM; decide), wC_same (by unfold aK; decide)]
    · rw [f2 o (by unfold BM; unfold aK at h2; omega), wC_same (fun e => by omega)]
    · rw [sF_ne (by decide)]
    · rw [sF_ne (by decide)]
    · rw [f2 _ (by unfold BM; decide), wC_same (by unfold aK; decide), p4 _ (by decide) (by unfold aK; decide), s7]
    · rw [sF_ne (by decide), m4 _ (by decide), rd_10 (by decide) (by decide), sF_ne (by decide), bg_2]
    · rw [f2 _ (by unfold BM; decide), wC_same (by unfold aK; decide), p4 _ (by decide) (by unfold aK; decide), s1 _ (by decide) (by decide)]
    · rw [sF_ne (by decide), m4 _ (by decide), rd_10 (by decide) (by decide), sF_ne (by decide), bg_10 (by decide) (by decide) (by decide), e10]
    · show σm.2 _ = _
      rw [m5]
      show σp.2 _ = _
      rw [p5, sn]
    · show σm.2 _ = _
      rw [m5]
      show σp.2 _ = _
      rw [p5, sn]
end FC

/-! Dice that are beside: years -/
section YR
variable {M K K' s z r i n m k a b x y t h w lo sz la u : Nat} {σ τ σ' σ'' σp σm σ1 σ2 : mS} {A C C1 D N N' N0 N1 C' Cp O W P Q U F G : Nat → Int32} {o o' : mO} {v p p1 p2 p3 p4 p5 mk kd e c fF step wd wd' : Int32} {S S' : mO → Prop} {l : List Int64} {f g : mS → Option mR}
theorem drawn_in (x : Int32) {p : Nat} (h0 : 0 < p) (hp : p < 2 ^ 31) : ∃ m, m < p ∧ drawn x (nI p) = nI m := by
  have e : iushr x (nI 16) = nI (x.toBitVec.toNat / 2 ^ 16) := by
    apply Int32.toBitVec_inj.mp
    apply BitVec.eq_of_toNat_eq
    refine (pk_ushr x (nI 16) 16 (by decide)).trans ?_
    show _ = (BitVec.ofNat 32 _).toNat
    rw [BitVec.toNat_ofNat]
    exact (Nat.mod_eq_of_lt (Nat.lt_of_le_of_lt (Nat.div_le_self _ _) x.toBitVec.isLt)).symm
  have hx : x.toBitVec.toNat < 2 ^ 32 := x.toBitVec.isLt
  unfold drawn
  rw [e]
  refine ⟨_, Nat.mod_lt _ h0, pk_rem (by omega) h0 hp⟩
def nxt (w : Int32) : Int32 := w * nI 1103515245 + nI 12345
/-- the class's dice beside -/
def ds (σ : mS) (w : Int32) : mS := st σ (1, 10, 0, 0) 0 w
/-- the reference's -/
def rs (τ : mS) (w : Int32) : mS := st τ (10, 0, 0, 0) 18 w
theorem st_twice {o : mO} {i : Nat} {v v' : Int32} : st (st σ o i v) o i v' = st σ o i v' := by
  refine Prod.ext ?_ rfl
  funext q j
  by_cases h : q = o
  · subst h
    rw [st_self, st_self, st_self, upd_u]
  · rw [st_ne h, st_ne h, st_ne h]
theorem ds_w : st (wC 1 σ C) (1, 10, 0, 0) 0 wd = wC 1 (ds σ wd) C := by
  refine Prod.ext ?_ rfl
  funext q j
  unfold ds
  by_cases h : q = (1, 10, 0, 0)
  · subst h
    rw [st_self, wC_same (by unfold aK; decide), wC_same (by unfold aK; decide), st_self]
  · rw [st_ne h]
    simp only [wC]
    cases ixA 1 q j with
    | none => exact (congrFun (st_ne h) j).symm
    | some k => rfl
theorem ds_rd : (wC 1 (ds σ wd) C).1 (1, 10, 0, 0) 0 = wd := by
  rw [wC_same (by unfold aK; decide)]
  unfold ds
  rw [st_self, upd_s]
theorem c_dr {p : Int32} (h1 : ¬ p < nI 1) (h0 : ¬ p = 0) : e_X1_draw 10 p (wC 1 (ds σ wd) C) = some (some (some (.inl (drawn (nxt wd) p))), wC 1 (ds σ (nxt wd)) C) := by
  have e : st (wC 1 (ds σ wd) C) (1, 10, 0, 0) 0 (wd * nI 1103515245 + nI 12345) = wC 1 (ds σ (nxt wd)) C := by
    rw [ds_w]
    unfold ds
    rw [st_twice]
    rfl
  rw [q_X1_draw, ds_rd, e]
  dsimp only
  rw [if_neg h1, if_neg h0, ds_rd]
  rfl
theorem rs_w {b : Int32} : st (wM (lay τ) N O W b) (10, 0, 0, 0) 18 wd = wM (lay (rs τ wd)) N O W b := by
  refine Prod.ext ?_ rfl
  funext q j
  unfold rs
  by_cases h : q = (10, 0, 0, 0)
  · subst h
    rw [st_self]
    by_cases h2 : j = 18
    · rw [h2, upd_s, wM_10 (by decide), lay_rd (by decide), st_self, upd_s]
    · rw [upd_n h2]
      by_cases h3 : j = 12
      · rw [h3, wM_b, wM_b]
      · rw [wM_10 h3, wM_10 h3, lay_rd (by decide), lay_rd (by decide), st_self, upd_n h2]
  · rw [st_ne h]
    have e : (lay (st τ (10, 0, 0, 0) 18 wd)).1 q = (lay τ).1 q := by
      unfold lay
      by_cases h4 : q = (36, 0, 0, 0)
      · rw [h4, sF_at, sF_at, st_ne (by decide), st_ne (by decide)]
      · rw [sF_ne h4, sF_ne h4, st_ne h]
    simp only [wM]
    rw [e]
theorem rs_rd {b : Int32} : (wM (lay (rs τ wd)) N O W b).1 (10, 0, 0, 0) 18 = wd := by
  rw [wM_10 (by decide), lay_rd (by decide)]
  unfold rs
  rw [st_self, upd_s]
theorem rs_2 : rs (rs τ wd) wd' = rs τ wd' := st_twice
theorem m_dr {p b : Int32} (h0 : ¬ p = 0) : e_X10_drawBeside p (wM (lay (rs τ wd)) N O W b) = some (some (some (.inl (drawn (nxt wd) p))), wM (lay (rs τ (nxt wd))) N O W b) := by
  have e : st (wM (lay (rs τ wd)) N O W b) (10, 0, 0, 0) 18 (wd * nI 1103515245 + nI 12345) = wM (lay (rs τ (nxt wd))) N O W b := by
    rw [rs_w, rs_2]
    rfl
  rw [q_X10_drawBeside, rs_rd, e]
  dsimp only
  rw [if_neg h0, rs_rd]
  rfl
theorem wM_30F {b : Int32} : sF (wM σ N O W b) (30, 0, 0, 0) F = wM σ F O W b := by
  refine Prod.ext ?_ rfl
  funext q j
  by_cases h : q = (30, 0, 0, 0)
  · subst h
    rw [sF_at, wM_30]
  · rw [sF_ne h]
    simp only [wM]
    rw [if_neg h, if_neg h]
theorem c_y_from {x2 x3 : Int32} (hn : n < 2 ^ 31) : ∀ d i, i + d = n → ∀ σ, b_X9_years_74 x2 x3 (nI n) (nI i) σ = bdV (rep (e_X0_passSlot 1) d σ) (fun σ => b_X9_years_34 x2 (x3 + 1) σ)
  | 0, i, hi => fun σ => by
    rw [show i = n from by omega, q_X9_years_74, if_neg (nI_nlt (by omega) (by omega))]
    rfl
  | d + 1, i, hi => fun σ => by
    rw [q_X9_years_74, if_pos (nI_lt (by omega) (by omega)), nI_1]
    show _ = bdV (bdV (e_X0_passSlot 1 σ) (rep (e_X0_passSlot 1) d)) _
    rw [← bdV_as]
    congr 1
    funext σ1
    exact c_y_from hn d (i + 1) (by omega) σ1
/-- year after year, in both -/
theorem j_years (hn : n < 2 ^ 31) : ∀ d i K1 C1 N1 O W b w, i + d = n → PR K1 C1 N1 → K1 + 8 * d < 2 ^ 24 → ∃ C' N' O' W' b' w', (∀ σ, b_X9_years_34 (nI n) (nI i) (wC 1 (ds σ w) C1) = b_X9_years_34 (nI n) (nI n) (wC 1 (ds σ w') C')) ∧ (∀ τ, b_X10_years_28 (nI n) (nI i) (wM (lay (rs τ w)) N1 O W b) = b_X10_years_28 (nI n) (nI n) (wM (lay (rs τ w')) N' O' W' b')) ∧ PR (K1 + 8 * d) C' N'
  | 0, i, K1, C1, N1, O, W, b, w, hi, hP, hK => by
    refine ⟨C1, N1, O, W, b, w, fun σ => ?_, fun τ => ?_, hP⟩
    · rw [show i = n from by omega]
    · rw [show i = n from by omega]
  | d + 1, i, K1, C1, N1, O, W, b, w, hi, hP, hK => by
    obtain ⟨q, hq, eq⟩ := drawn_in (nxt w) (p := 3) (by omega) (by omega)
    by_cases hq2 : q = 2
    · subst hq2
      obtain ⟨q8, h8, e8⟩ := drawn_in (nxt (nxt w)) (p := 8) (by omega) (by omega)
      obtain ⟨C2, N2, O2, W2, b2, s1, s2, s3⟩ := pr_slots (a := 1) (q8 + 1) K1 C1 N1 O W b hP (by omega)
      obtain ⟨C', N', O', W', b', w', g1, g2, g3⟩ := j_years hn d (i + 1) (K1 + 8) C2 N2 O2 W2 b2 (nxt (nxt w)) (by omega) (s3.le (by omega) (by omega)) (by omega)
      refine ⟨C', N', O', W', b', w', fun σ => ?_, fun τ => ?_, by rw [show K1 + 8 * (d + 1) = K1 + 8 + 8 * d from by omega]; exact g3⟩
      · rw [q_X9_years_34, if_pos (nI_lt (by omega) (by omega)), c_dr (by decide) (by decide), eq]
        dsimp only [bdI]
        rw [if_neg (by decide), c_dr (by decide) (by decide), e8]
        dsimp only
        rw [nI_add, c_y_from (by omega) (q8 + 1) 0 (by omega), s1]
        dsimp only [bdV]
        rw [nI_1]
        exact g1 σ
      · rw [q_X10_years_28, if_pos (nI_lt (by omega) (by omega)), m_dr (by decide), eq]
        dsimp only [bdI]
        rw [if_pos rfl, m_dr (by decide), e8]
        dsimp only
        rw [nI_add, m_go (by omega), s2]
        dsimp only [bdV]
        rw [nI_1]
        exact g2 τ
    · have l1 : nI q < nI 2 := nI_lt (by omega) (by omega)
      have l2 : ¬ nI q = nI 2 := fun e => hq2 (nI_inj (by omega) (by omega) e)
      generalize hw1 : nxt w = w1 at eq
      generalize hw2 : nxt w1 = w2
      generalize hw3 : nxt w2 = w3
      generalize hw4 : nxt w3 = w4
      generalize hw5 : nxt w4 = w5
      have hP' := hP
      obtain ⟨M1, hV1, hR1⟩ := hP'
      have hM1 := hV1.1.2.1
      have ch : ∀ σ, b_X9_years_34 (nI n) (nI i) (wC 1 (ds σ w) C1) = bdI (e_X0_whyNotOffer 1 (drawn w2 (nI 6)) (drawn w3 (nI 4)) (drawn w4 (nI 6)) (drawn w5 (nI 9) + nI 1) (wC 1 (ds σ w5) C1)) (fun v10 σ9 => if v10 = 0 then (bdI (e_X0_takeFrame 1 (drawn w2 (nI 6)) (drawn w3 (nI 4)) (drawn w4 (nI 6)) (drawn w5 (nI 9) + nI 1) σ9) (fun v12 σ11 => b_X9_years_34 (nI n) (nI (i + 1)) σ11)) else b_X9_years_34 (nI n) (nI (i + 1)) σ9) := fun σ => by
        rw [q_X9_years_34, if_pos (nI_lt (by omega) (by omega)), c_dr (by decide) (by decide), hw1, eq]
        dsimp only [bdI]
        rw [if_pos l1, q_X9_offerDrawn, c_dr (by decide) (by decide), hw2]
        dsimp only [bdI]
        rw [c_dr (by decide) (by decide), hw3]
        dsimp only
        rw [c_dr (by decide) (by decide), hw4]
        dsimp only
        rw [c_dr (by decide) (by decide), hw5]
        dsimp only
        obtain ⟨v, w1', -, -⟩ := j_why (a := 1) (σ := wC 1 (ds σ w5) C1) (p1 := drawn w2 (nI 6)) (p2 := drawn w3 (nI 4)) (p3 := drawn w4 (nI 6)) (p4 := drawn w5 (nI 9) + nI 1) Hd.mk' hV1 hR1
        rw [w1']
        dsimp only
        by_cases g : v = 0
        · rw [if_pos g, if_pos g, nI_1]
          cases e_X0_takeFrame 1 (drawn w2 (nI 6)) (drawn w3 (nI 4)) (drawn w4 (nI 6)) (drawn w5 (nI 9) + nI 1) (wC 1 (ds σ w5) C1) with
          | none => rfl
          | some t =>
            obtain ⟨t1, t2⟩ := t
            rcases t1 with _ | _ | t1
            · rfl
            · rfl
            · cases t1 <;> rfl
        · rw [if_neg g, if_neg g, nI_1]
          rfl
      have rh : ∀ τ, b_X10_years_28 (nI n) (nI i) (wM (lay (rs τ w)) N1 O W b) = bdI (e_X10_refusesOffer (drawn w2 (nI 6)) (drawn w3 (nI 4)) (drawn w4 (nI 6)) (drawn w5 (nI 9) + nI 1) (wM (lay (rs τ w5)) N1 O W b)) (fun v15 σ14 => if v15 = 0 then (bdV (e_X10_put (drawn w2 (nI 6)) (drawn w3 (nI 4)) (drawn w4 (nI 6)) (drawn w5 (nI 9) + nI 1) (nI 0) σ14) (fun σ16 => b_X10_years_28 (nI n) (nI (i + 1)) σ16)) else b_X10_years_28 (nI n) (nI (i + 1)) σ14) := fun τ => by
        rw [q_X10_years_28, if_pos (nI_lt (by omega) (by omega)), m_dr (by decide), hw1, eq]
        dsimp only [bdI]
        rw [if_neg l2, m_dr (by decide), hw2]
        dsimp only
        rw [m_dr (by decide), hw3]
        dsimp only
        rw [m_dr (by decide), hw4]
        dsimp only
        rw [m_dr (by decide), hw5]
        dsimp only
        rw [nI_1]
      generalize drawn w2 (nI 6) = d1 at ch rh
      generalize drawn w3 (nI 4) = d2 at ch rh
      generalize drawn w4 (nI 6) = d3 at ch rh
      generalize drawn w5 (nI 9) + nI 1 = d4 at ch rh
      obtain ⟨v, -, v2, v3⟩ := j_why (a := 1) (σ := wC 1 (ds default w5) C1) (p1 := d1) (p2 := d2) (p3 := d3) (p4 := d4) Hd.mk' hV1 hR1
      have v1 : ∀ σ, e_X0_whyNotOffer 1 d1 d2 d3 d4 (wC 1 (ds σ w5) C1) = some (some (some (.inl v)), wC 1 (ds σ w5) C1) := fun σ => by
        obtain ⟨u, u1, u2, -⟩ := j_why (a := 1) (σ := wC 1 (ds σ w5) C1) (p1 := d1) (p2 := d2) (p3 := d3) (p4 := d4) Hd.mk' hV1 hR1
        have e1 := u2 (wM default N1 O W b) wM_30
        rw [v2 (wM default N1 O W b) wM_30] at e1
        injection e1 with e1
        injection e1 with e1
        injection e1 with e1
        injection e1 with e1
        injection e1 with e1
        rw [e1]
        exact u1
      rcases v3 with ⟨-, v3⟩ | ⟨rfl, v3⟩
      · obtain ⟨C', N', O', W', b', w', g1, g2, g3⟩ := j_years hn d (i + 1) (K1 + 8) C1 N1 O W b w5 (by omega) (hP.le (by omega) (by omega)) (by omega)
        refine ⟨C', N', O', W', b', w', fun σ => ?_, fun τ => ?_, by rw [show K1 + 8 * (d + 1) = K1 + 8 + 8 * d from by omega]; exact g3⟩
        · rw [ch, v1]
          dsimp only [bdI]
          rw [if_neg v3]
          exact g1 σ
        · rw [rh, v2 _ wM_30]
          dsimp only [bdI]
          rw [if_neg v3]
          exact g2 τ
      · obtain ⟨x, r, y, u, j, rfl, rfl, rfl, rfl, hx, hr, hy, hyx, hq', hu1, hu9, hj, hsz⟩ := v3
        have hx6 : x < 6 := by omega
        have csz : C1 (147 + (4 * x + r)) = nI j := (hR1.pl (pd_sz hM1 hx hr)).trans hsz
        have e11 : C1 1 = N1 1 := hR1.pl (pd_lo (by omega))
        have hP2 : PR (K1 + 8) (nPut C1 x r j (nI y) (nI u) (C1 1) (nI 0)) (nPut N1 x r j (nI y) (nI u) (N1 1) (nI 0)) := by
          refine PR.le (K := K1) ⟨M1, hV1.put hx hr hy hyx hq' hu1 hu9 hj hsz, ?_⟩ (by omega) (by omega)
          rw [e11]
          exact (hR1.put hM1 hx hr hj hsz).pq fun z hz => ⟨nPut_n (by omega) (by omega), nPut_n (by omega) (by omega)⟩
        obtain ⟨C', N', O', W', b', w', g1, g2, g3⟩ := j_years hn d (i + 1) (K1 + 8) _ _ O W b w5 (by omega) hP2 (by omega)
        refine ⟨C', N', O', W', b', w', fun σ => ?_, fun τ => ?_, by rw [show K1 + 8 * (d + 1) = K1 + 8 + 8 * d from by omega]; exact g3⟩
        · rw [ch, v1]
          dsimp only [bdI]
          rw [if_pos n00, c_take hx6 hr hj csz]
          dsimp only
          exact g1 σ
        · have mp := m_put (σ := wM (lay (rs τ w5)) N1 O W b) (to := nI y) (uu := nI u) (mk := nI 0) hx6 hr hj (by rw [wM_30]; exact hsz)
          rw [wM_30, wM_30F] at mp
          rw [rh, v2 _ wM_30]
          dsimp only [bdI]
          rw [if_pos n00, mp]
          dsimp only [bdV]
          exact g2 τ
theorem ds_sw : Sw σ (wC 1 (ds σ wd) C) := (Sm.so (by unfold Scr aK; decide) (by decide)).sw.tr Sm.w1.sw
theorem ds_x (h : o ≠ (1, 10, 0, 0)) (h2 : ¬ (aK o.1 ∧ o.2.1 = 1)) : (wC 1 (ds σ wd) C).1 o = σ.1 o := by
  rw [wC_same h2]
  exact st_ne h
theorem rs_sw : Sw σ (rs σ wd) := (Sm.s10 (by decide) (by decide)).sw
theorem o_years (hJ : J K σ) (hK : K + 320 ≤ K') (h24 : K' < 2 ^ 24) : Res K' (e_X9_years p1 p2) (e_X10_years p1 p2) σ := by
  by_cases h1 : ¬ p2 < nI 1 ∧ ¬ nI 40 < p2
  · obtain ⟨C, M, C1, hd, hV, hR, tb, hR1⟩ := tri hJ
    have hM := hV.1.2.1
    have hN0 := hV.1.1
    have h1' := h1
    obtain ⟨n, n1, n2, rfl⟩ := one_n (by omega) h1'
    obtain ⟨C', N', O', W', b', w', s1, s2, M', hV', hR'⟩ := j_years (n := n) (by omega) n 0 K C1 (σ.1 (30, 0, 0, 0)) (σ.1 (34, 0, 0, 0)) (σ.1 (35, 0, 0, 0)) (σ.1 (10, 0, 0, 0) 12) p1 (by omega) ⟨M, hV, hR1⟩ (by omega)
    have hM' := hV'.1.2.1
    have hN0' := hV'.1.1
    have hd1 : Hd 1 (wC 1 (ds σ w') C') C' := Hd.mk'
    have hd0 : Hd 0 (wC 1 (ds σ w') C') C := (hd.mono (σ' := ds σ w') fun o h1 h2 => st_ne (fun e => by rw [e] at h1; cases h1)).oth (by omega)
    obtain ⟨i1, i2, i3, i4⟩ := hV.2.2.2.2.2.1.2
    obtain ⟨j1, j2, j3, j4⟩ := hV'.2.2.2.2.2.1.2
    have hf : e_X9_years p1 (nI n) σ = some (some (some (.inl (N' 1336 - σ.1 (30, 0, 0, 0) 1336))), tC (wC 1 (ds σ w') C') [(N' 1337 - σ.1 (30, 0, 0, 0) 1337).toInt64, (sW N' M').toInt64, (N' 1 - σ.1 (30, 0, 0, 0) 1).toInt64]) := by
      rw [q_X9_years, if_neg h1.1, if_neg h1.2, tb]
      dsimp only [bdV]
      rw [ds_w, s1, q_X9_years_34, if_neg (nI_nlt (by omega) (by omega)), c_sumOf hd1 hR' hM' hN0' (by omega)]
      dsimp only [bdI]
      rw [c_sumOf hd0 hR hM hN0 (by omega)]
      dsimp only
      rw [c_allW hd1 hR' hM' hN0']
      dsimp only
      rw [hd1.rd ix_time, hd0.rd ix_time, k_three]
      dsimp only [bdV]
      rw [c_sumOf hd1.cT hR' hM' hN0' (by omega)]
      dsimp only
      rw [c_sumOf hd0.cT hR hM hN0 (by omega)]
      dsimp only
      rw [← i1, ← i2, ← j1, ← j2, hR'.pl (pd_lo (by omega)), hR.pl (pd_lo (by omega))]
    generalize hl : [(N' 1337 - σ.1 (30, 0, 0, 0) 1337).toInt64, (sW N' M').toInt64, (N' 1 - σ.1 (30, 0, 0, 0) 1).toInt64] = l at hf
    have hlen : l.length = 3 := by rw [← hl]; rfl
    have f1 : ∀ o : mO, o.1 ≠ 4 → o ≠ (1, 10, 0, 0) → ¬ (aK o.1 ∧ o.2.1 = 1) → (tC (wC 1 (ds σ w') C') l).1 o = σ.1 o := fun o g1 g2 g3 => by
      rw [tC_same g1, ds_x g2 g3]
    have e30 := f1 (30, 0, 0, 0) (by decide) (by decide) (by unfold aK; decide)
    have e34 := f1 (34, 0, 0, 0) (by decide) (by decide) (by unfold aK; decide)
    have e35 := f1 (35, 0, 0, 0) (by decide) (by decide) (by unfold aK; decide)
    have e10 := f1 (10, 0, 0, 0) (by decide) (by decide) (by unfold aK; decide)
    generalize hτ : st (tC (wC 1 (ds σ w') C') l) (10, 0, 0, 0) 5 (nI 0) = τ5
    have t30' : ∀ wd, (rs τ5 wd).1 (30, 0, 0, 0) = σ.1 (30, 0, 0, 0) := fun wd => by
      unfold rs
      rw [s30, ← hτ, s30, e30]
    have lw := lay5 (τ := rs τ5 p1) (N := σ.1 (30, 0, 0, 0)) (O := σ.1 (34, 0, 0, 0)) (W := σ.1 (35, 0, 0, 0)) (b := σ.1 (10, 0, 0, 0) 12) (t30' _) (by unfold rs; rw [st_ne (by decide), ← hτ, st5_x (by decide), e34]) (by unfold rs; rw [st_ne (by decide), ← hτ, st5_x (by decide), e35]) (by unfold rs; rw [st_self, upd_n (by decide), ← hτ, st5_10 (by decide), e10])
    have hg : e_X10_years p1 (nI n) (tC (wC 1 (ds σ w') C') l) = some (some (some (.inl (N' 1336 - σ.1 (30, 0, 0, 0) 1336))), tM (bck (rs τ5 w') N' O' W' b') l) := by
      rw [q_X10_years, hτ]
      dsimp only
      rw [m_in]
      dsimp only [bdI]
      rw [if_bI h1]
      rw [show st τ5 (10, 0, 0, 0) 18 p1 = rs τ5 p1 from rfl, lw]
      dsimp only [bdV]
      rw [s2, q_X10_years_28, if_neg (nI_nlt (by omega) (by omega)), M_allW (by rw [wM_30]; exact hN0') hM']
      dsimp only [bdI]
      rw [m_bck]
      dsimp only [bdV]
      rw [r_empty, wM_30, lay_36, if_neg (nI_in (by omega) (by omega)), if_neg (nI_in (by omega) (by omega)), if_neg (nI_in (by omega) (by omega)), if_neg (nI_in (by omega) (by omega)), if_neg (nI_in (by omega) (by omega)), if_neg (nI_in (by omega) (by omega)), nI_clamp (n := 1336) (by omega), nI_clamp (n := 1337) (by omega), nI_clamp (n := 1) (by omega), cpl_lt (by omega), cpl_lt (by omega), cpl_lt (by omega), t30', r_t0]
      dsimp only
      rw [r_t1]
      dsimp only
      rw [r_t2, ← hl]
    refine finBT (σ1 := wC 1 (ds σ w') C') (l := l) (τ := rs τ5 w') hJ (by omega) h24 (fun _ _ h => Ev_gn h) (fun _ _ h => Ev_gn h) (by omega) ds_sw ?_ ?_ ?_ hf hg
    · rw [← hτ]
      exact Sw.st5.tr rs_sw
    · unfold rs
      rw [st_ne (by decide), ← hτ, st_ne (by decide)]
    · rw [← hτ]
      rfl
  · refine fin0 (v := -1) hJ (by omega) h24 (fun _ _ h => Ev_gn h) (fun _ _ h => Ev_gn h) ?_ ?_
    · rw [q_X9_years]
      by_cases h3 : p2 < nI 1
      · rw [if_pos h3]
      · rw [if_neg h3, if_pos (Classical.byContradiction fun q => h1 ⟨h3, q⟩)]
    · rw [q_X10_years]
      dsimp only
      rw [m_in]
      dsimp only [bdI]
      rw [if_nbI h1]
end YR

/-! sheet, whole; what would be: ahead, quiet, next -/
section TR
variable {M K K' s z r i n m k a b x y t h w lo sz la u : Nat} {σ τ σ' σ'' σp σm σ1 σ2 : mS} {A C C1 D N N' N1 C' Cp O W P Q U F G : Nat → Int32} {E E' : Nat → Nat → Int32} {o o' : mO} {v p p1 p2 p3 p4 p5 mk kd e c fF step : Int32} {S S' : mO → Prop} {l : List Int64} {f g : mS → Option mR}
theorem M_go_from (hN0 : σ.1 (30, 0, 0, 0) 0 = nI M) (hM : M ≤ 6) : ∀ d i, i + d = M → b_X10_goesOn_2 (nI i) σ = some (some (some (.inl (bI (∃ s, i ≤ s ∧ s < M ∧ σ.1 (30, 0, 0, 0) (1179 + 16 * s) = nI 1)))), σ)
  | 0, i, hi => by
    rw [show i = M from by omega, q_X10_goesOn_2, if_neg c0, c0c, hN0, if_neg (nI_nlt (by omega) (by omega)), if_pos z1, bI_f]
    rintro ⟨s, h1, h2, -⟩
    omega
  | d + 1, i, hi => by
    rw [q_X10_goesOn_2, if_neg c0, c0c, hN0, if_pos (nI_lt (by omega) (by omega)), m_exAt]
    dsimp only [bdI]
    rw [nI_add, if_neg (nI_in (by omega) (by omega)), nI_clamp (by omega), Nat.add_zero, nI_1]
    by_cases g : σ.1 (30, 0, 0, 0) (1179 + 16 * i) = nI 1
    · rw [if_pos g, if_pos o1, bI_t ⟨i, by omega, by omega, g⟩]
    · rw [if_neg g, M_go_from hN0 hM d (i + 1) (by omega)]
      congr 5
      refine bI_c ⟨fun ⟨s, h1, h2, h3⟩ => ⟨s, by omega, h2, h3⟩, fun ⟨s, h1, h2, h3⟩ => ⟨s, ?_, h2, h3⟩⟩
      by_cases q : s = i
      · rw [q] at h3; exact absurd h3 g
      · omega
theorem M_goes (hN0 : σ.1 (30, 0, 0, 0) 0 = nI M) (hM : M ≤ 6) : e_X10_goesOn σ = some (some (some (.inl (bI (∃ s, s < M ∧ σ.1 (30, 0, 0, 0) (1179 + 16 * s) = nI 1)))), σ) := by
  rw [q_X10_goesOn, M_go_from hN0 hM M 0 (by omega)]
  congr 5
  exact bI_c ⟨fun ⟨s, _, h2, h3⟩ => ⟨s, h2, h3⟩, fun ⟨s, h2, h3⟩ => ⟨s, by omega, h2, h3⟩⟩
theorem sX_on (hE : ∀ s, s < M → EV M N s) (hM : M ≤ 6) : (sX N M = 0 ↔ ¬ ∃ s, s < M ∧ N (1179 + 16 * s) = nI 1) ∧ (0 < sX N M ↔ ∃ s, s < M ∧ N (1179 + 16 * s) = nI 1) := by
  have h1 := zcnt_le (fun s => N (1179 + 16 * s) = nI 1) M
  have h2 := zcnt_0 (p := fun s => N (1179 + 16 * s) = nI 1) M
  rw [sX_cnt M (Nat.le_refl _) hE, nI_eq0 (by omega), nI_0lt (by omega)]
  have h3 : zcnt (fun s => N (1179 + 16 * s) = nI 1) M = 0 ↔ ¬ ∃ s, s < M ∧ N (1179 + 16 * s) = nI 1 := by
    rw [h2]
    exact ⟨fun q ⟨s, a, b⟩ => q s a b, fun q s a b => q ⟨s, a, b⟩⟩
  refine ⟨h3, ?_⟩
  constructor
  · intro q
    apply Classical.byContradiction
    intro q2
    have := h3.mpr q2
    omega
  · intro q
    have : ¬ zcnt (fun s => N (1179 + 16 * s) = nI 1) M = 0 := fun e => h3.mp e q
    omega
theorem o_sheet (hJ : J K σ) (hK : K ≤ K') (h24 : K' < 2 ^ 24) : Res K' (e_X9_sheet p1 p2 p3 p4 p5) (e_X10_sheet p1 p2 p3 p4 p5) σ := by
  obtain ⟨C, M, hd, hV, hR⟩ := jget hJ
  have hM := hV.1.2.1
  have hN0 := hV.1.1
  have h0 : C 0 = nI M := (hR.pl (pd_lo (by omega))).trans hN0
  by_cases h1 : isS 4 p1
  · by_cases h2 : ¬ p2 < nI 0 ∧ ¬ nI 3 < p2
    · have h20 : ¬ p2 < 0 := h2.1
      by_cases h3 : nI 6 < p3
      · refine fin0 (v := -1) hJ hK h24 (fun _ _ h => Ev_gn h) (fun _ _ h => Ev_gn h) ?_ ?_
        · rw [q_X9_sheet, c_isRk]
          dsimp only [bdI]
          rw [if_bI h1, if_neg h20, if_neg h2.2, if_pos h3]
        · rw [q_X10_sheet]
          dsimp only
          rw [m_isRk]
          dsimp only [bdI]
          rw [if_bI h1, m_in]
          dsimp only
          rw [if_bI h2, if_pos h3]
      · have so := sX_on hV.2.2.2.1 hM
        have ch : ∀ X : Option mR, X = (if p2 = nI 3 then bdV (e_X0_emptyQueues 0 p1 σ) (fun σ5 => if p2 = nI 3 then some (some (some (.inl (-3))), σ5) else b_X9_sheet_71 p1 p2 p3 p4 p5 (nI 0) (nI 0) σ5) else if p3 < 0 then some (some (some (.inl (-2))), σ) else bdV (e_X0_emptyQueues 0 p1 σ) (fun σ6 => if p2 = nI 3 then some (some (some (.inl (-3))), σ6) else b_X9_sheet_71 p1 p2 p3 p4 p5 (nI 0) (nI 0) σ6)) → e_X9_sheet p1 p2 p3 p4 p5 σ = if 0 < sX (σ.1 (30, 0, 0, 0)) M then some (some (some (.inl (-4))), σ) else X := fun X hX => by
          rw [hX, q_X9_sheet, c_isRk]
          dsimp only [bdI]
          rw [if_bI h1, if_neg h20, if_neg h2.2, if_neg h3, c_exOn hd hR hM hN0 hV.2.2.2.1]
        have mh : ∀ τ : mS, τ.1 (30, 0, 0, 0) = σ.1 (30, 0, 0, 0) → e_X10_sheet p1 p2 p3 p4 p5 τ = if 0 < sX (σ.1 (30, 0, 0, 0)) M then some (some (some (.inl (-4))), st τ (10, 0, 0, 0) 5 (nI 0)) else (if p2 < nI 3 then (if p3 < 0 then some (some (some (.inl (-2))), st τ (10, 0, 0, 0) 5 (nI 0)) else b_X10_sheet_61 p1 p2 p3 p5 (nI 0) p4 (nI 0) (st τ (10, 0, 0, 0) 5 (nI 0))) else b_X10_sheet_61 p1 p2 p3 p5 (nI 0) p4 (nI 0) (st τ (10, 0, 0, 0) 5 (nI 0))) := fun τ hτ => by
          rw [q_X10_sheet]
          dsimp only
          rw [m_isRk]
          dsimp only [bdI]
          rw [if_bI h1, m_in]
          dsimp only
          rw [if_bI h2, if_neg h3, M_goes (by rw [s30, hτ]; exact hN0) hM, s30, hτ]
          dsimp only
          by_cases g : ∃ s, s < M ∧ σ.1 (30, 0, 0, 0) (1179 + 16 * s) = nI 1
          · rw [if_bI g, if_pos (so.2.mpr g)]
          · rw [if_nbI g, if_neg (fun q => g (so.2.mp q))]
        by_cases g : 0 < sX (σ.1 (30, 0, 0, 0)) M
        · refine fin0 (v := -4) hJ hK h24 (fun _ _ h => Ev_gn h) (fun _ _ h => Ev_gn h) ?_ ?_
          · rw [ch _ rfl, if_pos g]
          · rw [mh σ rfl, if_pos g]
        · have hoff : ∀ s, s < M → σ.1 (30, 0, 0, 0) (1179 + 16 * s) = nI 0 := fun s hs => by
            rcases hV.2.2.2.1 s hs with q | ⟨y, r, h, ph, c, q, w, p, q1⟩
            · exact q
            · exact absurd (so.2.mpr ⟨s, hs, q1.1.1⟩) g
          have h1' := h1
          obtain ⟨r, hr, rfl⟩ := h1'
          have hem := c_empty hd h0 hM hr
          have hS : ShI M K r 0 (nEm C r 0 M) (σ.1 (30, 0, 0, 0)) := ⟨hV.em hr hoff, (hR.em hM hr).pq fun z hz => ⟨em_n (by omega), em_n (by omega)⟩⟩
          have tm : ∀ τ : mS, τ.1 (30, 0, 0, 0) = σ.1 (30, 0, 0, 0) → sF (st τ (10, 0, 0, 0) 5 (nI 0)) (30, 0, 0, 0) (σ.1 (30, 0, 0, 0)) = st τ (10, 0, 0, 0) 5 (nI 0) := fun τ hτ => by
            have := sF_self (σ := st τ (10, 0, 0, 0) 5 (nI 0)) (o := (30, 0, 0, 0))
            rwa [s30, hτ] at this
          have w30 : ∀ X : Nat → Int32, (wC 0 σ X).1 (30, 0, 0, 0) = σ.1 (30, 0, 0, 0) := fun X => wC_same (by unfold aK; decide)
          by_cases h3' : p2 = nI 3
          · obtain ⟨N', e1, e2⟩ := sh_rest (C := nEm C r 0 M) (kd := p2) (c := nI 0) (x3 := p3) (x5 := p5) hM hr M 0 (σ.1 (30, 0, 0, 0)) (by omega) hS (fun j _ _ q => by rw [h3'] at q; exact absurd q.1 (by decide))
            have e2' := e2
            unfold ShI at e2'
            rw [em_M] at e2'
            refine finA (v := -3) (C1 := nEm C r 0 M) (N1 := N') hJ hK h24 (fun _ _ h => Ev_gn h) (fun _ _ h => Ev_gn h) ?_ ?_ (PR.le ⟨M, e2'⟩ hK h24)
            · rw [ch _ rfl, if_neg g, if_pos h3', hem]
              dsimp only [bdV]
              rw [if_pos h3']
            · rw [mh _ (w30 _), if_neg g, if_neg (fun q => by rw [h3'] at q; exact absurd q (by decide))]
              have := e1 (st (wC 0 σ (nEm C r 0 M)) (10, 0, 0, 0) 5 (nI 0)) p4
              rw [tm _ (w30 _), if_pos h3'] at this
              exact this
          · have hlt : p2 < nI 3 := by
              have q1 := h2.2
              have q2 : p2.toInt ≠ (nI 3).toInt := fun q => h3' (i32_eq q)
              rw [i32_lt] at q1 ⊢
              omega
            by_cases h4 : p3 < 0
            · refine fin0 (v := -2) hJ hK h24 (fun _ _ h => Ev_gn h) (fun _ _ h => Ev_gn h) ?_ ?_
              · rw [ch _ rfl, if_neg g, if_neg h3', if_pos h4]
              · rw [mh σ rfl, if_neg g, if_pos hlt, if_pos h4]
            · obtain ⟨n, hn, rfl⟩ := (in_S2 (k := 6) (by omega)).mp (⟨h4, h3⟩ : ¬ p3 < nI 0 ∧ ¬ nI 6 < p3)
              obtain ⟨C', N', c', e1, e2, e3⟩ := sh_all (fF := p4) (step := p5) (n := n) hM hr hlt (by omega) M 0 (nEm C r 0 M) (σ.1 (30, 0, 0, 0)) (nI 0) (by omega) (by omega) hS
              have e3' := e3
              unfold ShI at e3'
              rw [em_M] at e3'
              refine finA (v := c') (C1 := C') (N1 := N') hJ hK h24 (fun _ _ h => Ev_gn h) (fun _ _ h => Ev_gn h) ?_ ?_ (PR.le ⟨M, e3'⟩ hK h24)
              · rw [ch _ rfl, if_neg g, if_neg h3', if_neg h4, hem]
                dsimp only [bdV]
                rw [if_neg h3', e1]
              · rw [mh _ (w30 _), if_neg g, if_pos hlt, if_neg h4]
                have := e2 (st (wC 0 σ C') (10, 0, 0, 0) 5 (nI 0))
                rw [tm _ (w30 _), show nI 0 * p5 = 0 from Int32.zero_mul, Int32.add_zero] at this
                exact this
    · refine fin0 (v := -1) hJ hK h24 (fun _ _ h => Ev_gn h) (fun _ _ h => Ev_gn h) ?_ ?_
      · rw [q_X9_sheet, c_isRk]
        dsimp only [bdI]
        rw [if_bI h1]
        by_cases h4 : p2 < 0
        · rw [if_pos h4]
        · rw [if_neg h4, if_pos (Classical.byContradiction fun q => h2 ⟨h4, q⟩)]
      · rw [q_X10_sheet]
        dsimp only
        rw [m_isRk]
        dsimp only [bdI]
        rw [if_bI h1, m_in]
        dsimp only
        rw [if_nbI h2]
  · refine fin0 (v := -1) hJ hK h24 (fun _ _ h => Ev_gn h) (fun _ _ h => Ev_gn h) ?_ ?_
    · rw [q_X9_sheet, c_isRk]
      dsimp only [bdI]
      rw [if_nbI h1]
    · rw [q_X10_sheet]
      dsimp only
      rw [m_isRk]
      dsimp only [bdI]
      rw [if_nbI h1]
/-- the same but for scratch and for what lies behind the row -/
def Sw (σ σ' : mS) : Prop := (∀ o, ¬ Scr o → o ≠ (30, 0, 0, 0) → σ'.1 o = σ.1 o) ∧ (∀ k, k < 1432 → σ'.1 (30, 0, 0, 0) k = σ.1 (30, 0, 0, 0) k) ∧ σ'.1 (10, 0, 0, 0) 2 = σ.1 (10, 0, 0, 0) 2 ∧ σ'.1 (10, 0, 0, 0) 17 = σ.1 (10, 0, 0, 0) 17
theorem J.sw (h : J K σ) (hs : Sw σ σ') (hn : JN σ') (hb : Bo σ') (hK : K ≤ K') (h24 : K' < 2 ^ 24) : J K' σ' := by
  obtain ⟨s1, s2, s3, s4⟩ := hs
  have hm : Sm σ (sF σ' (30, 0, 0, 0) (σ.1 (30, 0, 0, 0))) := ⟨fun o ho => by
      by_cases q : o = (30, 0, 0, 0)
      · rw [q, sF_at]
      · rw [sF_ne q, s1 o ho q], by rw [sF_ne (by decide)]; exact s3, by rw [sF_ne (by decide)]; exact s4⟩
  have hb' : Bo (sF σ' (30, 0, 0, 0) (σ.1 (30, 0, 0, 0))) := fun o i hbc => by
    rw [sF_ne (fun q => by rw [q] at hbc; exact absurd hbc (by rw [bcl_hi (by decide)]; decide))]
    exact hb o i hbc
  obtain ⟨⟨C, a1, a2⟩, ju, jk, jt, -, -⟩ := h.sm hm (hn.same (by rw [sF_ne (by decide)]) (by rw [sF_ne (by decide)]) rfl rfl) hb' hK h24
  rw [sF_at] at a2
  have fr : ∀ o : mO, o ≠ (30, 0, 0, 0) → σ'.1 o = (sF σ' (30, 0, 0, 0) (σ.1 (30, 0, 0, 0))).1 o := fun o ho => (sF_ne ho).symm
  have nk : ∀ o : mO, aK o.1 → o ≠ (30, 0, 0, 0) := fun o hk q => by rw [q] at hk; unfold aK at hk; omega
  refine ⟨⟨C, a1.mono fun o _ hk => fr o (nk o hk), a2.congN s2⟩, ju.same (Nat.le_refl _) h24 (fun o _ _ hk => fr o (nk o hk)) (fr _ (by decide)) (by rw [fr _ (by decide)]) (fr _ (by decide)), jk.same (Nat.le_refl _) h24 (fun o _ _ hk => fr o (nk o hk)) (fr _ (by decide)) (fr _ (by decide)) (fr _ (by decide)), ?_, hn, hb⟩
  obtain ⟨tn, t1, t2, t3, t4⟩ := jt
  refine ⟨tn, t1, ?_, ?_, ?_⟩
  · rw [fr _ (by decide)]; exact t2
  · rw [fr _ (by decide)]; exact t3
  · rw [fr (23, 0, 0, 0) (by decide), fr (31, 0, 0, 0) (by decide)]; exact t4
/-- the reference's store amid what would be -/
def lay (σ : mS) : mS := sF σ (36, 0, 0, 0) (cpl (σ.1 (30, 0, 0, 0)) (σ.1 (36, 0, 0, 0)) 1432)
theorem lay_rd (h : o ≠ (36, 0, 0, 0)) : (lay σ).1 o = σ.1 o := sF_ne h
theorem lay_w : wM (lay σ) (σ.1 (30, 0, 0, 0)) (σ.1 (34, 0, 0, 0)) (σ.1 (35, 0, 0, 0)) (σ.1 (10, 0, 0, 0) 12) = lay σ := by
  have h := wM_self (lay σ)
  rwa [lay_rd (by decide), lay_rd (by decide), lay_rd (by decide), lay_rd (by decide)] at h
/-- back from it -/
def bck (σ : mS) (N O W : Nat → Int32) (b : Int32) : mS := sF (wM (lay σ) N O W b) (30, 0, 0, 0) (cpl (cpl (σ.1 (30, 0, 0, 0)) (σ.1 (36, 0, 0, 0)) 1432) N 1432)
theorem lay_36 {b : Int32} : (wM (lay σ) N O W b).1 (36, 0, 0, 0) = cpl (σ.1 (30, 0, 0, 0)) (σ.1 (36, 0, 0, 0)) 1432 := by
  rw [wM_same (by decide)]
  exact sF_at
theorem m_bck {b : Int32} : e_X10_comesBack (wM (lay σ) N O W b) = some (some none, bck σ N O W b) := by
  rw [m_back, lay_36, wM_30]
  rfl
theorem bck_ne {b : Int32} (h : o.1 ≠ 30 ∧ o.1 ≠ 34 ∧ o.1 ≠ 35 ∧ o.1 ≠ 10) (h2 : o.1 ≠ 36) : (bck σ N O W b).1 o = σ.1 o := by
  unfold bck
  rw [sF_ne (fun e => h.1 (by rw [e])), wM_same h, lay_rd (fun e => h2 (by rw [e]))]
theorem bck_10 {b : Int32} (h : i ≠ 12) : (bck σ N O W b).1 (10, 0, 0, 0) i = σ.1 (10, 0, 0, 0) i := by
  unfold bck
  rw [sF_ne (by decide), wM_10 h, lay_rd (by decide)]
theorem bck_30 {b : Int32} (h : k < 1432) : (bck σ N O W b).1 (30, 0, 0, 0) k = σ.1 (30, 0, 0, 0) k := by
  unfold bck
  rw [sF_at, cpl_lt h, cpl_lt h]
theorem Sw.bk {b : Int32} : Sw σ (bck σ N O W b) := by
  refine ⟨fun o ho h30 => ?_, fun k hk => bck_30 hk, bck_10 (by decide), bck_10 (by decide)⟩
  unfold bck
  rw [sF_ne h30]
  have h10 : o.1 ≠ 10 := fun e => ho (by unfold Scr; omega)
  have h34 : o.1 ≠ 34 := fun e => ho (by unfold Scr; omega)
  have h35 : o.1 ≠ 35 := fun e => ho (by unfold Scr; omega)
  have h36 : o.1 ≠ 36 := fun e => ho (by unfold Scr; omega)
  have : (wM (lay σ) N O W b).1 o = (lay σ).1 o := by
    funext q
    simp only [wM]
    rw [if_neg h30, if_neg (fun e => h34 (by rw [e])), if_neg (fun e => h35 (by rw [e])), if_neg (fun e => h10 (by rw [e.1]))]
  rw [this, lay_rd (fun e => h36 (by rw [e]))]
theorem Sw.tr (h1 : Sw σ σ') (h2 : Sw σ' σ'') : Sw σ σ'' := ⟨fun o a b => (h2.1 o a b).trans (h1.1 o a b), fun k hk => (h2.2.1 k hk).trans (h1.2.1 k hk), h2.2.2.1.trans h1.2.2.1, h2.2.2.2.trans h1.2.2.2⟩
theorem Sm.sw (h : Sm σ σ') : Sw σ σ' := ⟨fun o a _ => h.1 o a, fun k _ => by rw [h.1 (30, 0, 0, 0) (by unfold Scr aK; decide)], h.2.1, h.2.2⟩
end TR

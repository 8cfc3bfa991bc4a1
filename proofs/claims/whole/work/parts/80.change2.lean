/-! Calls that change: sets, undo -/
section MW
variable {M K K' s z r i n m k a b x y t h w lo sz la u : Nat} {σ τ σ' σ'' σp σm σ1 σ2 : mS} {A C C1 D N N' N1 C' Cp O W P Q U F G : Nat → Int32} {E E' : Nat → Nat → Int32} {o o' : mO} {v p p1 p2 p3 p4 mk : Int32} {S S' : mO → Prop} {l : List Int64} {f g : mS → Option mR}
theorem IV.stg (hV : IV M K N) (hi : i < 12) (hv : 1 ≤ u ∧ u ≤ mxs i) : IV M K (upd N (2 + i) (nI u)) := by
  obtain ⟨⟨a0, a1, a2, a3, a4, a5⟩, h2, h3, h4, h5, h6, t, t1, t2, t3, t4, t5⟩ := hV
  have q : ∀ k, 14 ≤ k → upd N (2 + i) (nI u) k = N k := fun k hk => upd_n (by omega)
  refine ⟨⟨(upd_n (by omega)).trans a0, a1, fun j hj => ?_, fun s z hs hz => ?_, fun s hs => (q _ (by omega)).trans (a4 s hs), fun s z hs hz h => (q _ (by omega)).trans (a5 s z hs hz h)⟩, h2.mono a1 fun k _ _ => q k (by omega), h3.mono a1 (fun k _ _ => q k (by omega)) (fun k _ _ => q k (by omega)), fun s hs => (h4 s hs).mono hs a1 (fun k _ _ => q k (by omega)) (fun k _ _ _ _ => q k (by omega)) (fun k _ _ => q k (by omega)) (fun k _ => q _ (by omega)), h5.mono a1 (fun k _ _ => q k (by omega)) (fun k _ _ => q k (by omega)), h6.mono a1 (q _ (by omega)) (fun k _ _ => q k (by omega)) (fun s t hs ht => q _ (by omega)), t, t1, t2, (upd_n (by omega)).trans t3, (q _ (by omega)).trans t4, fun s hs => ?_⟩
  · by_cases e : j = i
    · subst e
      exact ⟨u, upd_e rfl, hv.1, hv.2⟩
    · obtain ⟨v, b1, b2⟩ := a2 j hj
      exact ⟨v, (upd_n (by omega)).trans b1, b2⟩
  · obtain ⟨w, b1, b2, b3⟩ := a3 s z hs hz
    exact ⟨w, b1, (q _ (by omega)).trans b2, (q _ (by omega)).trans b3⟩
  · obtain ⟨w, b1, b2⟩ := t5 s hs
    exact ⟨w, b1, (q _ (by omega)).trans b2⟩
theorem IV.sd (hV : IV M K N) : IV M K (upd N 14 v) := by
  have hM := hV.1.2.1
  have q : ∀ k, k ≠ 14 → upd N 14 v k = N k := fun k hk => upd_n hk
  obtain ⟨t, t1, t2, t3, t4, t5⟩ := hV.2.2.2.2.2.2
  refine IV.mk' (hV.ic.mono14 (fun k _ g => q k g) (fun k _ _ => q k (by omega)) (fun k _ _ => q k (by omega)) (fun s t _ _ => q _ (by omega)) (fun k _ _ => q k (by omega))) (hV.2.2.2.2.1.mono hM (fun k _ _ => q k (by omega)) (fun k _ _ => q k (by omega))) ⟨t, t1, t2, (q _ (by omega)).trans t3, (q _ (by omega)).trans t4, fun s hs => ?_⟩
  obtain ⟨w, b1, b2⟩ := t5 s hs
  exact ⟨w, b1, (q _ (by omega)).trans b2⟩
theorem m_high (hi : i < 12) : e_X10_highOf (nI i) σ = some (some (some (.inl (nI (mxs i)))), σ) := by
  rw [q_X10_highOf]
  have : i = 0 ∨ i = 1 ∨ i = 2 ∨ i = 3 ∨ i = 4 ∨ i = 5 ∨ i = 6 ∨ i = 7 ∨ i = 8 ∨ i = 9 ∨ i = 10 ∨ i = 11 := by omega
  rcases this with rfl | rfl | rfl | rfl | rfl | rfl | rfl | rfl | rfl | rfl | rfl | rfl <;> rfl
theorem mxs_le : ∀ i, mxs i ≤ 63 := by
  intro i
  unfold mxs
  by_cases h : i < 12
  · have : i = 0 ∨ i = 1 ∨ i = 2 ∨ i = 3 ∨ i = 4 ∨ i = 5 ∨ i = 6 ∨ i = 7 ∨ i = 8 ∨ i = 9 ∨ i = 10 ∨ i = 11 := by omega
    rcases this with rfl | rfl | rfl | rfl | rfl | rfl | rfl | rfl | rfl | rfl | rfl | rfl <;> decide
  · rw [List.getD_eq_getElem?_getD, List.getElem?_eq_none (by simp; omega)]
    exact Nat.zero_le _
theorem st_sF0 : st σ o i v = sF σ o (upd (σ.1 o) i v) := by
  have h := sF_st (σ := σ) (o := o) (F := σ.1 o) (i := i) (v := v)
  rw [sF_self] at h
  exact h
/-- the static row -/
def Cx (σ : mS) : Prop := ∀ i, i < 12 → σ.1 (51, 0, 0, 0) i = nI (mxs i)
theorem set_fin (hJ : J K σ) (hK : K ≤ K') (h24 : K' < 2 ^ 24) (gf : Gd f) (gg : Gd g) (hd : Hd 0 σ C) (hV : IV M K (σ.1 (30, 0, 0, 0))) (hR : Rl M C (σ.1 (30, 0, 0, 0)) (dO (σ.1 (30, 0, 0, 0))) (dW (σ.1 (30, 0, 0, 0)))) (hk : k < 15) (hV' : IV M K (upd (σ.1 (30, 0, 0, 0)) k p))
    (hf : ∀ σp, e_X5_push 0 σ = some (some none, σp) → Hd 0 σp C → f σ = some (some (some (.inl v)), wC 0 σp (upd C k p)))
    (hg : ∀ σ1 σm : mS, σ1.1 (30, 0, 0, 0) = σ.1 (30, 0, 0, 0) → e_X10_change (st σ1 (10, 0, 0, 0) 5 (nI 0)) = some (some none, σm) → σm.1 (30, 0, 0, 0) = σ.1 (30, 0, 0, 0) → g σ1 = some (some (some (.inl v)), sF σm (30, 0, 0, 0) (upd (σ.1 (30, 0, 0, 0)) k p))) : Res K' f g σ := by
  have hM := hV.1.2.1
  have hN0 := hV.1.1
  have h0 : C 0 = nI M := (hR.pl (pd_lo (by omega))).trans hN0
  obtain ⟨sz, la, E, E', uc, um, hE⟩ := ju_get hJ.2.1
  obtain ⟨σp, Cp, q1, q2, q3, q4, q5⟩ := c_push uc hd (by omega) hJ.2.2.2.2.2 hM h0
  have hdp : Hd 0 σp C := push_hd hd q4
  have hf := hf σp q1 hdp
  have f1 : ∀ o : mO, ¬ BC o → (wC 0 σp (upd C k p)).1 o = σ.1 o := fun o ho => by
    rw [wC_same (fun e => ho (Or.inr (Or.inr (Or.inr (Or.inr ⟨e.1, by omega⟩))))), q4 o (fun e => ho (by rw [e]; exact Or.inl rfl)) (fun e => ho (Or.inr (Or.inr (Or.inr (Or.inr ⟨e.1, Or.inr e.2⟩)))))]
  have e30 := f1 (30, 0, 0, 0) (by unfold BC aK; decide)
  have e10 := f1 (10, 0, 0, 0) (by unfold BC aK; decide)
  have e38 := f1 (38, 0, 0, 0) (by unfold BC aK; decide)
  obtain ⟨σm, m1, m2, m3, m4, m5⟩ := m_change (σ := st (wC 0 σp (upd C k p)) (10, 0, 0, 0) 5 (nI 0)) (um.mono (by rw [st_self, upd_n (by decide), e10]) (by rw [st_ne (by decide), e38]))
  have m30 : σm.1 (30, 0, 0, 0) = σ.1 (30, 0, 0, 0) := by rw [m3 _ (by decide) (by decide) (by decide), s30, e30]
  have hg := hg _ σm e30 m1 m30
  refine ⟨v, _, _, hf, hg, mutJ (C1 := upd C k p) (σ1 := wC 0 σp (upd C k p)) (σm := σm) (Cp := Cp) hJ hK h24 hV hR uc.1 hE q2 q3 q4 Hd.mk' (fun o g1 g2 => wC_same g1) m2 (fun k hk => ?_) (fun o g1 g2 g3 => ?_) (fun f g1 g2 => ?_) (fun o g1 g2 g3 g4 => ?_) ?_ ?_ ?_ (hJ.2.2.2.2.1.same ?_ ?_ ?_ ?_) ((gg _ _ hg).2 ((gf _ _ hf).2 hJ.2.2.2.2.2))⟩
  · rw [cpl_lt hk, s30, e30]
  · rw [m3 o g1 g2 g3, st_ne g1]
  · rw [m4 f g1, st_self, upd_n g2]
  · rw [sF_ne (fun e => g1 (by rw [e]))]
  · rw [sF_ne (by decide)]
  · rw [sF_ne (by decide)]
  · rw [sF_at]
    exact PR.le ⟨M, hV', (hR.u hM (Or.inl hk)).pq fun z hz => ⟨upd_n (by omega), upd_n (by omega)⟩⟩ hK h24
  · rw [sF_ne (by decide), m3 _ (by decide) (by decide) (by decide), st_ne (by decide), wC_same (by unfold aK; decide), q4 _ (by decide) (by unfold aK; decide)]
  · rw [sF_ne (by decide), m4 _ (by decide), st_self, upd_n (by decide), e10]
  · show σm.2 _ = _
    rw [m5, st_2]
    show σp.2 _ = _
    rw [q5]
  · show σm.2 _ = _
    rw [m5, st_2]
    show σp.2 _ = _
    rw [q5]
theorem o_sets (hJ : J K σ) (hX : Cx σ) (hK : K ≤ K') (h24 : K' < 2 ^ 24) : Res K' (e_X9_sets p1 p2) (e_X10_sets p1 p2) σ := by
  obtain ⟨C, M, hd, hV, hR⟩ := jget hJ
  by_cases h1 : isS 13 p1
  · have h1' := h1
    obtain ⟨i, hi, rfl⟩ := h1'
    by_cases h12 : i = 12
    · subst h12
      refine set_fin (C := C) (M := M) (k := 14) (p := p2) (v := nI 100) hJ hK h24 (fun _ _ h => Ev_gn h) (fun _ _ h => Ev_gn h) hd hV hR (by omega) hV.sd (fun σp hp hdp => ?_) (fun σ1 σm e1 e2 e3 => ?_)
      · have hs := sC_seed (a := 0) (σ := σp) (C := C) (v := p2)
        rw [show wC 0 σp C = σp from hdp] at hs
        rw [q_X9_sets, if_neg (by decide), if_neg (by decide), if_pos rfl, hp]
        dsimp only [bdV]
        rw [hs]
      · rw [q_X10_sets]
        dsimp only
        rw [m_in, propext (in_S2 (by omega))]
        dsimp only [bdI]
        rw [if_bI h1, if_pos rfl, if_neg (by decide), if_pos rfl, e2]
        dsimp only [bdV]
        rw [if_neg (by decide), if_pos rfl, nI_add, nI_clamp (by omega), st_sF0, e3]
    · have hi12 : i < 12 := by omega
      have hne : ¬ nI i = nI 12 := fun e => h12 (nI_inj (by omega) (by omega) e)
      have hmx := mxs_le i
      have eS : σ.1 (11, 0, 0, 0) i = σ.1 (30, 0, 0, 0) (2 + i) := by rw [hd.rd (ix_set hi12), hR.pl (pd_lo (by omega))]
      have low : ∀ {X Y : Option mR}, (if nI i < 0 ∨ 12 ≤ (nI i).toNatClampNeg then X else Y) = Y := if_neg (nI_in hi12 (by omega))
      have chd : e_X9_sets (nI i) p2 σ = (if p2 < nI 1 then some (some (some (.inl (-1))), σ) else if nI (mxs i) < p2 then some (some (some (.inl (-1))), σ) else if σ.1 (30, 0, 0, 0) (2 + i) = p2 then some (some (some (.inl (-2))), σ) else bdV (e_X5_push 0 σ) (fun σ3 => some (some (some (.inl (nI 100 + σ.1 (30, 0, 0, 0) (2 + i)))), st σ3 (11, 0, 0, 0) i p2))) := by
        rw [q_X9_sets, if_neg (nI_pos (by omega)), if_neg (nI_nlt (by omega) (by omega)), if_neg hne]
        simp only [low]
        rw [nI_clamp (by omega), hX i hi12, eS]
      have mhd : ∀ τ : mS, τ.1 (30, 0, 0, 0) = σ.1 (30, 0, 0, 0) → e_X10_sets (nI i) p2 τ = (if ¬ (¬ p2 < nI 1 ∧ ¬ nI (mxs i) < p2) then some (some (some (.inl (-1))), st τ (10, 0, 0, 0) 5 (nI 0)) else if σ.1 (30, 0, 0, 0) (2 + i) = p2 then some (some (some (.inl (-2))), st τ (10, 0, 0, 0) 5 (nI 0)) else bdV (e_X10_change (st τ (10, 0, 0, 0) 5 (nI 0))) (fun σ14 => some (some (some (.inl (nI 100 + σ.1 (30, 0, 0, 0) (2 + i)))), st σ14 (30, 0, 0, 0) (2 + i) p2))) := fun τ hτ => by
        rw [q_X10_sets]
        dsimp only
        rw [m_in, propext (in_S2 (by omega))]
        dsimp only [bdI]
        rw [if_bI h1, if_neg hne, m_high hi12]
        dsimp only
        rw [m_in]
        dsimp only
        have low2 : ∀ {X Y : Option mR}, (if nI (2 + i) < 0 ∨ 1432 ≤ (nI (2 + i)).toNatClampNeg then X else Y) = Y := if_neg (nI_in (by omega) (by omega))
        simp only [nI_add, low2, if_neg hne]
        rw [nI_clamp (by omega), s30, hτ]
        by_cases g : ¬ p2 < nI 1 ∧ ¬ nI (mxs i) < p2
        · rw [if_bI g, if_neg (show ¬ ¬ (¬ p2 < nI 1 ∧ ¬ nI (mxs i) < p2) from fun q => q g)]
        · rw [if_nbI g, if_pos g]
      by_cases g : ¬ p2 < nI 1 ∧ ¬ nI (mxs i) < p2
      · by_cases g2 : σ.1 (30, 0, 0, 0) (2 + i) = p2
        · refine fin0 (v := -2) hJ hK h24 (fun _ _ h => Ev_gn h) (fun _ _ h => Ev_gn h) ?_ ?_
          · rw [chd, if_neg g.1, if_neg g.2, if_pos g2]
          · rw [mhd σ rfl, if_neg (fun q => q g), if_pos g2]
        · have g' := g
          obtain ⟨u, u1, u2, rfl⟩ := one_n (by omega) g'
          refine set_fin (C := C) (M := M) (k := 2 + i) (p := nI u) (v := nI 100 + σ.1 (30, 0, 0, 0) (2 + i)) hJ hK h24 (fun _ _ h => Ev_gn h) (fun _ _ h => Ev_gn h) hd hV hR (by omega) (hV.stg hi12 ⟨u1, u2⟩) (fun σp hp hdp => ?_) (fun σ1 σm e1 e2 e3 => ?_)
          · have hs := sC_set (a := 0) (σ := σp) (C := C) (v := nI u) hi12
            rw [show wC 0 σp C = σp from hdp] at hs
            rw [chd, if_neg g.1, if_neg g.2, if_neg g2, hp]
            dsimp only [bdV]
            rw [hs]
          · rw [mhd σ1 e1, if_neg (fun q => q g), if_neg g2, e2]
            dsimp only [bdV]
            rw [st_sF0, e3]
      · refine fin0 (v := -1) hJ hK h24 (fun _ _ h => Ev_gn h) (fun _ _ h => Ev_gn h) ?_ ?_
        · rw [chd]
          by_cases g3 : p2 < nI 1
          · rw [if_pos g3]
          · rw [if_neg g3, if_pos (Classical.byContradiction fun q => g ⟨g3, q⟩)]
        · rw [mhd σ rfl, if_pos g]
  · refine fin0 (v := -1) hJ hK h24 (fun _ _ h => Ev_gn h) (fun _ _ h => Ev_gn h) ?_ ?_
    · rw [q_X9_sets]
      rcases nS_cases (k := 12) (by omega) h1 with h2 | h2
      · rw [if_pos h2]
      · by_cases h3 : p1 < 0
        · rw [if_pos h3]
        · rw [if_neg h3, if_pos h2]
    · rw [q_X10_sets]
      dsimp only
      rw [m_in, propext (in_S2 (by omega))]
      dsimp only [bdI]
      rw [if_nbI h1]
/-- one step back: the class -/
theorem c_pop (hU : UC σ sz la E) (h1 : 1 ≤ sz) (hB : Bo σ) (hM : M ≤ 6) (h0 : E 0 0 = nI M) : ∃ σp C', e_X5_popInto 0 σ = some (some (some (.inl (nI 1))), σp) ∧ (∃ lb, UC σp (sz - 1) lb (fun i => E (i + 1))) ∧ Hd 0 σp C' ∧ (∀ m, needC M m → C' m = E 0 m) ∧ (∀ o : mO, o ≠ (5, 0, 0, 0) → ¬ (aK o.1 ∧ o.2.1 = 0) → σp.1 o = σ.1 o) ∧ σp.2 = σ.2 := by
  obtain ⟨u1, u2, u3, u4, u5⟩ := hU
  have hx := u5 0 (by omega)
  rw [show (la + 6 - 0) % 6 = la from by omega] at hx
  obtain ⟨C', c1, c2⟩ := c_become (b := 0) hx (by omega) hB hM h0
  have w5 : (wC 0 σ C').1 (5, 0, 0, 0) = σ.1 (5, 0, 0, 0) := wC_same (by unfold aK; decide)
  have main : ∀ L, L = (if 0 < la then la - 1 else 5) → ∃ lb, UC (st (st (wC 0 σ C') (5, 0, 0, 0) 2 (nI L)) (5, 0, 0, 0) 1 (nI (sz - 1))) (sz - 1) lb (fun i => E (i + 1)) := fun L hL => by
    refine ⟨L, by omega, by rw [hL]; split <;> omega, by rw [st_self]; exact upd_s, by rw [st_self, upd_n (by decide), st_self]; exact upd_s, fun i hi => ?_⟩
    have h2 := u5 (i + 1) (by omega)
    have e : (L + 6 - i) % 6 = (la + 6 - (i + 1)) % 6 := by rw [hL]; split <;> omega
    rw [e]
    refine Hd.mono (σ := wC 0 σ C') (h2.oth (by omega)) fun o _ hk => ?_
    rw [st_ne (fun e => by rw [e] at hk; unfold aK at hk; omega), st_ne (fun e => by rw [e] at hk; unfold aK at hk; omega)]
  have fin : ∀ L, L = (if 0 < la then la - 1 else 5) → e_X5_popInto 0 σ = some (some (some (.inl (nI 1))), st (st (wC 0 σ C') (5, 0, 0, 0) 2 (nI L)) (5, 0, 0, 0) 1 (nI (sz - 1))) := fun L hL => by
    rw [q_X5_popInto, u3, if_neg (nI_nlt (by omega) (by omega)), u4, if_neg (nI_in (by omega) (by omega)), nI_clamp (by omega), c1]
    dsimp only [bdV]
    rw [w5, u4]
    by_cases hl : 0 < la
    · rw [if_pos (by rw [nI_0lt (by omega)]; exact hl), if_pos o1, pk_sub (by omega)]
      rw [if_pos hl] at hL
      rw [st_self, upd_n (by decide), w5, u3, pk_sub (by omega), hL]
    · rw [if_neg (by rw [nI_0lt (by omega)]; exact hl), if_pos o1]
      rw [if_neg hl] at hL
      rw [st_self, upd_n (by decide), w5, u3, pk_sub (by omega), hL]
  refine ⟨_, C', fin _ rfl, main _ rfl, Hd.mono (σ := wC 0 σ C') Hd.mk' fun o _ hk => ?_, c2, fun o g1 g2 => ?_, rfl⟩
  · rw [st_ne (fun e => by rw [e] at hk; unfold aK at hk; omega), st_ne (fun e => by rw [e] at hk; unfold aK at hk; omega)]
  · rw [st_ne g1, st_ne g1, wC_same g2]
def fromU (U G : Nat → Int32) (u i : Nat) : Nat → Int32 := fun k => if k < i then U (1432 * u + k) else G k
theorem fromU_0 : fromU U G u 0 = G := by
  funext k
  exact if_neg (by omega)
theorem fromU_s : upd (fromU U G u i) i (U (1432 * u + i)) = fromU U G u (i + 1) := by
  funext k
  unfold upd fromU
  by_cases h : k = i
  · rw [if_pos h, if_pos (by omega), h]
  · rw [if_neg h]
    by_cases h2 : k < i
    · rw [if_pos h2, if_pos (by omega)]
    · rw [if_neg h2, if_neg (by omega)]
theorem m_un_from (hu : u < 6) (h17 : σ.1 (10, 0, 0, 0) 17 = nI u) (hU : σ.1 (38, 0, 0, 0) = U) : ∀ d i, i + d = 1432 → b_X10_undo_26 (nI i) (sF σ (30, 0, 0, 0) (fromU U G u i)) = some (some (some (.inl (nI u))), sF σ (30, 0, 0, 0) (fromU U G u 1432))
  | 0, i, hi => by
    rw [show i = 1432 from by omega, q_X10_undo_26, if_neg (by decide), sF_ne (o' := (10, 0, 0, 0)) (by decide), h17]
  | d + 1, i, hi => by
    rw [q_X10_undo_26, if_pos (nI_lt (by omega) (by omega)), sF_ne (o' := (10, 0, 0, 0)) (by decide), sF_ne (o' := (38, 0, 0, 0)) (by decide), h17, hU, pk_mul, nI_add, if_neg (nI_in (by omega) (by omega)), if_neg (nI_in (by omega) (by omega)), nI_clamp (n := i) (by omega), nI_clamp (by omega), sF_st, fromU_s, nI_1]
    exact m_un_from hu h17 hU d (i + 1) (by omega)
theorem o_undo (hJ : J K σ) (hK : K ≤ K') (h24 : K' < 2 ^ 24) : Res K' e_X9_undo e_X10_undo σ := by
  obtain ⟨sz, la, E, E', uc, um, hE⟩ := ju_get hJ.2.1
  by_cases h1 : sz = 0
  · subst h1
    refine fin0 (v := -1) hJ hK h24 (fun _ _ h => Ev_gn h) (fun _ _ h => Ev_gn h) ?_ ?_
    · rw [q_X9_undo, q_X5_popInto, uc.2.2.1, if_pos (by decide), if_pos z1]
      dsimp only [bdI]
      rw [if_pos n00]
    · rw [q_X10_undo]
      dsimp only
      rw [st_self, upd_n (by decide), um.2.1, if_pos n00]
  · obtain ⟨M, hV, hR⟩ := hE 0 (by omega)
    have hM := hV.1.2.1
    have h0 : E 0 0 = nI M := (hR.pl (pd_lo (by omega))).trans hV.1.1
    obtain ⟨σp, C', q1, ⟨lb, q2⟩, q3, q4, q5, q6⟩ := c_pop uc (by omega) hJ.2.2.2.2.2 hM h0
    have hsz := uc.1
    have hf : e_X9_undo σ = some (some (some (.inl (nI (sz - 1)))), σp) := by
      rw [q_X9_undo, q1]
      dsimp only [bdI]
      rw [if_neg n10, q2.2.2.1]
    have f1 : ∀ o : mO, ¬ BC o → σp.1 o = σ.1 o := fun o ho => q5 o (fun e => ho (by rw [e]; exact Or.inl rfl)) (fun e => ho (Or.inr (Or.inr (Or.inr (Or.inr ⟨e.1, by omega⟩)))))
    have e10 := f1 (10, 0, 0, 0) (by unfold BC aK; decide)
    have e38 := f1 (38, 0, 0, 0) (by unfold BC aK; decide)
    have t17 : (st (st σp (10, 0, 0, 0) 5 (nI 0)) (10, 0, 0, 0) 17 (nI (sz - 1))).1 (10, 0, 0, 0) 17 = nI (sz - 1) := by rw [st_self]; exact upd_s
    have e2 := m_un_from (σ := st (st σp (10, 0, 0, 0) 5 (nI 0)) (10, 0, 0, 0) 17 (nI (sz - 1))) (u := sz - 1) (U := σ.1 (38, 0, 0, 0)) (G := (st (st σp (10, 0, 0, 0) 5 (nI 0)) (10, 0, 0, 0) 17 (nI (sz - 1))).1 (30, 0, 0, 0)) (by omega) t17 (by rw [st_ne (by decide), st_ne (by decide), e38]) 1432 0 (by omega)
    rw [fromU_0, sF_self] at e2
    have hg : e_X10_undo σp = some (some (some (.inl (nI (sz - 1)))), sF (st (st σp (10, 0, 0, 0) 5 (nI 0)) (10, 0, 0, 0) 17 (nI (sz - 1))) (30, 0, 0, 0) (fromU (σ.1 (38, 0, 0, 0)) ((st (st σp (10, 0, 0, 0) 5 (nI 0)) (10, 0, 0, 0) 17 (nI (sz - 1))).1 (30, 0, 0, 0)) (sz - 1) 1432)) := by
      have h17 : (st σp (10, 0, 0, 0) 5 (nI 0)).1 (10, 0, 0, 0) 17 = nI sz := by rw [st_self, upd_n (by decide), e10]; exact um.2.1
      rw [q_X10_undo]
      dsimp only
      rw [h17, if_neg (nI_ne0 (by omega) (by omega)), pk_sub (by omega)]
      exact e2
    have f2 : ∀ o : mO, ¬ BM o → (sF (st (st σp (10, 0, 0, 0) 5 (nI 0)) (10, 0, 0, 0) 17 (nI (sz - 1))) (30, 0, 0, 0) (fromU (σ.1 (38, 0, 0, 0)) ((st (st σp (10, 0, 0, 0) 5 (nI 0)) (10, 0, 0, 0) 17 (nI (sz - 1))).1 (30, 0, 0, 0)) (sz - 1) 1432)).1 o = σp.1 o := fun o ho => by
      rw [sF_ne (fun e => ho (by rw [e]; unfold BM; omega)), st_ne (fun e => ho (by rw [e]; unfold BM; omega)), st_ne (fun e => ho (by rw [e]; unfold BM; omega))]
    have f10 : ∀ f, f ≠ 17 → f ≠ 5 → (sF (st (st σp (10, 0, 0, 0) 5 (nI 0)) (10, 0, 0, 0) 17 (nI (sz - 1))) (30, 0, 0, 0) (fromU (σ.1 (38, 0, 0, 0)) ((st (st σp (10, 0, 0, 0) 5 (nI 0)) (10, 0, 0, 0) 17 (nI (sz - 1))).1 (30, 0, 0, 0)) (sz - 1) 1432)).1 (10, 0, 0, 0) f = σ.1 (10, 0, 0, 0) f := fun f g1 g2 => by
      rw [sF_ne (by decide), st_self, upd_n g1, st_self, upd_n g2, e10]
    have fr : ∀ o : mO, ¬ BC o → ¬ BM o → (sF (st (st σp (10, 0, 0, 0) 5 (nI 0)) (10, 0, 0, 0) 17 (nI (sz - 1))) (30, 0, 0, 0) (fromU (σ.1 (38, 0, 0, 0)) ((st (st σp (10, 0, 0, 0) 5 (nI 0)) (10, 0, 0, 0) 17 (nI (sz - 1))).1 (30, 0, 0, 0)) (sz - 1) 1432)).1 o = σ.1 o := fun o h1 h2 => (f2 o h2).trans (f1 o h1)
    refine ⟨_, _, _, hf, hg, hJ.mk2 hK h24 ⟨C', q3.mono fun o ho hk => f2 o (by unfold BM; unfold aK at hk; omega), ?_⟩ (ju_mk (sz := sz - 1) (la := lb) (E := fun i => E (i + 1)) (E' := fun i => E' (i + 1)) (q2.mono (f2 _ (by unfold BM; decide)) (fun o _ hk => f2 o (by unfold BM; unfold aK at hk; omega))) ⟨by omega, ?_, fun i hi k hk => ?_⟩ (fun i hi => (hE (i + 1) (by omega)).le hK h24)) fr (hJ.2.2.2.1.same ?_ (f10 _ (by decide) (by decide)) fr) (hJ.2.2.2.2.1.same ?_ (f10 _ (by decide) (by decide)) ?_ ?_) ((Ev_gn hg).2 ((Ev_gn hf).2 hJ.2.2.2.2.2))⟩
    · rw [sF_at]
      refine PR.congN (N := E' 0) (PR.le ⟨M, hV, hR.congC hM q4⟩ hK h24) fun k hk => ?_
      show (if k < 1432 then σ.1 (38, 0, 0, 0) (1432 * (sz - 1) + k) else _) = _
      rw [if_pos hk]
      exact um.2.2 0 (by omega) k hk
    · rw [sF_ne (by decide)]; exact t17
    · rw [sF_ne (by decide), st_ne (by decide), st_ne (by decide), e38]
      have := um.2.2 (i + 1) (by omega) k hk
      rw [show sz - 1 - (i + 1) = sz - 1 - 1 - i from by omega] at this
      exact this
    · rw [f2 _ (by unfold BM; decide), q5 _ (by decide) (by unfold aK; decide)]
    · rw [f2 _ (by unfold BM; decide), q5 _ (by decide) (by unfold aK; decide)]
    · show σp.2 _ = _
      rw [q6]
    · show σp.2 _ = _
      rw [q6]
end MW

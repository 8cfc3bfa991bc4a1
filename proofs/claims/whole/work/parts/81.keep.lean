/-! keep, again -/
section MX
variable {M K K' s z r i n m k a b x y t h w lo sz la u : Nat} {σ τ σ' σ'' σp σm σ1 σ2 : mS} {A C C1 D N N' N1 C' Cp O W P Q U F G : Nat → Int32} {E E' : Nat → Nat → Int32} {o o' : mO} {v p p1 p2 p3 p4 mk : Int32} {S S' : mO → Prop} {l : List Int64} {f g : mS → Option mR}
theorem m_kp_from (hu : u < 2) : ∀ d i, i + d = 1432 → b_X10_keep_25 (nI u) (nI i) (sF σ (40, 0, 0, 0) (inU U (σ.1 (30, 0, 0, 0)) u i)) = some (some (some (.inl (nI 1))), sF σ (40, 0, 0, 0) (inU U (σ.1 (30, 0, 0, 0)) u 1432))
  | 0, i, hi => by
    rw [show i = 1432 from by omega, q_X10_keep_25, if_neg (by decide), if_pos o1]
  | d + 1, i, hi => by
    rw [q_X10_keep_25, if_pos (nI_lt (by omega) (by omega)), sF_ne (o' := (30, 0, 0, 0)) (by decide), pk_mul, nI_add, if_neg (nI_in (by omega) (by omega)), if_neg (nI_in (by omega) (by omega)), nI_clamp (n := i) (by omega), nI_clamp (by omega), sF_st, inU_s, nI_1]
    exact m_kp_from hu d (i + 1) (by omega)
theorem m_ag_from (hu : u < 2) (hU : σ.1 (40, 0, 0, 0) = U) : ∀ d i, i + d = 1432 → b_X10_again_27 (nI u) (nI i) (sF σ (30, 0, 0, 0) (fromU U G u i)) = some (some (some (.inl (nI 1))), st (sF σ (30, 0, 0, 0) (fromU U G u 1432)) (10, 0, 0, 0) 17 (nI 0))
  | 0, i, hi => by
    rw [show i = 1432 from by omega, q_X10_again_27, if_neg (by decide)]
    dsimp only
    rw [if_pos o1]
  | d + 1, i, hi => by
    rw [q_X10_again_27, if_pos (nI_lt (by omega) (by omega)), sF_ne (o' := (40, 0, 0, 0)) (by decide), hU, pk_mul, nI_add, if_neg (nI_in (by omega) (by omega)), if_neg (nI_in (by omega) (by omega)), nI_clamp (n := i) (by omega), nI_clamp (by omega), sF_st, fromU_s, nI_1]
    exact m_ag_from hu hU d (i + 1) (by omega)
theorem o_keep (hJ : J K σ) (hK : K ≤ K') (h24 : K' < 2 ^ 24) : Res K' (e_X9_keep p) (e_X10_keep p) σ := by
  obtain ⟨C, M, hd, hV, hR⟩ := jget hJ
  have hM := hV.1.2.1
  have h0 : C 0 = nI M := (hR.pl (pd_lo (by omega))).trans hV.1.1
  by_cases h1 : isS 2 p
  · have h1' := h1
    obtain ⟨i, hi, rfl⟩ := h1'
    obtain ⟨C', c1, c2⟩ := c_become (b := 2 + i) hd (by omega) hJ.2.2.2.2.2 hM h0
    have hf : e_X9_keep (nI i) σ = some (some (some (.inl (nI 1))), st (wC (2 + i) σ C') (22, 0, 0, 0) i (nI 1)) := by
      rw [q_X9_keep, if_neg (nI_pos (by omega)), if_pos (nI_lt hi (by omega)), if_neg (nI_in hi (by omega)), nI_clamp (by omega), c1]
      dsimp only [bdV]
      rw [if_neg (ckn hi (by omega)), if_pos o1, if_pos o1]
    generalize hσ1 : st (wC (2 + i) σ C') (22, 0, 0, 0) i (nI 1) = σ1 at hf
    have f1 : ∀ o : mO, o ≠ (22, 0, 0, 0) → ¬ (aK o.1 ∧ o.2.1 = 2 + i) → σ1.1 o = σ.1 o := fun o g1 g2 => by rw [← hσ1, st_ne g1, wC_same g2]
    have e10 := f1 (10, 0, 0, 0) (by decide) (fun e => absurd e.1 (by unfold aK; decide))
    have e30 := f1 (30, 0, 0, 0) (by decide) (fun e => absurd e.1 (by unfold aK; decide))
    have e40 := f1 (40, 0, 0, 0) (by decide) (fun e => absurd e.1 (by unfold aK; decide))
    have e41 := f1 (41, 0, 0, 0) (by decide) (fun e => absurd e.1 (by unfold aK; decide))
    have e2 := m_kp_from (σ := st (st σ1 (10, 0, 0, 0) 5 (nI 0)) (41, 0, 0, 0) i (nI 1)) (u := i) (U := (st (st σ1 (10, 0, 0, 0) 5 (nI 0)) (41, 0, 0, 0) i (nI 1)).1 (40, 0, 0, 0)) hi 1432 0 (by omega)
    rw [inU_0, sF_self] at e2
    have hg : e_X10_keep (nI i) σ1 = some (some (some (.inl (nI 1))), sF (st (st σ1 (10, 0, 0, 0) 5 (nI 0)) (41, 0, 0, 0) i (nI 1)) (40, 0, 0, 0) (inU ((st (st σ1 (10, 0, 0, 0) 5 (nI 0)) (41, 0, 0, 0) i (nI 1)).1 (40, 0, 0, 0)) ((st (st σ1 (10, 0, 0, 0) 5 (nI 0)) (41, 0, 0, 0) i (nI 1)).1 (30, 0, 0, 0)) i 1432)) := by
      rw [q_X10_keep]
      dsimp only
      rw [m_in, propext (in_S2 (by omega))]
      dsimp only [bdI]
      rw [if_bI h1, if_neg (nI_in hi (by omega)), if_pos o1, nI_clamp (by omega)]
      exact e2
    have x30 : (st (st σ1 (10, 0, 0, 0) 5 (nI 0)) (41, 0, 0, 0) i (nI 1)).1 (30, 0, 0, 0) = σ.1 (30, 0, 0, 0) := by rw [st_ne (by decide), st_ne (by decide), e30]
    have x40 : (st (st σ1 (10, 0, 0, 0) 5 (nI 0)) (41, 0, 0, 0) i (nI 1)).1 (40, 0, 0, 0) = σ.1 (40, 0, 0, 0) := by rw [st_ne (by decide), st_ne (by decide), e40]
    rw [x30, x40] at hg
    generalize hσ2 : sF (st (st σ1 (10, 0, 0, 0) 5 (nI 0)) (41, 0, 0, 0) i (nI 1)) (40, 0, 0, 0) (inU (σ.1 (40, 0, 0, 0)) (σ.1 (30, 0, 0, 0)) i 1432) = σ2 at hg
    have f2 : ∀ o : mO, o ≠ (22, 0, 0, 0) → ¬ (aK o.1 ∧ o.2.1 = 2 + i) → o ≠ (40, 0, 0, 0) → o ≠ (41, 0, 0, 0) → o ≠ (10, 0, 0, 0) → σ2.1 o = σ.1 o := fun o g1 g2 g3 g4 g5 => by
      rw [← hσ2, sF_ne g3, st_ne g4, st_ne g5, f1 o g1 g2]
    have g2 : ∀ o : mO, aK o.1 → o.2.1 ≠ 2 + i → σ2.1 o = σ.1 o := fun o hk hne => f2 o (fun e => by rw [e] at hk; unfold aK at hk; omega) (fun e => hne e.2) (fun e => by rw [e] at hk; unfold aK at hk; omega) (fun e => by rw [e] at hk; unfold aK at hk; omega) (fun e => by rw [e] at hk; unfold aK at hk; omega)
    have nk : ∀ k, ¬ aK k → ¬ (aK ((k, 0, 0, 0) : mO).1 ∧ ((k, 0, 0, 0) : mO).2.1 = 2 + i) := fun k hk e => hk e.1
    have f10 : ∀ f, f ≠ 5 → σ2.1 (10, 0, 0, 0) f = σ.1 (10, 0, 0, 0) f := fun f hf => by
      rw [← hσ2, sF_ne (by decide), st_ne (by decide), st_self, upd_n hf, e10]
    have x22 : σ2.1 (22, 0, 0, 0) = upd (σ.1 (22, 0, 0, 0)) i (nI 1) := by
      rw [← hσ2, sF_ne (by decide), st_ne (by decide), st_ne (by decide), ← hσ1, st_self, wC_same (nk 22 (by unfold aK; decide))]
    have x41 : σ2.1 (41, 0, 0, 0) = upd (σ.1 (41, 0, 0, 0)) i (nI 1) := by
      rw [← hσ2, sF_ne (by decide), st_self, st_ne (by decide), e41]
    have y40 : σ2.1 (40, 0, 0, 0) = inU (σ.1 (40, 0, 0, 0)) (σ.1 (30, 0, 0, 0)) i 1432 := by rw [← hσ2, sF_at]
    have xn : σ2.2 = σ.2 := by rw [← hσ2, ← hσ1]; rfl
    obtain ⟨j1, j2, j3, ⟨tn, t1, t2, t3, t4⟩, j5, j6⟩ := id hJ
    refine ⟨_, _, _, hf, hg, j1.same hK h24 (fun o h1 h2 => g2 o h2 (by omega)) (f2 _ (by decide) (nk 30 (by unfold aK; decide)) (by decide) (by decide) (by decide)), j2.same hK h24 (fun o h1 _ h2 => g2 o h2 (by omega)) (f2 _ (by decide) (nk 5 (by unfold aK; decide)) (by decide) (by decide) (by decide)) (f10 _ (by decide)) (f2 _ (by decide) (nk 38 (by unfold aK; decide)) (by decide) (by decide) (by decide)), fun q hq => ?_, ⟨tn, t1, ?_, ?_, ?_⟩, j5.same ?_ (f10 _ (by decide)) ?_ ?_, (Ev_gn hg).2 ((Ev_gn hf).2 j6)⟩
    · rw [x22, x41, y40]
      by_cases e : q = i
      · subst e
        refine Or.inr ⟨upd_e rfl, upd_e rfl, C', ?_, ?_⟩
        · refine Hd.mono (σ := wC (2 + q) σ C') Hd.mk' fun o ho hk => ?_
          rw [← hσ2, sF_ne (fun e => by rw [e] at hk; unfold aK at hk; omega), st_ne (fun e => by rw [e] at hk; unfold aK at hk; omega), st_ne (fun e => by rw [e] at hk; unfold aK at hk; omega), ← hσ1, st_ne (fun e => by rw [e] at hk; unfold aK at hk; omega)]
        · refine PR.congN (N := σ.1 (30, 0, 0, 0)) (PR.le ⟨M, hV, hR.congC hM c2⟩ hK h24) fun k hk => ?_
          show (if 1432 * q ≤ 1432 * q + k ∧ 1432 * q + k < 1432 * q + 1432 then σ.1 (30, 0, 0, 0) (1432 * q + k - 1432 * q) else _) = _
          rw [if_pos (by omega), Nat.add_sub_cancel_left]
      · rw [upd_n e, upd_n e]
        rcases j3 q hq with c | ⟨d1, d2, D, d3, d4⟩
        · exact Or.inl c
        · refine Or.inr ⟨d1, d2, D, d3.mono fun o ho hk => g2 o hk (by omega), PR.congN (d4.le hK h24) fun k hk => ?_⟩
          show (if 1432 * i ≤ 1432 * q + k ∧ 1432 * q + k < 1432 * i + 1432 then _ else σ.1 (40, 0, 0, 0) (1432 * q + k)) = _
          rw [if_neg (by omega)]
    · rw [f2 _ (by decide) (nk 7 (by unfold aK; decide)) (by decide) (by decide) (by decide)]; exact t2
    · rw [f10 _ (by decide)]; exact t3
    · rw [f2 _ (by decide) (nk 23 (by unfold aK; decide)) (by decide) (by decide) (by decide), f2 _ (by decide) (nk 31 (by unfold aK; decide)) (by decide) (by decide) (by decide)]; exact t4
    · rw [f2 _ (by decide) (nk 4 (by unfold aK; decide)) (by decide) (by decide) (by decide)]
    · rw [xn]
    · rw [xn]
  · refine fin0 (v := nI 0) hJ hK h24 (fun _ _ h => Ev_gn h) (fun _ _ h => Ev_gn h) ?_ ?_
    · rw [q_X9_keep]
      rcases nS_cases' (k := 2) (by omega) h1 with h2 | ⟨h2, h3⟩
      · rw [if_pos h2, if_pos z1]
      · rw [if_neg h2, if_neg h3, if_pos z1]
    · rw [q_X10_keep]
      dsimp only
      rw [m_in, propext (in_S2 (by omega))]
      dsimp only [bdI]
      rw [if_nbI h1, if_pos z1]
theorem o_again (hJ : J K σ) (hK : K ≤ K') (h24 : K' < 2 ^ 24) : Res K' (e_X9_again p) (e_X10_again p) σ := by
  by_cases h1 : isS 2 p
  · have h1' := h1
    obtain ⟨i, hi, rfl⟩ := h1'
    rcases hJ.2.2.1 i hi with ⟨d1, d2⟩ | ⟨d1, d2, D, d3, M, hV, hR⟩
    · refine fin0 (v := nI 0) hJ hK h24 (fun _ _ h => Ev_gn h) (fun _ _ h => Ev_gn h) ?_ ?_
      · rw [q_X9_again, if_neg (nI_pos (by omega)), if_pos (nI_lt hi (by omega)), if_neg (nI_in hi (by omega)), nI_clamp (by omega), d1, if_pos n00, if_pos z1]
      · rw [q_X10_again]
        dsimp only
        rw [m_in, propext (in_S2 (by omega))]
        dsimp only [bdI]
        rw [if_bI h1, if_neg (nI_in hi (by omega)), nI_clamp (by omega), st_ne (o' := (41, 0, 0, 0)) (by decide), d2, if_pos n00, if_pos z1]
    · have hM := hV.1.2.1
      have h0 : D 0 = nI M := (hR.pl (pd_lo (by omega))).trans hV.1.1
      obtain ⟨C', c1, c2⟩ := c_become (b := 0) d3 (by omega) hJ.2.2.2.2.2 hM h0
      have hf : e_X9_again (nI i) σ = some (some (some (.inl (nI 1))), st (wC 0 σ C') (5, 0, 0, 0) 1 (nI 0)) := by
        rw [q_X9_again, if_neg (nI_pos (by omega)), if_pos (nI_lt hi (by omega)), if_neg (nI_in hi (by omega)), nI_clamp (by omega), d1, if_neg n10, if_neg (ckn hi (by omega)), c1]
        dsimp only [bdV]
        rw [if_pos o1]
      generalize hσ1 : st (wC 0 σ C') (5, 0, 0, 0) 1 (nI 0) = σ1 at hf
      have f1 : ∀ o : mO, ¬ BC o → σ1.1 o = σ.1 o := fun o ho => by
        rw [← hσ1, st_ne (fun e => ho (by rw [e]; exact Or.inl rfl)), wC_same (fun e => ho (Or.inr (Or.inr (Or.inr (Or.inr ⟨e.1, by omega⟩)))))]
      have e10 := f1 (10, 0, 0, 0) (by unfold BC aK; decide)
      have e40 := f1 (40, 0, 0, 0) (by unfold BC aK; decide)
      have e41 := f1 (41, 0, 0, 0) (by unfold BC aK; decide)
      have e2 := m_ag_from (σ := st σ1 (10, 0, 0, 0) 5 (nI 0)) (u := i) (U := σ.1 (40, 0, 0, 0)) (G := (st σ1 (10, 0, 0, 0) 5 (nI 0)).1 (30, 0, 0, 0)) hi (by rw [st_ne (by decide), e40]) 1432 0 (by omega)
      rw [fromU_0, sF_self] at e2
      have hg : e_X10_again (nI i) σ1 = some (some (some (.inl (nI 1))), st (sF (st σ1 (10, 0, 0, 0) 5 (nI 0)) (30, 0, 0, 0) (fromU (σ.1 (40, 0, 0, 0)) ((st σ1 (10, 0, 0, 0) 5 (nI 0)).1 (30, 0, 0, 0)) i 1432)) (10, 0, 0, 0) 17 (nI 0)) := by
        rw [q_X10_again]
        dsimp only
        rw [m_in, propext (in_S2 (by omega))]
        dsimp only [bdI]
        rw [if_bI h1, if_neg (nI_in hi (by omega)), nI_clamp (by omega), st_ne (o' := (41, 0, 0, 0)) (by decide), e41, d2, if_neg n10]
        exact e2
      have f2 : ∀ o : mO, ¬ BM o → (st (sF (st σ1 (10, 0, 0, 0) 5 (nI 0)) (30, 0, 0, 0) (fromU (σ.1 (40, 0, 0, 0)) ((st σ1 (10, 0, 0, 0) 5 (nI 0)).1 (30, 0, 0, 0)) i 1432)) (10, 0, 0, 0) 17 (nI 0)).1 o = σ1.1 o := fun o ho => by
        rw [st_ne (fun e => ho (by rw [e]; unfold BM; omega)), sF_ne (fun e => ho (by rw [e]; unfold BM; omega)), st_ne (fun e => ho (by rw [e]; unfold BM; omega))]
      have f10 : ∀ f, f ≠ 17 → f ≠ 5 → (st (sF (st σ1 (10, 0, 0, 0) 5 (nI 0)) (30, 0, 0, 0) (fromU (σ.1 (40, 0, 0, 0)) ((st σ1 (10, 0, 0, 0) 5 (nI 0)).1 (30, 0, 0, 0)) i 1432)) (10, 0, 0, 0) 17 (nI 0)).1 (10, 0, 0, 0) f = σ.1 (10, 0, 0, 0) f := fun f g1 g2 => by
        rw [st_self, upd_n g1, sF_ne (by decide), st_self, upd_n g2, e10]
      have fr : ∀ o : mO, ¬ BC o → ¬ BM o → (st (sF (st σ1 (10, 0, 0, 0) 5 (nI 0)) (30, 0, 0, 0) (fromU (σ.1 (40, 0, 0, 0)) ((st σ1 (10, 0, 0, 0) 5 (nI 0)).1 (30, 0, 0, 0)) i 1432)) (10, 0, 0, 0) 17 (nI 0)).1 o = σ.1 o := fun o h1 h2 => (f2 o h2).trans (f1 o h1)
      obtain ⟨sz, la, u1, u2, u3, u4, u5, -⟩ := id hJ.2.1
      refine ⟨_, _, _, hf, hg, hJ.mk2 hK h24 ⟨C', ?_, ?_⟩ ⟨0, la, by omega, u2, ?_, ?_, ?_, fun i hi => by omega⟩ fr (hJ.2.2.2.1.same ?_ (f10 _ (by decide) (by decide)) fr) (hJ.2.2.2.2.1.same ?_ (f10 _ (by decide) (by decide)) ?_ ?_) ((Ev_gn hg).2 ((Ev_gn hf).2 hJ.2.2.2.2.2))⟩
      · refine Hd.mono (σ := wC 0 σ C') Hd.mk' fun o ho hk => ?_
        rw [f2 o (by unfold BM; unfold aK at hk; omega), ← hσ1, st_ne (fun e => by rw [e] at hk; unfold aK at hk; omega)]
      · rw [st_ne (by decide), sF_at]
        refine PR.congN (PR.le ⟨M, hV, hR.congC hM c2⟩ hK h24) fun k hk => ?_
        show (if k < 1432 then σ.1 (40, 0, 0, 0) (1432 * i + k) else _) = _
        rw [if_pos hk]
      · rw [f2 _ (by unfold BM; decide), ← hσ1, st_self]; exact upd_s
      · rw [f2 _ (by unfold BM; decide), ← hσ1, st_self, upd_n (by decide), wC_same (by unfold aK; decide)]; exact u4
      · rw [st_self]; exact upd_s
      · rw [f2 _ (by unfold BM; decide), ← hσ1, st_ne (by decide), wC_same (by unfold aK; decide)]
      · rw [f2 _ (by unfold BM; decide), ← hσ1, st_ne (by decide), wC_same (by unfold aK; decide)]
      · show σ1.2 _ = _
        rw [← hσ1]; rfl
      · show σ1.2 _ = _
        rw [← hσ1]; rfl
  · refine fin0 (v := nI 0) hJ hK h24 (fun _ _ h => Ev_gn h) (fun _ _ h => Ev_gn h) ?_ ?_
    · rw [q_X9_again]
      rcases nS_cases' (k := 2) (by omega) h1 with h2 | ⟨h2, h3⟩
      · rw [if_pos h2, if_pos z1]
      · rw [if_neg h2, if_neg h3, if_pos z1]
    · rw [q_X10_again]
      dsimp only
      rw [m_in, propext (in_S2 (by omega))]
      dsimp only [bdI]
      rw [if_nbI h1, if_pos z1]
end MX

/-! A day that is right: the call -/
section DZ
variable {M K K' s z r i n m k a b x y t h w lo hi j u L sz la : Nat} {σ τ σ' σ1 σ2 : mS} {C N F F' G O W : Nat → Int32} {E E' : Nat → Nat → Int32} {o : mO} {v p p1 p2 wr x2 : Int32} {T P : Nat → Nat} {l : List Int64}
/-- the reference, read, with what was -/
def dr (τ : mS) (n : Nat) (F' G : Nat → Int32) : mS := sF (rd (sF (bg τ n) (37, 0, 0, 0) F') n (-1)) (39, 0, 0, 0) G
theorem dr_ne (h : o.1 ≠ 10) (h2 : o.1 ≠ 37) (h3 : o.1 ≠ 39) : (dr τ n F' G).1 o = τ.1 o := by
  unfold dr
  rw [sF_ne (fun e => h3 (by rw [e])), rd_ne (fun e => h (by rw [e])), sF_ne (fun e => h2 (by rw [e])), bg_ne (fun e => h (by rw [e]))]
theorem dr_10 (h2 : k ≠ 2) (h5 : k ≠ 5) (h6 : k ≠ 6) (h7 : k ≠ 7) (h8 : k ≠ 8) : (dr τ n F' G).1 (10, 0, 0, 0) k = τ.1 (10, 0, 0, 0) k := by
  unfold dr
  rw [sF_ne (by decide), rd_10 h7 h8, sF_ne (by decide), bg_10 h5 h6 h2]
theorem dr_2 : (dr τ n F' G).1 (10, 0, 0, 0) 2 = nI 0 := by
  unfold dr
  rw [sF_ne (by decide), rd_10 (by decide) (by decide), sF_ne (by decide), bg_2]
theorem dr_39 : (dr τ n F' G).1 (39, 0, 0, 0) = G := sF_at
theorem dr_37 : (dr τ n F' G).1 (37, 0, 0, 0) = F' := by
  unfold dr
  rw [sF_ne (by decide), rd_ne (by decide), sF_at]
theorem dr_n : (dr τ n F' G).2 = τ.2 := rfl
theorem tl_run {f : Nat} (h30 : σ.1 (30, 0, 0, 0) 1336 = v) : tl x2 i f σ = some (some (some (.inl (nI i))), tM σ [lN f, (v - x2).toInt64]) := by
  unfold tl
  rw [r_empty, r_t0]
  dsimp only [bdV]
  rw [t30, h30, r_t1]
theorem Bo.st7 (h : Bo σ) : Bo (st σ (7, 0, 0, 0) i v) := fun o j hb => by
  rw [st_ne (fun e => by rw [e] at hb; exact absurd hb (by simp [bcl]))]
  exact h o j hb
theorem c_109 {f : Nat} (hf : f = 0 ∨ f = 1) (hd0 : Hd 0 σ C) (hd1 : Hd 1 σ F) (hV : IV M K N) (hR : Rl M C N O W) {M' K1 : Nat} {N' P' Q' : Nat → Int32} (hV' : IV M' K1 N') (hR' : Rl M' F N' P' Q') : b_X9_day_109 (nI i) (nI f) σ = if 0 < nI i then bdV (e_X5_push 1 (tC (st σ (7, 0, 0, 0) 1 (nI 0)) [lN f, (N 1336 - N' 1336).toInt64])) (fun σ7 => some (some (some (.inl (nI i))), σ7)) else some (some (some (.inl (nI i))), tC (st σ (7, 0, 0, 0) 1 (nI 0)) [lN f, (N 1336 - N' 1336).toInt64]) := by
  have h0 : Hd 0 (st σ (7, 0, 0, 0) 1 (nI 0)) C := hd0.mono fun o _ hk => st_ne (fun e => by rw [e] at hk; unfold aK at hk; omega)
  have h1 : Hd 1 (st σ (7, 0, 0, 0) 1 (nI 0)) F := hd1.mono fun o _ hk => st_ne (fun e => by rw [e] at hk; unfold aK at hk; omega)
  obtain ⟨i1, i2, i3, i4⟩ := hV.2.2.2.2.2.1.2
  obtain ⟨j1, j2, j3, j4⟩ := hV'.2.2.2.2.2.1.2
  rcases hf with rfl | rfl
  · rw [q_X9_day_109]
    dsimp only
    rw [if_pos n00, c_sumOf h0 hR hV.1.2.1 hV.1.1 (by omega)]
    dsimp only [bdI]
    rw [c_sumOf h1 hR' hV'.1.2.1 hV'.1.1 (by omega)]
    dsimp only
    rw [← i1, ← j1, k_two]
    rfl
  · rw [q_X9_day_109]
    dsimp only
    rw [if_neg n10, c_sumOf h0 hR hV.1.2.1 hV.1.1 (by omega)]
    dsimp only [bdI]
    rw [c_sumOf h1 hR' hV'.1.2.1 hV'.1.1 (by omega)]
    dsimp only
    rw [← i1, ← j1, k_two]
    rfl
theorem o_day (hJ : J K σ) (hK : K + 1600 ≤ K') (h24 : K' < 2 ^ 24) : Res K' e_X9_day e_X10_day σ := by
  obtain ⟨n, T, hn, hT, h2, h31⟩ := jt_get hJ.2.2.2.1
  have rday : ∀ τ : mS, τ.1 (10, 0, 0, 0) = σ.1 (10, 0, 0, 0) → e_X10_day τ = b_X10_day_11 (nI 0) (rd (sF (bg τ n) (37, 0, 0, 0) ((bg τ n).1 (37, 0, 0, 0))) 0 (-1)) := fun τ hτ => by
    rw [q_X10_day, sF_self]
    dsimp only
    rw [m_begin (n := n) (by rw [hτ]; exact h2)]
    rfl
  rcases j_parse (T := T) hn n 0 0 (by omega) (by omega) (by omega) with ⟨p, hp, c1, r1⟩ | ⟨A, P, c1, r1, q1, q2, q3, q4, q5⟩
  · have hf : e_X9_day σ = some (some (some (.inl ((-1) - nI p))), st σ (7, 0, 0, 0) 1 (nI 0)) := by
      rw [q_X9_day, q_X9_faultInDay, c1 σ hT]
      dsimp only [bdI]
      rw [if_neg (nI_pos (by omega))]
    obtain ⟨j', F', e1⟩ := r1 (bg (st σ (7, 0, 0, 0) 1 (nI 0)) n) ((bg (st σ (7, 0, 0, 0) 1 (nI 0)) n).1 (37, 0, 0, 0)) (bg_tx (by rw [st_ne (by decide)]; exact h31))
    exact fin_wrong (q := 37) hJ (by omega) h24 (fun _ _ h => Ev_gn h) (fun _ _ h => Ev_gn h) (Or.inr rfl) (fun o a _ => st_ne (fun e => a (by rw [e]))) rfl (by rw [st_self, upd_s]) hf ((rday _ (st_ne (by decide))).trans e1)
  · obtain ⟨C, M, C1, hd, hV, hR, tb, hR1⟩ := tri hJ
    have hM := hV.1.2.1
    have hN0 := hV.1.1
    have bo' : Bo (wC 1 σ C1) := (Ev_gn tb).2 hJ.2.2.2.2.2
    have hd0 : Hd 0 (wC 1 σ C1) C := hd.oth (by omega)
    obtain ⟨i', f, C', N', O', W', b', g1, g2, g3, M', hV', hR'⟩ := j_exec (P := P) (T := T) (A := A) hn (by omega) (fun k hk => q5 k (by omega) hk) q4 A 0 K C (σ.1 (30, 0, 0, 0)) (σ.1 (34, 0, 0, 0)) (σ.1 (35, 0, 0, 0)) (σ.1 (10, 0, 0, 0) 12) (by omega) ⟨M, hV, hR⟩ (by omega)
    have hf01 : f = 0 ∨ f = 1 := by omega
    obtain ⟨g2a, g2b⟩ := g2 (wC 1 σ C1) hT.wC
    rw [show wC 0 (wC 1 σ C1) C = wC 1 σ C1 from hd0, q3] at g2a
    rw [show wC 0 (wC 1 σ C1) C = wC 1 σ C1 from hd0] at g2b
    have hd0' : Hd 0 (wC 0 (wC 1 σ C1) C') C' := Hd.mk'
    have hd1' : Hd 1 (wC 0 (wC 1 σ C1) C') C1 := (Hd.mk' (σ := σ) (a := 1) (C := C1)).oth (by omega)
    have cl0 : e_X9_day σ = b_X9_day_109 (nI i') (nI f) (wC 0 (wC 1 σ C1) C') := by
      rw [q_X9_day, q_X9_faultInDay, c1 σ hT]
      dsimp only [bdI]
      rw [if_pos (by decide), tb]
      dsimp only [bdV]
      rw [g2a]
    have cl := cl0.trans (c_109 (i := i') hf01 hd0' hd1' hV' hR' hV hR1)
    generalize hl : [lN f, (N' 1336 - σ.1 (30, 0, 0, 0) 1336).toInt64] = l at cl
    have hlen : l.length = 2 := by rw [← hl]; rfl
    have hbT : Bo (tC (st (wC 0 (wC 1 σ C1) C') (7, 0, 0, 0) 1 (nI 0)) l) := by
      rw [← hl]
      exact (Ev_gn k_two).2 (g2b bo').st7
    generalize hS : tC (st (wC 0 (wC 1 σ C1) C') (7, 0, 0, 0) 1 (nI 0)) l = σT at cl hbT
    have sT : ∀ o : mO, o.1 ≠ 4 → o.1 ≠ 7 → ¬ (aK o.1 ∧ o.2.1 < 2) → σT.1 o = σ.1 o := fun o a1 a2 a3 => by
      rw [← hS, tC_same a1, st_ne (fun e => a2 (by rw [e])), wC_same (fun e => a3 ⟨e.1, by omega⟩), wC_same (fun e => a3 ⟨e.1, by omega⟩)]
    have dT0 : Hd 0 σT C' := by
      rw [← hS]
      exact (hd0'.mono fun o _ hk => st_ne (fun e => by rw [e] at hk; unfold aK at hk; omega)).cT
    have dT1 : Hd 1 σT C1 := by
      rw [← hS]
      exact (hd1'.mono fun o _ hk => st_ne (fun e => by rw [e] at hk; unfold aK at hk; omega)).cT
    have t4 : σT.1 (4, 0, 0, 0) 1 = nI l.length := by rw [← hS]; exact tC_len
    have t24 : ∀ k, k < l.length → l[k]? = some (σT.2 (24, 0, 0, 0) k) := fun k hk => by rw [← hS]; exact tC_at hk
    have t7 : σT.1 (7, 0, 0, 0) 1 = nI 0 := by rw [← hS, tC_same (by decide), st_self, upd_s]
    obtain ⟨sz, la, E, E', uc, um, hE⟩ := ju_get hJ.2.1
    -- the reference, from a store that agrees
    have ref : ∀ τ : mS, (∀ o : mO, o.1 = 10 ∨ (30 ≤ o.1 ∧ o.1 < 46) → τ.1 o = σ.1 o) → ∃ F' G, (∀ k, k < 1432 → G k = σ.1 (30, 0, 0, 0) k) ∧ e_X10_day τ = e94 (σ.1 (30, 0, 0, 0) 1336) i' f (wM (dr τ n F' G) N' O' W' b') := fun τ hτ => by
      have h10 := hτ (10, 0, 0, 0) (Or.inl rfl)
      obtain ⟨F', e1, -, e3⟩ := r1 (bg τ n) ((bg τ n).1 (37, 0, 0, 0)) (bg_tx (by rw [hτ _ (Or.inr ⟨by decide, by decide⟩)]; exact h31))
      have e4 := m_58_from (τ := rd (sF (bg τ n) (37, 0, 0, 0) F') n (-1)) (x1 := nI A) 1432 0 (by omega)
      rw [cpl_0, sF_self] at e4
      have r30 : (rd (sF (bg τ n) (37, 0, 0, 0) F') n (-1)).1 (30, 0, 0, 0) = σ.1 (30, 0, 0, 0) := by rw [rd_ne (by decide), sF_ne (by decide), bg_ne (by decide), hτ _ (Or.inr ⟨by decide, by decide⟩)]
      rw [r30] at e4
      refine ⟨F', cpl (σ.1 (30, 0, 0, 0)) ((rd (sF (bg τ n) (37, 0, 0, 0) F') n (-1)).1 (39, 0, 0, 0)) 1432, fun k hk => cpl_lt hk, ?_⟩
      rw [rday τ h10, e1, e4]
      have ws := wM_self (dr τ n F' (cpl (σ.1 (30, 0, 0, 0)) ((rd (sF (bg τ n) (37, 0, 0, 0) F') n (-1)).1 (39, 0, 0, 0)) 1432))
      rw [dr_ne (o := (30, 0, 0, 0)) (by decide) (by decide) (by decide), dr_ne (o := (34, 0, 0, 0)) (by decide) (by decide) (by decide), dr_ne (o := (35, 0, 0, 0)) (by decide) (by decide) (by decide), dr_10 (by decide) (by decide) (by decide) (by decide) (by decide), hτ (30, 0, 0, 0) (Or.inr ⟨by decide, by decide⟩), hτ (34, 0, 0, 0) (Or.inr ⟨by decide, by decide⟩), hτ (35, 0, 0, 0) (Or.inr ⟨by decide, by decide⟩), h10] at ws
      have := g3 (dr τ n F' (cpl (σ.1 (30, 0, 0, 0)) ((rd (sF (bg τ n) (37, 0, 0, 0) F') n (-1)).1 (39, 0, 0, 0)) 1432)) (σ.1 (30, 0, 0, 0) 1336) (by rw [dr_37]; exact fun k hk => e3 k (by omega) hk)
      rw [ws] at this
      exact this
    have pr' : PR K' C' N' := PR.le ⟨M', hV', hR'⟩ (by omega) h24
    by_cases gi : 0 < nI i'
    · rw [if_pos gi] at cl
      have h0' : C1 0 = nI M := (hR1.pl (pd_lo (by omega))).trans hN0
      have ucT : UC σT sz la E := uc.mono (by rw [sT _ (by decide) (by decide) (by unfold aK; decide)]) (fun o h1 h2 => sT o (by unfold aK at h2; omega) (by unfold aK at h2; omega) (by omega))
      obtain ⟨σp, Cp, p1, p2, p3, p4, p5⟩ := c_push (a := 1) ucT dT1 (by omega) hbT hM h0'
      rw [p1] at cl
      dsimp only [bdV] at cl
      have sp : ∀ o : mO, ¬ BC o → σp.1 o = σ.1 o := fun o ho => by
        rw [p4 o (fun e => ho (by rw [e]; exact Or.inl rfl)) (fun e => ho (Or.inr (Or.inr (Or.inr (Or.inr ⟨e.1, Or.inr e.2⟩))))), sT o (fun e => ho (Or.inr (Or.inl e))) (fun e => ho (Or.inr (Or.inr (Or.inl e)))) (fun e => ho (Or.inr (Or.inr (Or.inr (Or.inr ⟨e.1, Or.inl e.2⟩)))))]
      obtain ⟨F', G, hG, e1⟩ := ref σp (fun o ho => sp o (by unfold BC aK; omega))
      unfold e94 at e1
      rw [if_pos gi] at e1
      have s10 := sp (10, 0, 0, 0) (by unfold BC aK; decide)
      obtain ⟨σm, m1, m2, m3, m4, m5⟩ := m_note (σ := wM (dr σp n F' G) N' O' W' b') (um.mono (by rw [wM_10 (by decide), dr_10 (by decide) (by decide) (by decide) (by decide) (by decide), s10]) (by rw [wM_same (by decide), dr_ne (by decide) (by decide) (by decide), sp _ (by unfold BC aK; decide)]))
      rw [m1] at e1
      dsimp only [bdV] at e1
      rw [tl_run (v := N' 1336) (by rw [m3 _ (by decide) (by decide), wM_30]), hl] at e1
      rw [wM_same (by decide), dr_39] at m2
      have f2 : ∀ o : mO, ¬ BM o → (tM σm l).1 o = σp.1 o := fun o ho => by
        have a30 : o.1 ≠ 30 := fun e => ho (by unfold BM; omega)
        have a34 : o.1 ≠ 34 := fun e => ho (by unfold BM; omega)
        have a35 : o.1 ≠ 35 := fun e => ho (by unfold BM; omega)
        have a10 : o.1 ≠ 10 := fun e => ho (by unfold BM; omega)
        have a37 : o.1 ≠ 37 := fun e => ho (by unfold BM; omega)
        have a38 : o.1 ≠ 38 := fun e => ho (by unfold BM; omega)
        have a39 : o.1 ≠ 39 := fun e => ho (by unfold BM; omega)
        rw [tM_same a10, m3 o (fun e => a10 (by rw [e])) (fun e => a38 (by rw [e])), wM_same ⟨a30, a34, a35, a10⟩, dr_ne a10 a37 a39]
      refine ⟨_, _, _, cl, e1, hJ.mk2 (by omega) h24 ⟨C', ?_, ?_⟩ (ju_mk (sz := nx sz) (la := nl la) (E := cons0 Cp E) (E' := cons0 G E') (p2.mono ?_ (fun o h1 h2 => ?_)) (m2.mono ?_ ?_) (PR.le' (ju_next hV hR1 p3 hG hE uc.1) (by omega) h24)) (fun o a1 a2 => (f2 o a2).trans (sp o a1)) ⟨0, by omega, ?_, ?_, fun k hk => by omega⟩ (JN.told (by omega) ?_ (fun k hk => ?_)) ((Ev_gn e1).2 ((Ev_gn cl).2 hJ.2.2.2.2.2))⟩
      · exact dT0.mono fun o ho hk => (f2 o (by unfold BM; unfold aK at hk; omega)).trans (p4 o (fun e => by rw [e] at hk; unfold aK at hk; omega) (fun e => by omega))
      · rw [t30, m3 _ (by decide) (by decide), wM_30]
        exact pr'
      · rw [f2 _ (by unfold BM; decide)]
      · exact f2 o (by unfold BM; unfold aK at h2; omega)
      · rw [tM_10 (by decide)]
      · rw [tM_same (by decide)]
      · rw [f2 _ (by unfold BM; decide), p4 _ (by decide) (by unfold aK; decide), t7]
      · rw [tM_10 (by decide), m4 _ (by decide), wM_10 (by decide), dr_2]
      · rw [m3 _ (by decide) (by decide), wM_same (by decide), dr_ne (by decide) (by decide) (by decide), p4 _ (by decide) (by unfold aK; decide)]
        exact t4
      · rw [m5]
        show l[k]? = some (σp.2 _ k)
        rw [p5]
        exact t24 k hk
    · rw [if_neg gi] at cl
      have sp : ∀ o : mO, ¬ BC o → σT.1 o = σ.1 o := fun o ho => sT o (fun e => ho (Or.inr (Or.inl e))) (fun e => ho (Or.inr (Or.inr (Or.inl e)))) (fun e => ho (Or.inr (Or.inr (Or.inr (Or.inr ⟨e.1, Or.inl e.2⟩)))))
      obtain ⟨F', G, hG, e1⟩ := ref σT (fun o ho => sp o (by unfold BC aK; omega))
      unfold e94 at e1
      rw [if_neg gi, tl_run (v := N' 1336) (by rw [wM_30]), hl] at e1
      have f2 : ∀ o : mO, o.1 ≠ 10 → o.1 ≠ 30 → o.1 ≠ 34 → o.1 ≠ 35 → o.1 ≠ 37 → o.1 ≠ 39 → (tM (wM (dr σT n F' G) N' O' W' b') l).1 o = σT.1 o := fun o a10 a30 a34 a35 a37 a39 => by
        rw [tM_same a10, wM_same ⟨a30, a34, a35, a10⟩, dr_ne a10 a37 a39]
      refine ⟨_, _, _, cl, e1, hJ.mk2 (by omega) h24 ⟨C', ?_, ?_⟩ (hJ.2.1.same (by omega) h24 (fun o h1 h2 hk => ?_) ?_ ?_ ?_) (fun o a1 a2 => ?_) ⟨0, by omega, ?_, ?_, fun k hk => by omega⟩ (JN.told (by omega) ?_ (fun k hk => ?_)) ((Ev_gn e1).2 ((Ev_gn cl).2 hJ.2.2.2.2.2))⟩
      · exact dT0.mono fun o ho hk => f2 o (by unfold aK at hk; omega) (by unfold aK at hk; omega) (by unfold aK at hk; omega) (by unfold aK at hk; omega) (by unfold aK at hk; omega) (by unfold aK at hk; omega)
      · rw [t30, wM_30]
        exact pr'
      · rw [f2 o (by unfold aK at hk; omega) (by unfold aK at hk; omega) (by unfold aK at hk; omega) (by unfold aK at hk; omega) (by unfold aK at hk; omega) (by unfold aK at hk; omega)]
        exact sT o (by unfold aK at hk; omega) (by unfold aK at hk; omega) (by omega)
      · rw [f2 _ (by decide) (by decide) (by decide) (by decide) (by decide) (by decide)]
        exact sT _ (by decide) (by decide) (by unfold aK; decide)
      · rw [tM_10 (by decide), wM_10 (by decide), dr_10 (by decide) (by decide) (by decide) (by decide) (by decide), sp _ (by unfold BC aK; decide)]
      · rw [f2 _ (by decide) (by decide) (by decide) (by decide) (by decide) (by decide)]
        exact sp _ (by unfold BC aK; decide)
      · unfold BM at a2
        rw [f2 o (by omega) (by omega) (by omega) (by omega) (by omega) (by omega)]
        exact sp o a1
      · rw [f2 _ (by decide) (by decide) (by decide) (by decide) (by decide) (by decide), t7]
      · rw [tM_10 (by decide), wM_10 (by decide), dr_2]
      · rw [wM_same (by decide), dr_ne (by decide) (by decide) (by decide)]
        exact t4
      · show l[k]? = some (σT.2 _ k)
        exact t24 k hk
end DZ

/-! Calls that change: the way out; offers, slots -/
section MU
variable {M K K' s z r i n m k a b x y t h w lo sz la u : Nat} {σ τ σ' σ'' σ1 σ2 : mS} {A C D N N' C' O W P Q U F G : Nat → Int32} {E E' : Nat → Nat → Int32} {o o' : mO} {v p p1 p2 p3 p4 mk : Int32} {S S' : mO → Prop} {l : List Int64} {f g : mS → Option mR}
theorem J.mk2 (hJ : J K σ) (hK : K ≤ K') (h24 : K' < 2 ^ 24) (jA : JA K' σ2) (jU : JU K' σ2) (fr : ∀ o, ¬ BC o → ¬ BM o → σ2.1 o = σ.1 o) (jT : JT σ2) (jN : JN σ2) (bo : Bo σ2) : J K' σ2 := by
  refine ⟨jA, jU, hJ.2.2.1.same hK h24 (fun o h1 h2 hk => fr o (by unfold BC; unfold aK at hk ⊢; omega) (by unfold BM; unfold aK at hk; omega)) (fr _ (by unfold BC aK; decide) (by unfold BM; decide)) (fr _ (by unfold BC aK; decide) (by unfold BM; decide)) (fr _ (by unfold BC aK; decide) (by unfold BM; decide)), jT, jN, bo⟩
theorem JT.same (h : JT σ) (e7 : σ2.1 (7, 0, 0, 0) 1 = σ.1 (7, 0, 0, 0) 1) (e2 : σ2.1 (10, 0, 0, 0) 2 = σ.1 (10, 0, 0, 0) 2) (fr : ∀ o, ¬ BC o → ¬ BM o → σ2.1 o = σ.1 o) : JT σ2 := by
  obtain ⟨n, t1, t2, t3, t4⟩ := h
  refine ⟨n, t1, e7.trans t2, e2.trans t3, ?_⟩
  rw [fr _ (by unfold BC aK; decide) (by unfold BM; decide), fr _ (by unfold BC aK; decide) (by unfold BM; decide)]
  exact t4
theorem ju_next (hV : IV M K N) (hR : Rl M C N (dO N) (dW N)) (hC : ∀ m, needC M m → C' m = C m) (hN : ∀ k, k < 1432 → N' k = N k) (hE : ∀ i, i < sz → PR K (E i) (E' i)) (hsz : sz ≤ 6) : ∀ i, i < nx sz → PR K (cons0 C' E i) (cons0 N' E' i) := fun i hi => by
  have hM := hV.1.2.1
  cases i with
  | zero => exact PR.congN ⟨M, hV, hR.congC hM hC⟩ hN
  | succ i =>
    refine hE i ?_
    unfold nx at hi
    split at hi <;> omega
theorem PR.le' (h : ∀ i, i < n → PR K (E i) (E' i)) (hK : K ≤ K') (h24 : K' < 2 ^ 24) : ∀ i, i < n → PR K' (E i) (E' i) := fun i hi => (h i hi).le hK h24
theorem UC.mono (h : UC σ sz la E) (e5 : σ'.1 (5, 0, 0, 0) = σ.1 (5, 0, 0, 0)) (e : ∀ o : mO, 4 ≤ o.2.1 → aK o.1 → σ'.1 o = σ.1 o) : UC σ' sz la E := ⟨h.1, h.2.1, by rw [e5]; exact h.2.2.1, by rw [e5]; exact h.2.2.2.1, fun i hi => (h.2.2.2.2 i hi).mono fun o ho hk => e o (by omega) hk⟩
theorem o_offers (hJ : J K σ) (hK : K ≤ K') (h24 : K' < 2 ^ 24) : Res K' (e_X9_offers p1 p2 p3 p4) (e_X10_offers p1 p2 p3 p4) σ := by
  obtain ⟨C, M, hd, hV, hR⟩ := jget hJ
  have hM := hV.1.2.1
  have hN0 := hV.1.1
  have h0 : C 0 = nI M := (hR.pl (pd_lo (by omega))).trans hN0
  obtain ⟨v, w1, w2, w3⟩ := j_why (p1 := p1) (p2 := p2) (p3 := p3) (p4 := p4) hd hV hR
  rcases w3 with ⟨w3, -⟩ | ⟨rfl, w3⟩
  · refine fin0 (v := v) hJ hK h24 (fun _ _ h => Ev_gn h) (fun _ _ h => Ev_gn h) ?_ ?_
    · rw [q_X9_offers, w1]
      dsimp only [bdI]
      rw [if_pos w3]
    · rw [q_X10_offers]
      dsimp only
      rw [w2 _ s30]
      dsimp only [bdI]
      rw [if_pos w3]
  · obtain ⟨x, r, y, u, n, rfl, rfl, rfl, rfl, hx, hr, hy, hyx, hq, hu1, hu9, hn, hsz⟩ := w3
    have hx6 : x < 6 := by omega
    obtain ⟨sz, la, E, E', uc, um, hE⟩ := ju_get hJ.2.1
    obtain ⟨σp, Cp, p1, p2, p3, p4, p5⟩ := c_push uc hd (by omega) hJ.2.2.2.2.2 hM h0
    have hdp : Hd 0 σp C := hd.mono fun o h1 h2 => p4 o (fun e => by rw [e] at h2; unfold aK at h2; omega) (fun e => by omega)
    have csz : C (147 + (4 * x + r)) = nI n := (hR.pl (pd_sz hM hx hr)).trans hsz
    have ct := c_take (a := 0) (σ := σp) (to := nI y) (uu := nI u) hx6 hr hn csz
    rw [show wC 0 σp C = σp from hdp] at ct
    have hf : e_X9_offers (nI x) (nI r) (nI y) (nI u) σ = some (some (some (.inl (nI (n + 1)))), wC 0 σp (nPut C x r n (nI y) (nI u) (C 1) (nI 0))) := by
      rw [q_X9_offers, w1]
      dsimp only [bdI]
      rw [if_neg (by decide), p1]
      dsimp only [bdV]
      rw [ct]
    generalize hσ1 : wC 0 σp (nPut C x r n (nI y) (nI u) (C 1) (nI 0)) = σ1 at hf
    have f1 : ∀ o : mO, ¬ BC o → σ1.1 o = σ.1 o := fun o ho => by
      rw [← hσ1, wC_same (fun e => ho (by unfold BC; exact Or.inr (Or.inr (Or.inr (Or.inr ⟨e.1, by omega⟩))))), p4 o (fun e => ho (by rw [e]; exact Or.inl rfl)) (fun e => ho (Or.inr (Or.inr (Or.inr (Or.inr ⟨e.1, Or.inr e.2⟩)))))]
    have e30 : σ1.1 (30, 0, 0, 0) = σ.1 (30, 0, 0, 0) := f1 _ (by unfold BC aK; decide)
    have e10 : σ1.1 (10, 0, 0, 0) = σ.1 (10, 0, 0, 0) := f1 _ (by unfold BC aK; decide)
    have e38 : σ1.1 (38, 0, 0, 0) = σ.1 (38, 0, 0, 0) := f1 _ (by unfold BC aK; decide)
    obtain ⟨σm, m1, m2, m3, m4, m5⟩ := m_change (σ := st σ1 (10, 0, 0, 0) 5 (nI 0)) (um.mono (by rw [st_self, upd_n (by decide), e10]) (by rw [st_ne (by decide), e38]))
    have m30 : σm.1 (30, 0, 0, 0) = σ.1 (30, 0, 0, 0) := by rw [m3 _ (by decide) (by decide) (by decide), s30, e30]
    have mp := m_put (σ := σm) (to := nI y) (uu := nI u) (mk := nI 0) hx6 hr hn (by rw [m30]; exact hsz)
    rw [m30] at mp
    have hg : e_X10_offers (nI x) (nI r) (nI y) (nI u) σ1 = some (some (some (.inl (nI (n + 1)))), sF σm (30, 0, 0, 0) (nPut (σ.1 (30, 0, 0, 0)) x r n (nI y) (nI u) (σ.1 (30, 0, 0, 0) 1) (nI 0))) := by
      rw [q_X10_offers]
      dsimp only
      rw [w2 _ (by rw [s30, e30])]
      dsimp only [bdI]
      rw [if_neg (by decide), m1]
      dsimp only [bdV]
      rw [mp]
      dsimp only
      rw [r_at]
      dsimp only
      rw [nI_add, if_neg (nI_in (by omega) (by omega)), nI_clamp (by omega), sF_at, nPut_sz]
    have f2 : ∀ o : mO, ¬ BM o → (sF σm (30, 0, 0, 0) (nPut (σ.1 (30, 0, 0, 0)) x r n (nI y) (nI u) (σ.1 (30, 0, 0, 0) 1) (nI 0))).1 o = σ1.1 o := fun o ho => by
      rw [sF_ne (fun e => ho (by rw [e]; unfold BM; omega)), m3 o (fun e => ho (by rw [e]; unfold BM; omega)) (fun e => ho (by rw [e]; unfold BM; omega)) (fun e => ho (by rw [e]; unfold BM; omega)), st_ne (fun e => ho (by rw [e]; unfold BM; omega))]
    have fr : ∀ o : mO, ¬ BC o → ¬ BM o → (sF σm (30, 0, 0, 0) (nPut (σ.1 (30, 0, 0, 0)) x r n (nI y) (nI u) (σ.1 (30, 0, 0, 0) 1) (nI 0))).1 o = σ.1 o := fun o h1 h2 => (f2 o h2).trans (f1 o h1)
    have f10 : ∀ f, f ≠ 17 → f ≠ 5 → (sF σm (30, 0, 0, 0) (nPut (σ.1 (30, 0, 0, 0)) x r n (nI y) (nI u) (σ.1 (30, 0, 0, 0) 1) (nI 0))).1 (10, 0, 0, 0) f = σ.1 (10, 0, 0, 0) f := fun f h1 h2 => by
      rw [sF_ne (by decide), m4 f h1, st_self, upd_n h2, e10]
    have s4 : σ1.1 (4, 0, 0, 0) = σ.1 (4, 0, 0, 0) := by rw [← hσ1, wC_same (by unfold aK; decide), p4 _ (by decide) (by unfold aK; decide)]
    have s7 : σ1.1 (7, 0, 0, 0) = σ.1 (7, 0, 0, 0) := by rw [← hσ1, wC_same (by unfold aK; decide), p4 _ (by decide) (by unfold aK; decide)]
    have sn2 : σm.2 = σ.2 := by rw [m5, st_2, ← hσ1]; exact p5
    refine ⟨_, _, _, hf, hg, hJ.mk2 hK h24 ⟨nPut C x r n (nI y) (nI u) (C 1) (nI 0), ?_, ?_⟩ (ju_mk (sz := nx sz) (la := nl la) (E := cons0 Cp E) (E' := cons0 (cpl ((st σ1 (10, 0, 0, 0) 5 (nI 0)).1 (30, 0, 0, 0)) ((st σ1 (10, 0, 0, 0) 5 (nI 0)).1 (39, 0, 0, 0)) 1432) E') (p2.mono ?_ (fun o h1 h2 => ?_)) (m2.mono ?_ ?_) (PR.le' (ju_next hV hR p3 (fun k hk => ?_) hE uc.1) hK h24)) fr (hJ.2.2.2.1.same ?_ (f10 _ (by decide) (by decide)) fr) (hJ.2.2.2.2.1.same ?_ (f10 _ (by decide) (by decide)) ?_ ?_) ((Ev_gn hg).2 ((Ev_gn hf).2 hJ.2.2.2.2.2))⟩
    · have h1 : Hd 0 σ1 (nPut C x r n (nI y) (nI u) (C 1) (nI 0)) := by rw [← hσ1]; exact Hd.mk'
      exact h1.mono fun o ho hk => f2 o (by unfold BM; unfold aK at hk; omega)
    · rw [sF_at]
      refine PR.le ⟨M, hV.put hx hr hy hyx hq hu1 hu9 hn hsz, ?_⟩ hK h24
      rw [hR.pl (pd_lo (by omega))]
      exact (hR.put hM hx hr hn hsz).pq fun z hz => ⟨nPut_n (by omega) (by omega), nPut_n (by omega) (by omega)⟩
    · rw [f2 _ (by unfold BM; decide), ← hσ1, wC_same (by unfold aK; decide)]
    · rw [f2 o (by unfold BM; unfold aK at h2; omega), ← hσ1, wC_same (fun e => by omega)]
    · rw [sF_ne (by decide)]
    · rw [sF_ne (by decide)]
    · rw [cpl_lt hk, s30, e30]
    · rw [f2 _ (by unfold BM; decide), s7]
    · rw [f2 _ (by unfold BM; decide), s4]
    · show σm.2 _ = _
      rw [sn2]
    · show σm.2 _ = _
      rw [sn2]
end MU

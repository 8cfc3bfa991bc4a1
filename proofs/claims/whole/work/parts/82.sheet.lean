/-! sheet -/
section SH
variable {M K K' s z r i n m k a b x y t h w lo sz la u : Nat} {σ τ σ' σ'' σp σm σ1 σ2 : mS} {A C C1 D N N' N1 C' Cp O W P Q U F G : Nat → Int32} {E E' : Nat → Nat → Int32} {o o' : mO} {v p p1 p2 p3 p4 p5 mk kd e c fF step : Int32} {S S' : mO → Prop} {l : List Int64} {f g : mS → Option mR}
theorem finA (hJ : J K σ) (hK : K ≤ K') (h24 : K' < 2 ^ 24) (gf : Gd f) (gg : Gd g) (hf : f σ = some (some (some (.inl v)), wC 0 σ C1)) (hg : g (wC 0 σ C1) = some (some (some (.inl v)), sF (st (wC 0 σ C1) (10, 0, 0, 0) 5 (nI 0)) (30, 0, 0, 0) N1)) (hP : PR K' C1 N1) : Res K' f g σ := by
  have fr : ∀ o : mO, ¬ (aK o.1 ∧ o.2.1 = 0) → o ≠ (30, 0, 0, 0) → o ≠ (10, 0, 0, 0) → (sF (st (wC 0 σ C1) (10, 0, 0, 0) 5 (nI 0)) (30, 0, 0, 0) N1).1 o = σ.1 o := fun o g1 g2 g3 => by
    rw [sF_ne g2, st_ne g3, wC_same g1]
  have f10 : ∀ q, q ≠ 5 → (sF (st (wC 0 σ C1) (10, 0, 0, 0) 5 (nI 0)) (30, 0, 0, 0) N1).1 (10, 0, 0, 0) q = σ.1 (10, 0, 0, 0) q := fun q hq => by
    rw [sF_ne (by decide), st_self, upd_n hq, wC_same (by unfold aK; decide)]
  have fr' : ∀ o, ¬ BC o → ¬ BM o → (sF (st (wC 0 σ C1) (10, 0, 0, 0) 5 (nI 0)) (30, 0, 0, 0) N1).1 o = σ.1 o := fun o g1 g2 => fr o (fun q => g1 (Or.inr (Or.inr (Or.inr (Or.inr ⟨q.1, by omega⟩))))) (fun q => g2 (by rw [q]; unfold BM; omega)) (fun q => g2 (by rw [q]; unfold BM; omega))
  refine ⟨v, _, _, hf, hg, hJ.mk2 hK h24 ⟨C1, ?_, ?_⟩ (hJ.2.1.same hK h24 (fun o g1 g2 hk => fr o (fun q => by omega) (fun q => by rw [q] at hk; unfold aK at hk; omega) (fun q => by rw [q] at hk; unfold aK at hk; omega)) (fr _ (by unfold aK; decide) (by decide) (by decide)) (f10 _ (by decide)) (fr _ (by unfold aK; decide) (by decide) (by decide))) fr' (hJ.2.2.2.1.same ?_ (f10 _ (by decide)) fr') (hJ.2.2.2.2.1.same ?_ (f10 _ (by decide)) rfl rfl) ((gg _ _ hg).2 ((gf _ _ hf).2 hJ.2.2.2.2.2))⟩
  · refine Hd.mono (σ := wC 0 σ C1) Hd.mk' fun o ho hk => ?_
    rw [sF_ne (fun q => by rw [q] at hk; unfold aK at hk; omega), st_ne (fun q => by rw [q] at hk; unfold aK at hk; omega)]
  · rw [sF_at]; exact hP
  · rw [fr _ (by unfold aK; decide) (by decide) (by decide)]
  · rw [fr _ (by unfold aK; decide) (by decide) (by decide)]
/-- the queues of a rank, from a station on, empty -/
def nEm (N : Nat → Int32) (r i M : Nat) : Nat → Int32 := fun k => if 147 ≤ k ∧ k < 171 ∧ (k - 147) % 4 = r ∧ i ≤ (k - 147) / 4 ∧ (k - 147) / 4 < M then nI 0 else N k
theorem em_n (h : k < 147 ∨ 171 ≤ k ∨ (k - 147) % 4 ≠ r ∨ (k - 147) / 4 < i ∨ M ≤ (k - 147) / 4) : nEm N r i M k = N k := if_neg (by omega)
theorem em_t (h : 147 ≤ k ∧ k < 171 ∧ (k - 147) % 4 = r ∧ i ≤ (k - 147) / 4 ∧ (k - 147) / 4 < M) : nEm N r i M k = nI 0 := if_pos h
theorem em_upd (h : k < 147 ∨ 171 ≤ k ∨ (k - 147) % 4 ≠ r ∨ (k - 147) / 4 < i ∨ M ≤ (k - 147) / 4) : nEm (upd N k v) r i M = upd (nEm N r i M) k v := by
  funext j
  by_cases g : j = k
  · rw [upd_e g, g, em_n h, upd_e rfl]
  · rw [upd_n g]
    unfold nEm
    rw [upd_n g]
theorem em_step (hM : M ≤ 6) (hi : i < M) (hr : r < 4) : nEm (upd N (147 + (4 * i + r)) (nI 0)) r (i + 1) M = nEm N r i M := by
  funext j
  by_cases g : j = 147 + (4 * i + r)
  · rw [em_n (by omega), em_t (by omega), upd_e g]
  · by_cases g2 : 147 ≤ j ∧ j < 171 ∧ (j - 147) % 4 = r ∧ i + 1 ≤ (j - 147) / 4 ∧ (j - 147) / 4 < M
    · rw [em_t g2, em_t (by omega)]
    · rw [em_n (by omega), em_n (by omega), upd_n g]
theorem em_put {to uu tt : Int32} (hM : M ≤ 6) (hi : i < M) (hr : r < 4) : nEm (nPut N i r 0 to uu tt mk) r (i + 1) M = nPut (nEm N r (i + 1) M) i r 0 to uu tt mk := by
  unfold nPut
  rw [em_upd (by omega), em_upd (by omega), em_upd (by omega), em_upd (by omega), em_upd (by omega), em_upd (by omega)]
theorem em_M : nEm N r M M = N := by
  funext j
  exact em_n (by omega)
def cEm (C : Nat → Int32) (r i : Nat) : Nat → Int32 := nEm C r 0 i
theorem c_em_from (h0 : C 0 = nI M) (hM : M ≤ 6) (hr : r < 4) : ∀ d i, i + d = M → b_X0_emptyQueues_2 a (nI r) (nI i) (wC a σ (nEm C r 0 i)) = some (some none, wC a σ (nEm C r 0 M))
  | 0, i, hi => by
    rw [show i = M from by omega, q_X0_emptyQueues_2, rC_many, em_n (by omega), h0, if_neg (nI_nlt (by omega) (by omega))]
  | d + 1, i, hi => by
    rw [q_X0_emptyQueues_2, rC_many, em_n (by omega), h0, if_pos (nI_lt (by omega) (by omega)), if_neg (nI_in (by omega) (by omega)), if_neg (nI_in (by omega) (by omega)), nI_clamp (by omega), nI_clamp (by omega)]
    dsimp only
    rw [sC_size (by omega) hr, nI_1]
    have e : upd (nEm C r 0 i) (147 + (4 * i + r)) (nI 0) = nEm C r 0 (i + 1) := by
      funext j
      by_cases g : j = 147 + (4 * i + r)
      · rw [upd_e g, em_t (by omega)]
      · rw [upd_n g]
        by_cases g2 : 147 ≤ j ∧ j < 171 ∧ (j - 147) % 4 = r ∧ 0 ≤ (j - 147) / 4 ∧ (j - 147) / 4 < i
        · rw [em_t g2, em_t (by omega)]
        · rw [em_n (by omega), em_n (by omega)]
    rw [e]
    exact c_em_from h0 hM hr d (i + 1) (by omega)
theorem c_empty (hd : Hd a σ C) (h0 : C 0 = nI M) (hM : M ≤ 6) (hr : r < 4) : e_X0_emptyQueues a (nI r) σ = some (some none, wC a σ (nEm C r 0 M)) := by
  have h := c_em_from (a := a) (σ := σ) h0 hM hr M 0 (by omega)
  have e : nEm C r 0 0 = C := by funext j; exact em_n (by omega)
  rw [e, show wC a σ C = σ from hd] at h
  rw [q_X0_emptyQueues]
  exact h
theorem IV.em (hV : IV M K N) (hr : r < 4) (hoff : ∀ s, s < M → N (1179 + 16 * s) = nI 0) : IV M K (nEm N r 0 M) := by
  have hM := hV.1.2.1
  have q : ∀ k, (k < 147 ∨ 171 ≤ k) → nEm N r 0 M k = N k := fun k hk => em_n (by omega)
  obtain ⟨h1, h2, h3, h4, h5, h6, t, t1, t2, t3, t4, t5⟩ := hV
  refine ⟨h1.mono fun k hk => q k (by omega), h2.mono hM fun k _ _ => q k (by omega), fun s r' hs hr' => ?_, fun s hs => Or.inl ((q _ (by omega)).trans (hoff s hs)), h5.mono hM (fun k _ _ => q k (by omega)) (fun k _ _ => q k (by omega)), h6.mono hM (q _ (by omega)) (fun k _ _ => q k (by omega)) (fun s t hs ht => q _ (by omega)), t, t1, t2, (q _ (by omega)).trans t3, (q _ (by omega)).trans t4, fun s hs => ?_⟩
  · obtain ⟨n, n1, n2, ⟨w, n3, n4⟩, n5⟩ := h3 s r' hs hr'
    by_cases g : r' = r
    · refine ⟨0, by omega, em_t (by omega), ⟨w, n3, (q _ (by omega)).trans n4⟩, fun i hi => by omega⟩
    · refine ⟨n, n1, (em_n (by omega)).trans n2, ⟨w, n3, (q _ (by omega)).trans n4⟩, fun i hi => (n5 i hi).mono (by omega) hM (q _ (by omega)) (q _ (by omega)) (fun k _ _ => q k (by omega))⟩
  · obtain ⟨u, u1, u2⟩ := t5 s hs
    exact ⟨u, u1, (q _ (by omega)).trans u2⟩
theorem Rl.em (hR : Rl M C N P Q) (hM : M ≤ 6) (hr : r < 4) : Rl M (nEm C r 0 M) (nEm N r 0 M) P Q := by
  have q : ∀ (F : Nat → Int32) k, (k < 147 ∨ 171 ≤ k) → nEm F r 0 M k = F k := fun F k hk => em_n (by omega)
  obtain ⟨h1, h2, h3, h4, h5⟩ := hR
  refine ⟨h1.mono fun k hk => ?_, h2.mono hM (fun s hs => q _ _ (by omega)) (fun k _ _ => q _ _ (by omega)), fun s' r' n' j hs' hr' hn' hN' hj => ?_, h4.mono hM (fun k _ _ => q _ _ (by omega)) (fun k _ _ => q _ _ (by omega)), h5.mono fun s hs => ⟨q _ _ (by omega), q _ _ (by omega)⟩⟩
  · by_cases g : 147 ≤ k ∧ k < 171 ∧ (k - 147) % 4 = r ∧ 0 ≤ (k - 147) / 4 ∧ (k - 147) / 4 < M
    · left; rw [em_t g, em_t g]
    · right; exact ⟨em_n (by omega), em_n (by omega)⟩
  · rw [q _ _ (by omega), q _ _ (by omega)]
    by_cases g : r' = r
    · rw [em_t (by omega)] at hN'
      have := nI_inj (by omega) (by omega) hN'
      omega
    · rw [em_n (by omega)] at hN'
      exact h3 s' r' n' j hs' hr' hn' hN' hj
/-- amid a sheet -/
def ShI (M K r i : Nat) (C N : Nat → Int32) : Prop := IV M K (nEm N r i M) ∧ Rl M C (nEm N r i M) (dO (nEm N r i M)) (dW (nEm N r i M))
def ent (kd v : Int32) : Int32 := if kd = 0 then v.toInt8.toInt32 else if kd = nI 1 then v.toInt16.toInt32 else v
def tox (i M : Nat) : Nat := if i + 1 < M then i + 1 else 0
theorem sh_61 {x3 x5 x6 x7 : Int32} (hN0 : σ.1 (30, 0, 0, 0) 0 = nI M) (hM : M ≤ 6) (hi : i < M) : b_X10_sheet_61 (nI r) kd x3 x5 x6 x7 (nI i) σ = b_X10_sheet_95 (nI r) kd x3 x5 x6 x7 (nI i) (ent kd x7) σ := by
  rw [q_X10_sheet_61, if_neg c0, c0c, hN0, if_pos (nI_lt (by omega) (by omega))]
  unfold ent
  by_cases g : kd = 0
  · rw [if_pos g, if_pos g]
  · rw [if_neg g, if_neg g]
    by_cases g2 : kd = nI 1
    · rw [if_pos g2, if_pos g2]
    · rw [if_neg g2, if_neg g2]
theorem sh_95 {x3 x5 x6 x7 : Int32} (hN0 : N 0 = nI M) (hM : M ≤ 6) (hi : i < M) (hr : r < 4) : b_X10_sheet_95 (nI r) kd x3 x5 x6 x7 (nI i) e (sF σ (30, 0, 0, 0) N) =
    if kd < nI 3 ∧ nI i < x3 ∧ 0 < e ∧ 0 < N (15 + 6 * i + tox i M) then b_X10_sheet_61 (nI r) kd x3 x5 (x6 + 1) (x7 + x5) (nI (i + 1)) (sF σ (30, 0, 0, 0) (nPut (upd N (147 + (4 * i + r)) (nI 0)) i r 0 (nI (tox i M)) (e - e / nI 9 * nI 9 + nI 1) (N 1) (nI 0)))
    else b_X10_sheet_61 (nI r) kd x3 x5 x6 (x7 + x5) (nI (i + 1)) (sF σ (30, 0, 0, 0) (upd N (147 + (4 * i + r)) (nI 0))) := by
  have et : nI (i + 1) - nI (i + 1) / nI M * nI M = nI (tox i M) := by
    rw [pk_rem (by omega) (by omega) (by omega)]
    unfold tox
    by_cases g : i + 1 < M
    · rw [if_pos g, Nat.mod_eq_of_lt g]
    · rw [if_neg g, show i + 1 = M from by omega, Nat.mod_self]
  have ht6 : tox i M < 6 := by unfold tox; split <;> omega
  rw [q_X10_sheet_95, r_at]
  dsimp only [bdI]
  rw [nI_add, if_neg (nI_in (by omega) (by omega)), nI_clamp (n := 147 + (4 * i + r)) (by omega), sF_st, sF_at, if_neg c0, c0c, upd_n (k := 147 + (4 * i + r)) (j := 0) (by omega), hN0, if_neg (nI_ne0 (by omega) (by omega)), nI_add, et, nI_1]
  by_cases g1 : kd < nI 3
  · rw [if_pos g1]
    by_cases g2 : nI i < x3
    · rw [if_pos g2]
      by_cases g3 : 0 < e
      · rw [if_pos g3, M_h (by omega) ht6, sF_at, upd_n (by omega)]
        dsimp only
        by_cases g4 : 0 < N (15 + 6 * i + tox i M)
        · rw [if_bI g4, if_neg (by decide), if_pos ⟨g1, g2, g3, g4⟩, m_put (σ := sF σ (30, 0, 0, 0) (upd N (147 + (4 * i + r)) (nI 0))) (n := 0) (by omega) hr (by omega) (by rw [sF_at, upd_e rfl])]
          dsimp only [bdV]
          rw [sF_at, upd_n (k := 147 + (4 * i + r)) (j := 1) (by omega)]
          congr 1
          refine Prod.ext ?_ rfl
          funext o q
          show (if o = (30, 0, 0, 0) then _ else (if o = (30, 0, 0, 0) then _ else σ.1 o q)) = (if o = (30, 0, 0, 0) then _ else σ.1 o q)
          by_cases g : o = (30, 0, 0, 0)
          · rw [if_pos g, if_pos g]
          · rw [if_neg g, if_neg g, if_neg g]
        · rw [if_nbI g4, if_neg (fun q => g4 q.2.2.2)]
      · rw [if_neg g3, if_neg (fun q => g3 q.2.2.1)]
    · rw [if_neg g2, if_neg (fun q => g2 q.2.1)]
  · rw [if_neg g1, if_neg (fun q => g1 q.1)]
/-- no frame comes any more: the reference alone -/
theorem sh_rest {x3 x5 : Int32} (hM : M ≤ 6) (hr : r < 4) : ∀ d i (N : Nat → Int32), i + d = M → ShI M K r i C N → (∀ j, i ≤ j → j < M → ¬ (kd < nI 3 ∧ nI j < x3)) → ∃ N', (∀ τ v, b_X10_sheet_61 (nI r) kd x3 x5 c v (nI i) (sF τ (30, 0, 0, 0) N) = some (some (some (.inl (if kd = nI 3 then -3 else c))), sF τ (30, 0, 0, 0) N')) ∧ ShI M K r M C N'
  | 0, i, N, hi, hS, hno => by
    have : i = M := by omega
    subst this
    refine ⟨N, fun τ v => ?_, hS⟩
    have hN0 : N 0 = nI i := by
      have := hS.1.1.1
      rwa [em_n (by omega)] at this
    rw [q_X10_sheet_61, if_neg c0, c0c, sF_at, hN0, if_neg (nI_nlt (by omega) (by omega))]
    split <;> rfl
  | d + 1, i, N, hi, hS, hno => by
    have hN0 : N 0 = nI M := by
      have := hS.1.1.1
      rwa [em_n (by omega)] at this
    have hS' : ShI M K r (i + 1) C (upd N (147 + (4 * i + r)) (nI 0)) := by
      unfold ShI
      rw [em_step hM (by omega) hr]
      exact hS
    obtain ⟨N', e1, e2⟩ := sh_rest (x3 := x3) (x5 := x5) hM hr d (i + 1) _ (by omega) hS' (fun j h1 h2 => hno j (by omega) h2)
    refine ⟨N', fun τ v => ?_, e2⟩
    rw [sh_61 (by rw [sF_at]; exact hN0) hM (by omega), sh_95 hN0 hM (by omega) hr, if_neg (fun q => hno i (Nat.le_refl _) (by omega) ⟨q.1, q.2.1⟩)]
    exact e1 τ _
theorem ent_u (he : 0 < e) : ∃ u, 1 ≤ u ∧ u ≤ 9 ∧ e - e / nI 9 * nI 9 + nI 1 = nI u := by
  have h0 : ¬ e < 0 := by rw [i32_lt, Int32.toInt_zero] at he ⊢; omega
  obtain ⟨j, hj, rfl⟩ := nI_of h0
  have := Nat.mod_lt j (show 9 > 0 by omega)
  exact ⟨j % 9 + 1, by omega, by omega, by rw [pk_rem hj (by omega) (by omega), nI_add]⟩
theorem c_comes (hS : ShI M K r i C N) (hM : M ≤ 6) (hi : i < M) (hr : r < 4) (hd : Hd 0 σ C) : e_X9_comesFromEntry (nI i) (nI r) e σ = if 0 < e ∧ 0 < N (15 + 6 * i + tox i M) then some (some (some (.inl (nI 1))), wC 0 σ (nPut C i r 0 (nI (tox i M)) (e - e / nI 9 * nI 9 + nI 1) (C 1) (nI 0))) else some (some (some (.inl (nI 0))), σ) := by
  obtain ⟨hV, hR⟩ := hS
  have hN0 : nEm N r i M 0 = nI M := hV.1.1
  have h0 : C 0 = nI M := (hR.pl (pd_lo (by omega))).trans hN0
  have htM : tox i M < M := by unfold tox; split <;> omega
  have csz : C (147 + (4 * i + r)) = nI 0 := (hR.pl (pd_sz hM hi hr)).trans (em_t (by omega))
  have hq : nEm N r i M (15 + 6 * i + tox i M) = N (15 + 6 * i + tox i M) := em_n (by omega)
  have hh := c_hear hd h0 hM (hR.2.1 i hi) hi htM
  rw [hq] at hh
  have ct := c_take (a := 0) (σ := σ) (x := i) (r := r) (n := 0) (to := nI (tox i M)) (uu := e - e / nI 9 * nI 9 + nI 1) (by omega) hr (by omega) csz
  rw [show wC 0 σ C = σ from hd] at ct
  have both : ∀ T, T = nI (tox i M) → (if 0 < e then bdI (e_X0_hear 0 (nI i) T σ) (fun v2 σ1 => if v2 = 0 then (if nI 0 = 0 ∨ nI 0 = 1 then some (some (some (.inl (nI 0))), σ1) else none) else (if nI 9 = 0 then none else bdI (e_X0_takeFrame 0 (nI i) (nI r) T (e - e / nI 9 * nI 9 + nI 1) σ1) (fun v4 σ3 => if nI 1 = 0 ∨ nI 1 = 1 then some (some (some (.inl (nI 1))), σ3) else none))) else (if nI 0 = 0 ∨ nI 0 = 1 then some (some (some (.inl (nI 0))), σ) else none)) = if 0 < e ∧ 0 < N (15 + 6 * i + tox i M) then some (some (some (.inl (nI 1))), wC 0 σ (nPut C i r 0 (nI (tox i M)) (e - e / nI 9 * nI 9 + nI 1) (C 1) (nI 0))) else some (some (some (.inl (nI 0))), σ) := fun T hT => by
    by_cases g1 : 0 < e
    · rw [if_pos g1, hT, hh]
      dsimp only [bdI]
      by_cases g2 : 0 < N (15 + 6 * i + tox i M)
      · rw [if_bI g2, if_neg (by decide), ct, if_pos ⟨g1, g2⟩]
        dsimp only
        rw [if_pos o1]
      · rw [if_nbI g2, if_pos z1, if_neg (fun q => g2 q.2)]
    · rw [if_neg g1, if_pos z1, if_neg (fun q => g1 q.1)]
  rw [q_X9_comesFromEntry, hd.rd ix_many, h0, nI_add]
  by_cases g : i + 1 < M
  · rw [if_pos (nI_lt g (by omega))]
    exact both _ (by unfold tox; rw [if_pos g])
  · rw [if_neg (nI_nlt (by omega) (by omega))]
    exact both _ (by unfold tox; rw [if_neg g])
theorem sh_all (hM : M ≤ 6) (hr : r < 4) (hkd : kd < nI 3) (hn : n ≤ 6) : ∀ d i (C N : Nat → Int32) (c : Int32), i + d = M → i ≤ n → ShI M K r i C N → ∃ C' N' c', (∀ σ, b_X9_sheet_71 (nI r) kd (nI n) fF step c (nI i) (wC 0 σ C) = some (some (some (.inl c')), wC 0 σ C')) ∧ (∀ τ, b_X10_sheet_61 (nI r) kd (nI n) step c (fF + nI i * step) (nI i) (sF τ (30, 0, 0, 0) N) = some (some (some (.inl c')), sF τ (30, 0, 0, 0) N')) ∧ ShI M K r M C' N'
  | 0, i, C, N, c, hi, hin, hS => by
    have : i = M := by omega
    subst this
    obtain ⟨N', e1, e2⟩ := sh_rest (kd := kd) (c := c) (x3 := nI n) (x5 := step) hM hr 0 i N (by omega) hS (fun j h1 h2 => by omega)
    have h0 : C 0 = nI i := (hS.2.pl (pd_lo (by omega))).trans hS.1.1.1
    refine ⟨C, N', c, fun σ => ?_, fun τ => ?_, e2⟩
    · rw [q_X9_sheet_71, rC_many, h0]
      by_cases g : i < n
      · rw [if_pos (nI_lt g (by omega)), if_neg (nI_nlt (by omega) (by omega))]
      · rw [if_neg (nI_nlt (by omega) (by omega))]
    · rw [e1, if_neg (fun q => by rw [q] at hkd; exact absurd hkd (by decide))]
  | d + 1, i, C, N, c, hi, hin, hS => by
    have hiM : i < M := by omega
    have h0 : C 0 = nI M := (hS.2.pl (pd_lo (by omega))).trans hS.1.1.1
    have hN0 : N 0 = nI M := by
      have := hS.1.1.1
      rwa [em_n (by omega)] at this
    by_cases g : i < n
    · have hstep : fF + nI i * step + step = fF + nI (i + 1) * step := by
        rw [← nI_add i 1, Int32.add_mul, show nI 1 = 1 from rfl, Int32.one_mul, Int32.add_assoc]
      have hX : nEm (upd N (147 + (4 * i + r)) (nI 0)) r (i + 1) M = nEm N r i M := em_step hM hiM hr
      have cl : ∀ σ, b_X9_sheet_71 (nI r) kd (nI n) fF step c (nI i) (wC 0 σ C) = if 0 < ent kd (fF + nI i * step) ∧ 0 < N (15 + 6 * i + tox i M) then b_X9_sheet_71 (nI r) kd (nI n) fF step (c + 1) (nI (i + 1)) (wC 0 σ (nPut C i r 0 (nI (tox i M)) (ent kd (fF + nI i * step) - ent kd (fF + nI i * step) / nI 9 * nI 9 + nI 1) (C 1) (nI 0))) else b_X9_sheet_71 (nI r) kd (nI n) fF step c (nI (i + 1)) (wC 0 σ C) := fun σ => by
        have he : e_X9_entryOf kd (fF + nI i * step) (wC 0 σ C) = some (some (some (.inl (ent kd (fF + nI i * step)))), wC 0 σ C) := by
          rw [q_X9_entryOf]
          unfold ent
          by_cases g1 : kd = 0
          · rw [if_pos g1, if_pos g1]
          · rw [if_neg g1, if_neg g1]
            by_cases g2 : kd = nI 1
            · rw [if_pos g2, if_pos g2]
            · rw [if_neg g2, if_neg g2]
        rw [q_X9_sheet_71, if_pos (nI_lt g (by omega)), rC_many, h0, if_pos (nI_lt hiM (by omega)), he]
        dsimp only [bdI]
        rw [c_comes hS hM hiM hr Hd.mk', nI_1]
        by_cases g4 : 0 < ent kd (fF + nI i * step) ∧ 0 < N (15 + 6 * i + tox i M)
        · rw [if_pos g4, if_pos g4]
          dsimp only
          rw [if_neg n10, wC_wC]
        · rw [if_neg g4, if_neg g4]
          dsimp only
          rw [if_pos n00]
      have re : ∀ τ, b_X10_sheet_61 (nI r) kd (nI n) step c (fF + nI i * step) (nI i) (sF τ (30, 0, 0, 0) N) = if 0 < ent kd (fF + nI i * step) ∧ 0 < N (15 + 6 * i + tox i M) then b_X10_sheet_61 (nI r) kd (nI n) step (c + 1) (fF + nI (i + 1) * step) (nI (i + 1)) (sF τ (30, 0, 0, 0) (nPut (upd N (147 + (4 * i + r)) (nI 0)) i r 0 (nI (tox i M)) (ent kd (fF + nI i * step) - ent kd (fF + nI i * step) / nI 9 * nI 9 + nI 1) (N 1) (nI 0))) else b_X10_sheet_61 (nI r) kd (nI n) step c (fF + nI (i + 1) * step) (nI (i + 1)) (sF τ (30, 0, 0, 0) (upd N (147 + (4 * i + r)) (nI 0))) := fun τ => by
        rw [sh_61 (by rw [sF_at]; exact hN0) hM hiM, sh_95 hN0 hM hiM hr, hstep]
        by_cases g4 : 0 < ent kd (fF + nI i * step) ∧ 0 < N (15 + 6 * i + tox i M)
        · rw [if_pos g4, if_pos ⟨hkd, nI_lt g (by omega), g4.1, g4.2⟩]
        · rw [if_neg g4, if_neg (fun q => g4 q.2.2)]
      by_cases g4 : 0 < ent kd (fF + nI i * step) ∧ 0 < N (15 + 6 * i + tox i M)
      · obtain ⟨u, u1, u9, hu⟩ := ent_u g4.1
        have htM : tox i M < M := by unfold tox; split <;> omega
        have hne : tox i M ≠ i := fun q => by
          have h5 := hS.1.1.2.2.2.2.1 i (by omega)
          rw [em_n (by omega)] at h5
          have h6 := g4.2
          rw [q, h5] at h6
          exact absurd h6 nlt00
        have hsz0 : nEm N r i M (147 + (4 * i + r)) = nI 0 := em_t (by omega)
        have h1 : C 1 = N 1 := (hS.2.pl (pd_lo (by omega))).trans (em_n (by omega))
        have hS' : ShI M K r (i + 1) (nPut C i r 0 (nI (tox i M)) (nI u) (N 1) (nI 0)) (nPut (upd N (147 + (4 * i + r)) (nI 0)) i r 0 (nI (tox i M)) (nI u) (N 1) (nI 0)) := by
          unfold ShI
          rw [em_put hM hiM hr, hX]
          exact ⟨hS.1.put hiM hr htM hne (by rw [em_n (by omega)]; exact g4.2) u1 u9 (by omega) hsz0, (hS.2.put hM hiM hr (by omega) hsz0).pq fun z hz => ⟨nPut_n (by omega) (by omega), nPut_n (by omega) (by omega)⟩⟩
        obtain ⟨C', N', c', e1, e2, e3⟩ := sh_all hM hr hkd hn d (i + 1) _ _ (c + 1) (by omega) (by omega) hS'
        refine ⟨C', N', c', fun σ => ?_, fun τ => ?_, e3⟩
        · rw [cl, if_pos g4, hu, h1]; exact e1 σ
        · rw [re, if_pos g4, hu]; exact e2 τ
      · have hS' : ShI M K r (i + 1) C (upd N (147 + (4 * i + r)) (nI 0)) := by
          unfold ShI
          rw [hX]
          exact hS
        obtain ⟨C', N', c', e1, e2, e3⟩ := sh_all hM hr hkd hn d (i + 1) _ _ c (by omega) (by omega) hS'
        refine ⟨C', N', c', fun σ => ?_, fun τ => ?_, e3⟩
        · rw [cl, if_neg g4]; exact e1 σ
        · rw [re, if_neg g4]; exact e2 τ
    · obtain ⟨N', e1, e2⟩ := sh_rest (kd := kd) (c := c) (x3 := nI n) (x5 := step) hM hr (d + 1) i N hi hS (fun j h1 h2 q => by
        have h3 := q.2
        rw [nI_ltI (by omega) (by omega)] at h3
        omega)
      refine ⟨C, N', c, fun σ => ?_, fun τ => ?_, e2⟩
      · rw [q_X9_sheet_71, if_neg (nI_nlt (by omega) (by omega))]
      · rw [e1, if_neg (fun q => by rw [q] at hkd; exact absurd hkd (by decide))]
end SH

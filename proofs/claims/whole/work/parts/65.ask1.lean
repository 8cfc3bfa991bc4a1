/-! Calls that only ask: the ways in, and the first ones -/
section O1
variable {M K K' s z r i n m k a b : Nat} {σ τ σ' σ1 σ2 : mS} {C D N N' C' O W P Q : Nat → Int32} {o : mO} {v w p p1 p2 p3 : Int32} {l : List Int64} {f g : mS → Option mR}
/-- a call and its answer, in both -/
def Res (K : Nat) (f g : mS → Option mR) (σ : mS) : Prop := ∃ v σ1 σ2, f σ = some (some (some (.inl v)), σ1) ∧ g σ1 = some (some (some (.inl v)), σ2) ∧ J K σ2
/-- a call that may throw, and what the law's helper makes of it -/
def ResX (K : Nat) (f g : mS → Option mR) (σ : mS) : Prop := ∃ k σ1 v σ2, f σ = some (some (some (.inl k)), σ1) ∧ g σ1 = some (some (some (.inl v)), σ2) ∧ J K σ2 ∧ σ2.1 (10, 0, 0, 0) 5 = k ∧ ((k = nI 0 ∧ σ2.2 (45, 0, 0, 0) 0 = v.toInt64) ∨ k = nI 1)
def Gd (f : mS → Option mR) : Prop := ∀ σ r, f σ = some r → Gn σ r.2
theorem jget (h : J K σ) : ∃ C M, Hd 0 σ C ∧ IV M K (σ.1 (30, 0, 0, 0)) ∧ Rl M C (σ.1 (30, 0, 0, 0)) (dO (σ.1 (30, 0, 0, 0))) (dW (σ.1 (30, 0, 0, 0))) := by
  obtain ⟨⟨C, h1, M, h2, h3⟩, -⟩ := h
  exact ⟨C, M, h1, h2, h3⟩
theorem fin0 (hJ : J K σ) (hK : K ≤ K') (h24 : K' < 2 ^ 24) (gf : Gd f) (gg : Gd g) (hf : f σ = some (some (some (.inl v)), σ)) (hg : g σ = some (some (some (.inl v)), st σ (10, 0, 0, 0) 5 (nI 0))) : Res K' f g σ := by
  refine ⟨v, σ, _, hf, hg, hJ.sm (Sm.s10 (by decide) (by decide)) (hJ.2.2.2.2.1.same ?_ ?_ rfl rfl) ((gg _ _ hg).2 hJ.2.2.2.2.2) hK h24⟩
  · rw [st_ne (by decide)]
  · rw [st_self]; exact upd_n (by decide)
theorem finT (hJ : J K σ) (hK : K ≤ K') (h24 : K' < 2 ^ 24) (gf : Gd f) (gg : Gd g) (l : List Int64) (hl : l.length ≤ 16) (hf : f σ = some (some (some (.inl v)), tC σ l)) (hg : g (tC σ l) = some (some (some (.inl v)), tM (st (tC σ l) (10, 0, 0, 0) 5 (nI 0)) l)) : Res K' f g σ :=
  ⟨v, tC σ l, _, hf, hg, hJ.sm ((Sm.cT.tr (Sm.s10 (by decide) (by decide))).tr Sm.mT) (JN.both hl 5 (by decide)) ((gg _ _ hg).2 ((gf _ _ hf).2 hJ.2.2.2.2.2)) hK h24⟩
theorem finX0 (hJ : J K σ) (hK : K ≤ K') (h24 : K' < 2 ^ 24) (gf : Gd f) (gg : Gd g) (hf : f σ = some (some (some (.inl (nI 0))), stL σ (45, 0, 0, 0) 0 v.toInt64)) (hg : g (stL σ (45, 0, 0, 0) 0 v.toInt64) = some (some (some (.inl v)), st (stL σ (45, 0, 0, 0) 0 v.toInt64) (10, 0, 0, 0) 5 (nI 0))) : ResX K' f g σ := by
  refine ⟨nI 0, _, v, _, hf, hg, hJ.sm (σ' := st (stL σ (45, 0, 0, 0) 0 v.toInt64) (10, 0, 0, 0) 5 (nI 0)) ?_ (hJ.2.2.2.2.1.same ?_ ?_ ?_ ?_) ((gg _ _ hg).2 ((gf _ _ hf).2 hJ.2.2.2.2.2)) hK h24, ?_, Or.inl ⟨rfl, ?_⟩⟩
  · exact Sm.tr (σ' := stL σ (45, 0, 0, 0) 0 v.toInt64) ⟨fun _ _ => rfl, rfl, rfl⟩ (Sm.s10 (by decide) (by decide))
  · rw [st_ne (by decide)]; rfl
  · rw [st_self]; exact upd_n (by decide)
  · rw [st_2, stL_ne (by decide)]
  · rw [st_2, stL_ne (by decide)]
  · rw [st_self]; exact upd_s
  · rw [st_2, stL_self]; exact pk_uLs
theorem finX1 (hJ : J K σ) (hK : K ≤ K') (h24 : K' < 2 ^ 24) (gf : Gd f) (gg : Gd g) (hf : f σ = some (some (some (.inl (nI 1))), σ)) (hg : g σ = some (some (some (.inl v)), st (st σ (10, 0, 0, 0) 5 (nI 0)) (10, 0, 0, 0) 5 (nI 1))) : ResX K' f g σ := by
  refine ⟨nI 1, _, v, _, hf, hg, hJ.sm ((Sm.s10 (by decide) (by decide)).tr (Sm.s10 (by decide) (by decide))) (hJ.2.2.2.2.1.same ?_ ?_ rfl rfl) ((gg _ _ hg).2 hJ.2.2.2.2.2) hK h24, ?_, Or.inr rfl⟩
  · rw [st_ne (by decide), st_ne (by decide)]
  · rw [st_self, upd_n (by decide), st_self]; exact upd_n (by decide)
  · rw [st_self]; exact upd_s
theorem t30 : (tM σ l).1 (30, 0, 0, 0) = σ.1 (30, 0, 0, 0) := tM_same (by decide)
theorem c30 : (tC σ l).1 (30, 0, 0, 0) = σ.1 (30, 0, 0, 0) := tC_same (by decide)
theorem s30 : (st σ (10, 0, 0, 0) i v).1 (30, 0, 0, 0) = σ.1 (30, 0, 0, 0) := st_ne (by decide)
theorem r_t0 {x : Int64} : e_X10_tell x (tM σ []) = some (some none, tM σ [x]) := r_tell (by decide)
theorem r_t1 {x y : Int64} : e_X10_tell y (tM σ [x]) = some (some none, tM σ [x, y]) := r_tell (l := [x]) (Nat.le_of_ble_eq_true rfl)
theorem r_t2 {x y u : Int64} : e_X10_tell u (tM σ [x, y]) = some (some none, tM σ [x, y, u]) := r_tell (l := [x, y]) (Nat.le_of_ble_eq_true rfl)
def isS (M : Nat) (p : Int32) : Prop := ∃ s, s < M ∧ p = nI s
theorem isS_iff (hM : M ≤ 2000) : isS M p ↔ 0 ≤ p.toInt ∧ p.toInt < M := by
  constructor
  · rintro ⟨s, h1, rfl⟩
    rw [nI_toInt (by omega)]
    omega
  · rintro ⟨h1, h2⟩
    rcases pk_ix p (n := M) (by omega) with h | h | ⟨j, h3, h4⟩
    · rw [i32_lt] at h
      exact absurd h (by rw [Int32.toInt_zero]; omega)
    · rw [Int32.le_iff_toInt_le, nI_toInt (by omega)] at h
      omega
    · exact ⟨j, h3, h4⟩
theorem m_in : e_X10_in p p1 p2 σ = some (some (some (.inl (bI (¬ p < p1 ∧ ¬ p2 < p)))), σ) := by
  rw [q_X10_in]
  by_cases h1 : p < p1
  · rw [if_pos h1, if_pos z1, bI_f (fun q => q.1 h1)]
  · rw [if_neg h1]
    by_cases h2 : p2 < p
    · rw [if_pos h2, if_pos z1, bI_f (fun q => q.2 h2)]
    · rw [if_neg h2, if_pos o1, bI_t ⟨h1, h2⟩]
theorem m1_int : ∀ M, M < 20 → (nI M - nI 1).toInt = (M : Int) - 1 := by decide
theorem in_S (hM : M ≤ 19) : (¬ p < nI 0 ∧ ¬ nI M - nI 1 < p) ↔ isS M p := by
  rw [isS_iff (by omega), i32_lt, i32_lt, m1_int M (by omega), nI_toInt (by omega)]
  omega
theorem bI01 {q : Prop} : bI q = 0 ∨ bI q = 1 := by
  by_cases h : q
  · rw [bI_t h]; exact Or.inr rfl
  · rw [bI_f h]; exact Or.inl rfl
theorem m_isSt (hN : σ.1 (30, 0, 0, 0) 0 = nI M) (hM : M ≤ 6) : e_X10_isStation p σ = some (some (some (.inl (bI (isS M p)))), σ) := by
  rw [q_X10_isStation, if_neg c0, c0c, hN, m_in, propext (in_S (p := p) (M := M) (by omega))]
  dsimp only [bdI]
  rw [if_pos bI01]
theorem m_isRk : e_X10_isRank p σ = some (some (some (.inl (bI (isS 4 p)))), σ) := by
  have h := in_S (p := p) (M := 4) (by omega)
  rw [show nI 4 - nI 1 = nI 3 from by decide] at h
  rw [q_X10_isRank, m_in, propext h]
  dsimp only [bdI]
  rw [if_pos bI01]
theorem c_isSt (hd : Hd 0 σ C) (h0 : C 0 = nI M) (hM : M ≤ 6) : e_X9_isStation p σ = some (some (some (.inl (bI (isS M p)))), σ) := by
  rw [q_X9_isStation, hd.rd ix_many, h0]
  have hi := isS_iff (p := p) (M := M) (by omega)
  by_cases h1 : p < 0
  · rw [if_pos h1, if_pos z1, bI_f]
    rw [hi]
    rw [i32_lt, Int32.toInt_zero] at h1
    omega
  · rw [if_neg h1]
    rw [i32_lt, Int32.toInt_zero] at h1
    by_cases h2 : p < nI M
    · rw [if_pos h2, if_pos o1, bI_t]
      rw [hi]
      rw [i32_lt, nI_toInt (by omega)] at h2
      omega
    · rw [if_neg h2, if_pos z1, bI_f]
      rw [hi]
      rw [i32_lt, nI_toInt (by omega)] at h2
      omega
theorem c_isRk : e_X9_isRank p σ = some (some (some (.inl (bI (isS 4 p)))), σ) := by
  have hi := isS_iff (p := p) (M := 4) (by omega)
  rw [q_X9_isRank]
  by_cases h1 : p < 0
  · rw [if_pos h1, if_pos z1, bI_f]
    rw [hi]
    rw [i32_lt, Int32.toInt_zero] at h1
    omega
  · rw [if_neg h1]
    rw [i32_lt, Int32.toInt_zero] at h1
    by_cases h2 : p < nI 4
    · rw [if_pos h2, if_pos o1, bI_t]
      rw [hi]
      rw [i32_lt, nI_toInt (by omega)] at h2
      omega
    · rw [if_neg h2, if_pos z1, bI_f]
      rw [hi]
      rw [i32_lt, nI_toInt (by omega)] at h2
      omega
/-- the reference's leaves over any store -/
theorem M_q (hs : s < 6) (hz : z < 6) : e_X10_quality (nI s) (nI z) σ = some (some (some (.inl (σ.1 (30, 0, 0, 0) (15 + 6 * s + z)))), σ) := by
  have h := m_quality (σ := σ) (N := σ.1 (30, 0, 0, 0)) (O := σ.1 (34, 0, 0, 0)) (W := σ.1 (35, 0, 0, 0)) (b := σ.1 (10, 0, 0, 0) 12) hs hz
  rwa [wM_self] at h
theorem M_h (hs : s < 6) (hz : z < 6) : e_X10_hears (nI s) (nI z) σ = some (some (some (.inl (bI (0 < σ.1 (30, 0, 0, 0) (15 + 6 * s + z))))), σ) := by
  have h := m_hears (σ := σ) (N := σ.1 (30, 0, 0, 0)) (O := σ.1 (34, 0, 0, 0)) (W := σ.1 (35, 0, 0, 0)) (b := σ.1 (10, 0, 0, 0) 12) hs hz
  rwa [wM_self] at h
theorem M_wt (hs : s < 6) : e_X10_waiting (nI s) σ = some (some (some (.inl (wt (σ.1 (30, 0, 0, 0)) s))), σ) := by
  have h := m_waiting (σ := σ) (N := σ.1 (30, 0, 0, 0)) (O := σ.1 (34, 0, 0, 0)) (W := σ.1 (35, 0, 0, 0)) (b := σ.1 (10, 0, 0, 0) 12) hs
  rwa [wM_self] at h
theorem M_rd (hs : s < 6) (hr : r < 4) : e_X10_isReady (nI s) (nI r) σ = some (some (some (.inl (bI (0 < σ.1 (30, 0, 0, 0) (147 + (4 * s + r)) ∧ σ.1 (30, 0, 0, 0) (1155 + (4 * s + r)) = 0 ∧ ¬ σ.1 (30, 0, 0, 0) (123 + s) < σ.1 (30, 0, 0, 0) (5 + r))))), σ) := by
  have h := m_isReady (σ := σ) (N := σ.1 (30, 0, 0, 0)) (O := σ.1 (34, 0, 0, 0)) (W := σ.1 (35, 0, 0, 0)) (b := σ.1 (10, 0, 0, 0) 12) hs hr
  rwa [wM_self] at h
end O1

/-! Both rows: the end of a slot, all stations -/
section E2
variable {M K s r i n m k d h x y T c : Nat} {F G N C P Q O W C' N' : Nat → Int32} {v u t : Int32} {b : Int32}
theorem Rl.uO (h : Rl M C N P Q) (hM : M ≤ 6) (hk : 135 ≤ k ∧ k < 147) : Rl M C (upd N k v) P Q := by
  obtain ⟨h1, h2, h3, h4, h5⟩ := h
  exact ⟨h1.uN (fun q => by have := pd_where q; omega), h2.mono hM (fun s hs => rfl) (fun j a b => upd_n (by omega)), h3.mono hM (fun j a b => rfl) (fun j a b => upd_n (by omega)), h4.mono hM (fun j a b => rfl) (fun j a b => upd_n (by omega)), h5⟩
theorem hO_N {but : Int32} (hM : M ≤ 6) (hy : y < 6) (h : ∀ k, 15 ≤ k → k < 51 → N' k = N k) : hO N' b M y but 0 ↔ hO N b M y but 0 := by
  unfold hO
  constructor
  · rintro ⟨z, g1, g2, g3, g4, g5⟩
    exact ⟨z, g1, g2, g3, by rw [← h _ (by omega) (by omega)]; exact g4, g5⟩
  · rintro ⟨z, g1, g2, g3, g4, g5⟩
    exact ⟨z, g1, g2, g3, by rw [h _ (by omega) (by omega)]; exact g4, g5⟩
theorem stP_N (hM : M ≤ 6) (hy : y < 6) (h : ∀ k, 15 ≤ k → k < 51 → N' k = N k) (h2 : N' 1331 = N 1331) : stP N' b M y ↔ stP N b M y := by
  unfold stP
  rw [hO_N hM hy h, h2]
/-- a station's end of the slot in the reference's row -/
noncomputable def eN1 (b : Int32) (M : Nat) (O W : Nat → Int32) (i : Nat) (F : Nat → Int32) : Nat → Int32 := nCs i 4 0 (nStl i (stP F b M i) (upd (upd F (135 + i) (O i)) (141 + i) (W i)))
noncomputable def eN (b : Int32) (M : Nat) (O W : Nat → Int32) : Nat → Nat → (Nat → Int32) → (Nat → Int32)
  | 0, _, F => F
  | d + 1, i, F => eN b M O W d (i + 1) (eN1 b M O W i F)
theorem eN1_n (hi : i < 6) (hk : (k < 123 ∨ 129 ≤ k) ∧ k ≠ 135 + i ∧ k ≠ 141 + i ∧ (k < 1155 ∨ 1179 ≤ k)) : eN1 b M O W i F k = F k := by
  unfold eN1 nStl
  rw [nCs_n hk.2.2.2 hi 4 0 _ (by omega), upd_n (by omega), upd_n hk.2.2.1, upd_n hk.2.1]
theorem eN_n (hk : (k < 123 ∨ 129 ≤ k) ∧ (k < 135 ∨ 147 ≤ k) ∧ (k < 1155 ∨ 1179 ≤ k)) : ∀ (d i : Nat) (F : Nat → Int32), i + d ≤ 6 → eN b M O W d i F k = F k
  | 0, _, _, _ => rfl
  | d + 1, i, F, h => by
    unfold eN
    rw [eN_n hk d (i + 1) _ (by omega), eN1_n (by omega) (by omega)]
theorem eN_o : ∀ (d i : Nat) (F : Nat → Int32), i + d ≤ 6 → ∀ z, i ≤ z → z < i + d → eN b M O W d i F (135 + z) = O z ∧ eN b M O W d i F (141 + z) = W z
  | 0, i, F, h, z, h1, h2 => by omega
  | d + 1, i, F, h, z, h1, h2 => by
    unfold eN
    by_cases e : z = i
    · subst e
      have stay : ∀ (d j : Nat) (G : Nat → Int32) (k : Nat), z < j → j + d ≤ 6 → (k = 135 + z ∨ k = 141 + z) → eN b M O W d j G k = G k := by
        intro d
        induction d with
        | zero => intro j G k _ _ _; rfl
        | succ d ih =>
          intro j G k hj hd hk
          unfold eN
          rw [ih (j + 1) _ k (by omega) (by omega) hk, eN1_n (by omega) (by omega)]
      rw [stay d (z + 1) _ _ (by omega) (by omega) (Or.inl rfl), stay d (z + 1) _ _ (by omega) (by omega) (Or.inr rfl)]
      unfold eN1 nStl
      rw [nCs_n (by omega) (by omega) 4 0 _ (by omega), upd_n (by omega), upd_n (by omega), upd_e rfl, nCs_n (by omega) (by omega) 4 0 _ (by omega), upd_n (by omega), upd_e rfl]
      exact ⟨rfl, rfl⟩
    · exact eN_o d (i + 1) _ (by omega) z (by omega) (by omega)
theorem m_end_from {σ : mS} (hM : M ≤ 6) : ∀ (d i : Nat) (F : Nat → Int32), i + d = M → F 0 = nI M → b_X10_stepEnd_2 (nI i) (wM σ F (oZ O (-1) i) W b) = some (some none, wM σ (upd (eN b M O W d i F) 1 (F 1 + nI 1)) (oZ O (-1) M) W b)
  | 0, i, F, hi, h0 => by
    rw [show i = M from by omega, q_X10_stepEnd_2, if_neg c0, c0c, wM_N, h0, if_neg (nI_nlt (by omega) (by omega)), nI_clamp (n := 1) (by omega), if_neg (ckn (by omega) (by omega)), if_neg (ckn (by omega) (by omega)), wM_N, wM_stN]
    rfl
  | d + 1, i, F, hi, h0 => by
    have hi6 : i < 6 := by omega
    have ih := m_end_from (σ := σ) hM d (i + 1) (eN1 b M O W i F) (by omega) (by rw [eN1_n hi6 (by omega)]; exact h0)
    have e51 : ∀ k, k < 123 → upd (upd F (135 + i) (O i)) (141 + i) (W i) k = F k := fun k hk => by rw [upd_n (by omega), upd_n (by omega)]
    have oi : oZ O (-1) i i = O i := if_neg (by omega)
    have fin : ∀ (z : Int32), z = (@ite _ (stP F b M i) (Classical.propDecidable _) (F (123 + i) + nI 1) (nI 0)) → b_X10_stepEnd_122 (nI i) (nI 0) (wM σ (upd (upd (upd F (135 + i) (O i)) (141 + i) (W i)) (123 + i) z) (oZ O (-1) (i + 1)) W b) = some (some none, wM σ (upd (eN b M O W (d + 1) i F) 1 (F 1 + nI 1)) (oZ O (-1) M) W b) := by
      intro z hz
      have e1 : eN1 b M O W i F 1 = F 1 := eN1_n hi6 (by omega)
      rw [e1] at ih
      rw [m_122 hi6 4 0 _ rfl]
      have e2 : nCs i 4 0 (upd (upd (upd F (135 + i) (O i)) (141 + i) (W i)) (123 + i) z) = eN1 b M O W i F := by
        unfold eN1 nStl
        rw [hz, upd_n (j := 123 + i) (by omega), upd_n (j := 123 + i) (by omega)]
      rw [e2]
      exact ih
    rw [q_X10_stepEnd_2, if_neg c0, c0c, wM_N, h0, if_pos (nI_lt (by omega) (by omega)), nI_clamp (n := i) (by omega), if_neg (ckn (by omega) (by omega)), nI_add 135 i, nI_clamp (n := 135 + i) (by omega), if_neg (ckn (by omega) (by omega)), wM_O, oi, wM_stN, nI_add 141 i, nI_clamp (n := 141 + i) (by omega)]
    simp only [if_neg (ckn (show i < 6 by omega) (show i < 2 ^ 31 by omega)), if_neg (ckn (show 141 + i < 1432 by omega) (show 141 + i < 2 ^ 31 by omega))]
    rw [wM_W, wM_stN, wM_stO, oZ_s, wM_b, m_has]
    dsimp only [bdI]
    simp only [if_neg n10, if_pos n00, nI_add 123 i, nI_clamp (show 123 + i < 2 ^ 31 by omega), if_neg (ckn (show 123 + i < 1432 by omega) (show 123 + i < 2 ^ 31 by omega))]
    have eh : hO (upd (upd F (135 + i) (O i)) (141 + i) (W i)) b M i (-1) 0 ↔ hO F b M i (-1) 0 := hO_N hM hi6 (fun k _ _ => e51 k (by omega))
    by_cases k1 : sn b i
    · rw [if_bI k1, wM_stN]
      exact fin _ (by rw [if_neg (fun q => q.1 k1)])
    · rw [if_nbI k1, m_hearsOthers hM (by rw [e51 0 (by omega)]; exact h0) hi6, bI_c eh]
      dsimp only
      by_cases k2 : hO F b M i (-1) 0
      · rw [if_bI k2, wM_stN]
        exact fin _ (by rw [if_neg (fun q => q.2.1 k2)])
      · rw [if_nbI k2, nI_clamp (n := 1331) (by omega), if_neg (ckn (by omega) (by omega)), wM_N, upd_n (show (1331 : Nat) ≠ 141 + i from by omega), upd_n (show (1331 : Nat) ≠ 135 + i from by omega), m_has]
        dsimp only
        by_cases k3 : sn (F 1331) i
        · rw [if_bI k3, wM_stN]
          exact fin _ (by rw [if_neg (fun q => q.2.2 k3)])
        · rw [if_nbI k3, wM_N, wM_stN, upd_n (show 123 + i ≠ 141 + i from by omega), upd_n (show 123 + i ≠ 135 + i from by omega)]
          exact fin _ (by rw [if_pos ⟨k1, k2, k3⟩])
theorem j_end_from {a : Nat} {pT : Nat → Prop} (hM : M ≤ 6) (hb : b = bv pT M) : ∀ (d i : Nat) (C F : Nat → Int32), i + d = M → F 0 = nI M → F 1329 = b → Rl M C F O W →
    ∃ C', (∀ σ, b_X0_passSlot_213 a (nI i) (wC a σ C) = some (some none, wC a σ C')) ∧ Rl M C' (upd (eN b M O W d i F) 1 (F 1 + nI 1)) O W
  | 0, i, C, F, hi, h0, h1, hR => by
    refine ⟨upd C 1 (F 1 + nI 1), fun σ => ?_, hR.u hM (Or.inl (by omega))⟩
    rw [show i = M from by omega, q_X0_passSlot_213, rC_many, hR.pl (pd_lo (by omega)), h0, if_neg (nI_nlt (by omega) (by omega)), rC_time, sC_time, hR.pl (pd_lo (k := 1) (by omega))]
  | d + 1, i, C, F, hi, h0, h1, hR => by
    have hi6 : i < 6 := by omega
    have hR1 : Rl M (nCs i 4 0 (nStl i (stP F b M i) C)) (eN1 b M O W i F) O W := by
      unfold eN1
      refine Rl.ncs hM (by omega) 4 0 _ _ (by omega) ?_
      have h2 := (hR.uO (k := 135 + i) (v := O i) hM (by omega)).uO (k := 141 + i) (v := W i) hM (by omega)
      unfold nStl
      rw [h2.pl (pd_st hM (by omega))]
      exact h2.u hM (Or.inr (Or.inl (by omega)))
    obtain ⟨C', c1, c2⟩ := j_end_from (a := a) hM hb d (i + 1) _ _ (by omega) (by rw [eN1_n hi6 (by omega)]; exact h0) (by rw [eN1_n hi6 (by omega)]; exact h1) hR1
    refine ⟨C', fun σ => ?_, ?_⟩
    · rw [q_X0_passSlot_213, rC_many, hR.pl (pd_lo (by omega)), h0, if_pos (nI_lt (by omega) (by omega)), c_settle hM hR hb h1 (by omega)]
      dsimp only [bdV]
      rw [nI_1]
      exact c1 σ
    · rw [eN1_n hi6 (by omega)] at c2
      exact c2
end E2

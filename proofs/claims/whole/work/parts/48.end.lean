/-! Both rows: the end of a slot -/
section EN
variable {M K s r i n m k d h x y T c : Nat} {F G N C P Q O W C' N' : Nat → Int32} {v u t : Int32} {b : Int32} {St : Prop}
def nCnt (s r : Nat) (F : Nat → Int32) : Nat → Int32 := if 0 < F (147 + (4 * s + r)) ∧ 0 < F (1155 + (4 * s + r)) ∧ F (5 + r) < F (123 + s) then upd F (1155 + (4 * s + r)) (F (1155 + (4 * s + r)) - nI 1) else F
def nCs (s : Nat) : Nat → Nat → (Nat → Int32) → (Nat → Int32)
  | 0, _, F => F
  | d + 1, r, F => nCs s d (r + 1) (nCnt s r F)
theorem nCnt_n (hk : k < 1155 ∨ 1179 ≤ k) (hr : r < 4) (hs : s < 6) : nCnt s r F k = F k := by
  unfold nCnt
  split
  · exact upd_n (by omega)
  · rfl
theorem nCs_n (hk : k < 1155 ∨ 1179 ≤ k) (hs : s < 6) : ∀ (d r : Nat) (F : Nat → Int32), r + d ≤ 4 → nCs s d r F k = F k
  | 0, _, _, _ => rfl
  | d + 1, r, F, h => by
    unfold nCs
    rw [nCs_n hk hs d (r + 1) _ (by omega), nCnt_n hk (by omega) hs]
theorem Rl.ncnt (h : Rl M C N P Q) (hM : M ≤ 6) (hs : s < M) (hr : r < 4) : Rl M (nCnt s r C) (nCnt s r N) P Q := by
  unfold nCnt
  rw [h.pl (pd_sz hM hs hr), h.pl (pd_ct hM hs hr), h.pl (pd_st hM hs), h.pl (pd_lo (k := 5 + r) (by omega))]
  split
  · exact h.u hM (Or.inr (Or.inr (Or.inl (by omega))))
  · exact h
theorem Rl.ncs (hM : M ≤ 6) (hs : s < M) : ∀ (d r : Nat) (C N : Nat → Int32), r + d ≤ 4 → Rl M C N P Q → Rl M (nCs s d r C) (nCs s d r N) P Q
  | 0, _, _, _, _, h => h
  | d + 1, r, C, N, hd, h => Rl.ncs hM hs d (r + 1) _ _ (by omega) (h.ncnt hM hs (by omega))
theorem c_65 {a : Nat} {σ : mS} (hs : s < 6) : ∀ (d r : Nat) (F : Nat → Int32), r + d = 4 → b_X0_settle_65 a a s (nI r) (wC a σ F) = some (some none, wC a σ (nCs s d r F))
  | 0, r, F, hr => by rw [show r = 4 from by omega, q_X0_settle_65, if_neg (by decide)]; rfl
  | d + 1, r, F, hr => by
    have ih := c_65 (a := a) (σ := σ) hs d (r + 1) (nCnt s r F) (by omega)
    have hr4 : r < 4 := by omega
    rw [q_X0_settle_65, if_pos (nI_lt hr4 (by omega)), nI_clamp (n := r) (by omega), if_neg (ckn (by omega) (by omega)), rC_size hs hr4, rC_count hs hr4, nI_add 3 r, nI_clamp (n := 3 + r) (by omega), if_neg (ckn (by omega) (by omega)), rC_set (by omega), rC_still hs, sC_count hs hr4, show 2 + (3 + r) = 5 + r from by omega, nI_1]
    show _ = some (some none, wC a σ (nCs s d (r + 1) (nCnt s r F)))
    unfold nCnt at ih ⊢
    by_cases k1 : 0 < F (147 + (4 * s + r))
    · rw [if_pos k1]
      by_cases k2 : 0 < F (1155 + (4 * s + r))
      · rw [if_pos k2]
        by_cases k3 : F (5 + r) < F (123 + s)
        · rw [if_pos k3]
          rw [if_pos ⟨k1, k2, k3⟩] at ih ⊢
          exact ih
        · rw [if_neg k3]
          rw [if_neg (fun q => k3 q.2.2)] at ih ⊢
          exact ih
      · rw [if_neg k2]
        rw [if_neg (fun q => k2 q.2.1)] at ih ⊢
        exact ih
    · rw [if_neg k1]
      rw [if_neg (fun q => k1 q.1)] at ih ⊢
      exact ih
theorem m_122 {σ : mS} (hs : s < 6) : ∀ (d r : Nat) (F : Nat → Int32), r + d = 4 → b_X10_stepEnd_122 (nI s) (nI r) (wM σ F O W b) = b_X10_stepEnd_2 (nI (s + 1)) (wM σ (nCs s d r F) O W b)
  | 0, r, F, hr => by rw [show r = 4 from by omega, q_X10_stepEnd_122, if_neg (by decide), nI_1]; rfl
  | d + 1, r, F, hr => by
    have ih := m_122 (σ := σ) hs d (r + 1) (nCnt s r F) (by omega)
    have hr4 : r < 4 := by omega
    rw [q_X10_stepEnd_122, if_pos (nI_lt hr4 (by omega)), r_at]
    dsimp only [bdI]
    rw [nI_add 147 (4 * s + r), nI_clamp (n := 147 + (4 * s + r)) (by omega), if_neg (ckn (by omega) (by omega)), wM_N, nI_1]
    show _ = b_X10_stepEnd_2 (nI (s + 1)) (wM σ (nCs s d (r + 1) (nCnt s r F)) O W b)
    unfold nCnt at ih ⊢
    by_cases k1 : 0 < F (147 + (4 * s + r))
    · rw [if_pos k1, r_at]
      dsimp only
      rw [nI_add 1155 (4 * s + r), nI_clamp (n := 1155 + (4 * s + r)) (by omega), if_neg (ckn (by omega) (by omega)), wM_N]
      by_cases k2 : 0 < F (1155 + (4 * s + r))
      · rw [if_pos k2, nI_add 123 s, nI_clamp (n := 123 + s) (by omega), if_neg (ckn (by omega) (by omega)), nI_add 5 r, nI_clamp (n := 5 + r) (by omega), if_neg (ckn (by omega) (by omega)), wM_N, wM_N]
        by_cases k3 : F (5 + r) < F (123 + s)
        · rw [if_pos k3, r_at]
          dsimp only
          rw [nI_add 1155 (4 * s + r), nI_clamp (n := 1155 + (4 * s + r)) (by omega), if_neg (ckn (by omega) (by omega)), if_neg (ckn (by omega) (by omega)), wM_N, wM_stN]
          rw [if_pos ⟨k1, k2, k3⟩] at ih ⊢
          exact ih
        · rw [if_neg k3]
          rw [if_neg (fun q => k3 q.2.2)] at ih ⊢
          exact ih
      · rw [if_neg k2]
        rw [if_neg (fun q => k2 q.2.1)] at ih ⊢
        exact ih
    · rw [if_neg k1]
      rw [if_neg (fun q => k1 q.1)] at ih ⊢
      exact ih
noncomputable def nStl (s : Nat) (St : Prop) (F : Nat → Int32) : Nat → Int32 := upd F (123 + s) (@ite _ St (Classical.propDecidable _) (F (123 + s) + nI 1) (nI 0))
def stP (N : Nat → Int32) (b : Int32) (M s : Nat) : Prop := ¬ sn b s ∧ ¬ hO N b M s (-1) 0 ∧ ¬ sn (N 1331) s
theorem c_settle {a : Nat} {σ : mS} {pT : Nat → Prop} (hM : M ≤ 6) (hR : Rl M C N P Q) (hb : b = bv pT M) (hNb : N 1329 = b) (hs : s < M) : e_X0_settle a (nI s) (wC a σ C) = some (some none, wC a σ (nCs s 4 0 (nStl s (stP N b M s) C))) := by
  have hs6 : s < 6 := by omega
  have hC : C 1329 = b := by rw [hR.pl (pd_hi (by omega))]; exact hNb
  have hh := heard_hd hM hR.2.1 hb hs
  have h31 : C 1331 = N 1331 := hR.pl (pd_hi (by omega))
  have fin : ∀ (z : Int32), z = (@ite _ (stP N b M s) (Classical.propDecidable _) (C (123 + s) + nI 1) (nI 0)) → b_X0_settle_65 a a s (nI 0) (wC a σ (upd C (123 + s) z)) = some (some none, wC a σ (nCs s 4 0 (nStl s (stP N b M s) C))) := fun z hz => by
    rw [c_65 hs6 4 0 _ rfl, hz]
    rfl
  rw [q_X0_settle, nI_clamp (n := s) (by omega), if_neg (ckn (by omega) (by omega)), c_sendsNow hs6, hC]
  dsimp only [bdI]
  rw [rC_hears hs6, rC_sending, hC, rC_ran, h31, if_neg n10, if_pos n00, sC_still hs6, sC_still hs6, rC_still hs6]
  by_cases k1 : sn b s
  · rw [if_bI k1]
    exact fin _ (by rw [if_neg (fun q => q.1 k1)])
  · rw [if_nbI k1]
    by_cases k2 : C (1436 + s) &&& b = 0
    · rw [if_pos k2]
      by_cases k3 : sn (N 1331) s
      · rw [if_sn k3]
        exact fin _ (by rw [if_neg (fun q => q.2.2 k3)])
      · rw [if_ns k3]
        exact fin _ (by rw [if_pos ⟨k1, hh.mp k2, k3⟩])
    · rw [if_neg k2]
      exact fin _ (by rw [if_neg (fun q => k2 (hh.mpr q.2.1))])
end EN

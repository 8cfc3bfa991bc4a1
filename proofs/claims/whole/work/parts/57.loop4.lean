/-! Amid a slot: one sender's step, both rows -/
section MG
variable {M K T s r i j n m k d h x y z x1 x2 : Nat} {F G N0 N C P Q O W C' N' P' Q' O' W' : Nat → Int32} {v u t : Int32} {b : Int32} {w1 : Prop} {wb : Nat → Prop}
theorem c_snd {a : Nat} {σ : mS} (hM : M ≤ 6) (hj : j < M) (h0 : C 0 = nI M) (hon : C (1179 + 16 * j) = nI 1) (hyC : C (1179 + 16 * j + 1) = nI y) (hy : y < M) : b_X0_passSlot_84 a (nI j) (wC a σ C) =
    if C (1179 + 16 * j + 4) = nI 0 then bdV (e_X0_goAsk a (nI j) (nI y) a j (wC a σ C)) (fun σ1 => b_X0_passSlot_84 a (nI (j + 1)) σ1)
    else if C (1179 + 16 * j + 4) = nI 1 then bdV (e_X0_goGrant a (nI j) (nI y) a j (wC a σ C)) (fun σ1 => b_X0_passSlot_84 a (nI (j + 1)) σ1)
    else if C (1179 + 16 * j + 4) = nI 2 then bdV (e_X0_goData a (nI j) (nI y) a j (wC a σ C)) (fun σ1 => b_X0_passSlot_84 a (nI (j + 1)) σ1)
    else bdV (e_X0_goAnswer a (nI j) (nI y) a j (wC a σ C)) (fun σ1 => b_X0_passSlot_84 a (nI (j + 1)) σ1) := by
  have hj6 : j < 6 := by omega
  rw [q_X0_passSlot_84, rC_many, h0, if_pos (nI_lt hj (by omega)), nI_clamp (n := j) (by omega), if_neg (ckn (by omega) (by omega)), rC_on hj6, hon, if_neg (by decide), rC_with hj6, hyC, if_neg (nI_pos (n := y) (by omega)), if_pos (nI_lt hy (by omega)), rC_step hj6, nI_1]
theorem c_snd_off {a : Nat} {σ : mS} (hM : M ≤ 6) (hj : j < M) (h0 : C 0 = nI M) (hon : C (1179 + 16 * j) = nI 0) : b_X0_passSlot_84 a (nI j) (wC a σ C) = b_X0_passSlot_84 a (nI (j + 1)) (wC a σ C) := by
  have hj6 : j < 6 := by omega
  rw [q_X0_passSlot_84, rC_many, h0, if_pos (nI_lt hj (by omega)), nI_clamp (n := j) (by omega), if_neg (ckn (by omega) (by omega)), rC_on hj6, hon, if_pos (by decide), nI_1]
theorem m_snd {σ : mS} (hM : M ≤ 6) (hj : j < M) (h0 : N 0 = nI M) (hon : N (1179 + 16 * j) = nI 1) : b_X10_slot_14 (nI j) (wM σ N O W b) = bdV (e_X10_stepSender (nI j) (wM σ N O W b)) (fun σ3 => b_X10_slot_14 (nI (j + 1)) σ3) := by
  rw [q_X10_slot_14, nI_clamp (n := 0) (by omega), if_neg (ckn (n := 0) (by omega) (by omega)), wM_N, h0, if_pos (nI_lt hj (by omega)), m_exAt]
  dsimp only [bdI]
  rw [nI_add, nI_clamp (n := 1179 + 16 * j + 0) (by omega), if_neg (ckn (by omega) (by omega)), wM_N, Nat.add_zero, hon, if_pos rfl, nI_1]
theorem m_snd_off {σ : mS} (hM : M ≤ 6) (hj : j < M) (h0 : N 0 = nI M) (hon : N (1179 + 16 * j) = nI 0) : b_X10_slot_14 (nI j) (wM σ N O W b) = b_X10_slot_14 (nI (j + 1)) (wM σ N O W b) := by
  rw [q_X10_slot_14, nI_clamp (n := 0) (by omega), if_neg (ckn (n := 0) (by omega) (by omega)), wM_N, h0, if_pos (nI_lt hj (by omega)), m_exAt]
  dsimp only [bdI]
  rw [nI_add, nI_clamp (n := 1179 + 16 * j + 0) (by omega), if_neg (ckn (by omega) (by omega)), wM_N, Nat.add_zero, hon, if_neg (by decide), nI_1]
/-- a sender's step at both rows -/
def SndTo (M T a : Nat) (b : Int32) (N0 N C O W : Nat → Int32) (j : Nat) : Prop :=
  ∃ C' N' O' W', (∀ σ, b_X0_passSlot_84 a (nI j) (wC a σ C) = b_X0_passSlot_84 a (nI (j + 1)) (wC a σ C')) ∧ (∀ σ, b_X10_slot_14 (nI j) (wM σ N O W b) = b_X10_slot_14 (nI (j + 1)) (wM σ N' O' W' b)) ∧ Md M T b N0 N' O' W' (j + 1) ∧ Rl M C' N' (dP N0 O' (j + 1)) (dQ N0 O' W' (j + 1))
theorem snd_off {a : Nat} (hD : DB M N0) (hm : Md M T b N0 N O W j) (hj : j < M) (hR : Rl M C N (dP N0 O j) (dQ N0 O W j)) (hon : N (1179 + 16 * j) = nI 0) : SndTo M T a b N0 N C O W j := by
  have hM := hm.1.1.2.1
  have hN0 := hm.1.1.1
  have h00 : C 0 = nI M := by rw [hR.pl (pd_lo (by omega))]; exact hN0
  have hoC : C (1179 + 16 * j) = nI 0 := by rw [hR.on hj]; exact hon
  have hon0 : N0 (1179 + 16 * j) = nI 0 := by rw [← hon]; exact (hm.2.2.1 j (Nat.le_refl _) hj 0 (by omega)).symm
  refine ⟨C, N, O, W, fun σ => c_snd_off hM hj h00 hoC, fun σ => m_snd_off hM hj hN0 hon, hm.next hj hm.1 (fun _ _ => rfl) (fun _ _ _ _ _ => rfl) (Or.inl hon) (Or.inl ⟨rfl, rfl⟩) (fun _ _ _ => rfl) (fun u hu => ⟨u, by omega, hu⟩), hR.pq fun z hz => dP_next hD hM hj hz (db_ph hD hM hz hj (Or.inl hon0))⟩
end MG

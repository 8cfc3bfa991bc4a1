/-! Amid a slot: one sender's step, both rows -/
section MG
variable {M K T s r i j n m k d h x y z x1 x2 : Nat} {F G N0 N C P Q O W C' N' P' Q' O' W' : Nat → Int32} {v u t : Int32} {b : Int32} {w1 : Prop} {wb : Nat → Prop}
theorem c_snd {a : Nat} {σ : mS} (hM : M ≤ 6) (hj : j < M) (h0 : C 0 = nI M) (hon : C (1179 + 16 * j) = nI 1) (hyC : C (1179 + 16 * j + 1) = nI y) (hy : y < M) : b_X0_passSlot_84 a (nI j) (wC a σ C) =
    if C (1179 + 16 * j + 4) = nI 0 then bdV (e_X0_goAsk a (nI j) (nI y) a j (wC a σ C)) (fun σ1 => b_X0_passSlot_84 a (nI (j + 1)) σ1)
    else if C (1179 + 16 * j + 4) = nI 1 then bdV (e_X0_goGrant a (nI j) (nI y) a j (wC a σ C)) (fun σ1 => b_X0_passSlot_84 a (nI (j + 1)) σ1)
    else if C (1179 + 16 * j + 4) = nI 2 then bdV (e_X0_goData a (nI j) (nI y) a j (wC a σ C)) (fun σ1 => b_X0_passSlot_84 a (nI (j + 1)) σ1)
    else bdV (e_X0_goAnswer a (nI j) (nI y) a j (wC a σ C)) (fun σ1 => b_X0_passSlot_84 a (nI (j + 1)) σ1) := by
  have hj6 : j < 6 := by omega
  rw [q_X0_passSlot_84, rC_many, h0, if_pos (nI_lt hj (by omega)), nI_clamp (n := j) (by omega), if_neg (ckn (by omega) (by omega)), rC_on hj6, hon, if_neg (by decide), rC_with hj6, hyC, if_neg (nI_nlt (n := 0) (by omega) (by omega)), if_pos (nI_lt hy (by omega)), rC_step hj6, nI_1]
theorem c_snd_off {a : Nat} {σ : mS} (hM : M ≤ 6) (hj : j < M) (h0 : C 0 = nI M) (hon : C (1179 + 16 * j) = nI 0) : b_X0_passSlot_84 a (nI j) (wC a σ C) = b_X0_passSlot_84 a (nI (j + 1)) (wC a σ C) := by
  have hj6 : j < 6 := by omega
  rw [q_X0_passSlot_84, rC_many, h0, if_pos (nI_lt hj (by omega)), nI_clamp (n := j) (by omega), if_neg (ckn (by omega) (by omega)), rC_on hj6, hon, if_pos (by decide), nI_1]
end MG

/-! Both rows: places of data -/
section DA
variable {M x y z s r n k : Nat} {F C N P Q O W : Nat → Int32} {v : Int32} {b : Int32} {pS hp : Nat → Prop}
noncomputable def spo1 (hp : Nat → Prop) (x z : Nat) (F : Nat → Int32) : Nat → Int32 := @ite _ (hp z) (Classical.propDecidable _) (upd F (1360 + 6 * x + z) (F (1360 + 6 * x + z) + nI 1)) F
noncomputable def spo (hp : Nat → Prop) (x : Nat) : Nat → Nat → (Nat → Int32) → (Nat → Int32)
  | 0, _, F => F
  | d + 1, i, F => spo hp x d (i + 1) (spo1 hp x i F)
theorem spo1_n (hk : k < 1360 + 6 * x ∨ 1360 + 6 * x + 6 ≤ k) (hz : z < 6) : spo1 hp x z F k = F k := by
  unfold spo1
  split
  · exact upd_n (by omega)
  · rfl
theorem spo_n (hk : k < 1360 + 6 * x ∨ 1360 + 6 * x + 6 ≤ k) : ∀ (d i : Nat) (F : Nat → Int32), i + d ≤ 6 → spo hp x d i F k = F k
  | 0, _, _, _ => rfl
  | d + 1, i, F, h => by
    unfold spo
    rw [spo_n hk d (i + 1) _ (by omega), spo1_n hk (by omega)]
theorem spo_add : ∀ (d1 d2 i : Nat) (F : Nat → Int32), spo hp x (d1 + d2) i F = spo hp x d2 (i + d1) (spo hp x d1 i F)
  | 0, d2, i, F => by rw [Nat.zero_add, Nat.add_zero]; rfl
  | d1 + 1, d2, i, F => by
    rw [show d1 + 1 + d2 = (d1 + d2) + 1 from by omega]
    show spo hp x (d1 + d2) (i + 1) (spo1 hp x i F) = spo hp x d2 (i + (d1 + 1)) (spo hp x d1 (i + 1) (spo1 hp x i F))
    rw [spo_add d1 d2 (i + 1), show i + 1 + d1 = i + (d1 + 1) from by omega]
theorem spo_no : ∀ (d i : Nat) (F : Nat → Int32), (∀ z, i ≤ z → ¬ hp z) → spo hp x d i F = F
  | 0, _, _, _ => rfl
  | d + 1, i, F, h => by
    unfold spo
    rw [show spo1 hp x i F = F from by unfold spo1; rw [if_neg (h i (Nat.le_refl _))]]
    exact spo_no d (i + 1) F (fun z hz => h z (by omega))
theorem spo_M (hM : M ≤ 6) (h : ∀ z, hp z → z < M) : spo hp x 6 0 F = spo hp x M 0 F := by
  rw [show 6 = M + (6 - M) from by omega, spo_add, spo_no _ _ _ (fun z hz q => by have := h z q; omega)]
theorem diag_pd (hx : x < 6) : ¬ PD M (1360 + 6 * x + x) := by
  unfold PD
  intro h
  rcases h with h | h | h | h | h | h | h | h | h | h | h | h | h | h <;> omega
theorem Rl.uC (h : Rl M C N P Q) (hM : M ≤ 6) (hx : x < 6) : Rl M (upd C (1360 + 6 * x + x) v) N P Q := by
  obtain ⟨h1, h2, h3, h4, h5⟩ := h
  exact ⟨h1.uC (diag_pd hx), h2.mono hM (fun s hs => upd_n (by omega)) (fun j a b => rfl), h3.mono hM (fun j a b => upd_n (by omega)) (fun j a b => rfl), h4.mono hM (fun j a b => upd_n (by omega)) (fun j a b => rfl), h5.mono fun s hs => ⟨upd_n (by omega), upd_n (by omega)⟩⟩
theorem Rl.spoF (hM : M ≤ 6) (hx : x < M) : ∀ (d i : Nat) (C N : Nat → Int32), i + d ≤ 6 → Rl M C N P Q → Rl M (spo hp x d i C) (spo (fun z => hp z ∧ z ≠ x) x d i N) P Q
  | 0, _, _, _, _, h => h
  | d + 1, i, C, N, hi, h => by
    refine Rl.spoF hM hx d (i + 1) _ _ (by omega) ?_
    unfold spo1
    by_cases k1 : hp i
    · rw [if_pos k1]
      by_cases k2 : i = x
      · rw [if_neg (fun q => q.2 k2), k2]
        exact h.uC hM (by omega)
      · rw [if_pos ⟨k1, k2⟩, h.pl (pd_so hM hx (by omega) k2)]
        exact h.u hM (Or.inr (Or.inr (Or.inr (by omega))))
    · rw [if_neg k1, if_neg (fun q => k1 q.1)]
      exact h
theorem add_n0 {w : Int32} : w + nI 0 = w := by rw [nI_0]; simp
theorem c_spoil_from {a : Nat} {σ : mS} {heard : Int32} (hx : x < 6) (hh : ∀ z, z < 6 → (sn heard z ↔ hp z)) : ∀ (d i : Nat) (F : Nat → Int32), i + d = 6 → b_X0_noteSpoilt_2 a x heard (nI i) (wC a σ F) = some (some none, wC a σ (spo hp x d i F))
  | 0, i, F, hi => by
    have : i = 6 := by omega
    subst this
    rw [q_X0_noteSpoilt_2, if_neg (by decide)]
    rfl
  | d + 1, i, F, hi => by
    have ih := c_spoil_from (a := a) (σ := σ) hx hh d (i + 1) (spo1 hp x i F) (by omega)
    have c6 : ¬ (nI i < 0 ∨ 6 ≤ i) := ckn (by omega) (by omega)
    rw [q_X0_noteSpoilt_2, if_pos (nI_lt (by omega) (by omega)), nI_clamp (by omega), if_neg c6, nI_1]
    unfold spo
    by_cases k1 : hp i
    · rw [if_sn ((hh i (by omega)).mpr k1), if_neg c6, rC_spoilt hx (by omega), sC_spoilt hx (by omega)]
      unfold spo1 at ih ⊢
      rw [if_pos k1] at ih ⊢
      exact ih
    · rw [if_ns (fun q => k1 ((hh i (by omega)).mp q)), if_neg c6, rC_spoilt hx (by omega), sC_spoilt hx (by omega), add_n0, upd_id]
      unfold spo1 at ih ⊢
      rw [if_neg k1] at ih ⊢
      exact ih
/-- whom y hears send, x left out -/
def hpN (N : Nat → Int32) (b : Int32) (M y z : Nat) : Prop := z < M ∧ 0 < N (15 + 6 * y + z) ∧ sn b z
theorem m_spoil_from {σ : mS} {N0 : Nat → Int32} (hI : IS M N0) (hx : x < M) (hy : y < M) (hk : ¬ clr N0 b M y x) : ∀ (d i : Nat) (N : Nat → Int32), (∀ k, k < 51 → N k = N0 k) → i + d = M →
    b_X10_stepData_85 (nI x) (nI (1179 + 16 * x)) (nI y) (nI i) (wM σ N O W b) = b_X10_stepData_159 (nI x) (nI (1179 + 16 * x)) (nI y) (wM σ (spo (fun z => hpN N0 b M y z ∧ z ≠ x) x d i N) O W b)
  | 0, i, N, he, hi => by
    have hM := hI.2.1
    rw [q_X10_stepData_85, if_neg c0, c0c, wM_N, he 0 (by omega), hI.1, if_neg (nI_nlt (by omega) (by omega))]
    rfl
  | d + 1, i, N, he, hi => by
    have hM := hI.2.1
    have hc : ¬ clr N b M y x := fun q => hk ((clr_N hM (by omega) (by omega) (fun j a c => he j (by omega))).mp q)
    have ih := m_spoil_from (σ := σ) hI hx hy hk d (i + 1) (spo1 (fun z => hpN N0 b M y z ∧ z ≠ x) x i N) (fun j hj => by rw [spo1_n (by omega) (by omega)]; exact he j hj) (by omega)
    have hb0 : N (15 + 6 * y + i) = N0 (15 + 6 * y + i) := he _ (by omega)
    rw [q_X10_stepData_85, if_neg c0, c0c, wM_N, he 0 (by omega), hI.1, if_pos (nI_lt (by omega) (by omega)), m_isClear hM (by rw [he 0 (by omega)]; exact hI.1) (by omega) (by omega)]
    dsimp only [bdI]
    rw [if_nbI hc, nI_1]
    unfold spo
    have no : ¬ (hpN N0 b M y i ∧ i ≠ x) → spo1 (fun z => hpN N0 b M y z ∧ z ≠ x) x i N = N := fun q => by unfold spo1; rw [if_neg q]
    by_cases k1 : i = x
    · rw [if_pos (by rw [k1])]
      rw [no (fun q => q.2 k1)] at ih ⊢
      exact ih
    · rw [if_neg (fun q => k1 ((nI_eq (by omega) (by omega)).mp q)), m_hears (by omega) (by omega)]
      dsimp only
      by_cases k2 : 0 < N (15 + 6 * y + i)
      · rw [if_bI k2, wM_b, m_has]
        dsimp only
        by_cases k3 : sn b i
        · rw [if_bI k3]
          have e1 : spo1 (fun z => hpN N0 b M y z ∧ z ≠ x) x i N = upd N (1360 + 6 * x + i) (N (1360 + 6 * x + i) + nI 1) := by
            unfold spo1
            rw [if_pos ⟨⟨by omega, by rw [← hb0]; exact k2, k3⟩, k1⟩]
          rw [e1] at ih ⊢
          simp (disch := omega) only [pk_mul, nI_add, nI_clamp, ck2, if_false, wM_N, wM_stN]
          exact ih
        · rw [if_nbI k3]
          rw [no (fun q => k3 q.1.2.2)] at ih ⊢
          exact ih
      · rw [if_nbI k2]
        rw [no (fun q => k2 (by rw [hb0]; exact q.1.2.1))] at ih ⊢
        exact ih
theorem mx1 {ρ : Nat} (h : 1 ≤ ρ) (h2 : ρ < 2 ^ 31) : (if nI 1 < nI ρ then nI ρ else nI 1) = nI ρ := by
  by_cases k : 1 < ρ
  · rw [if_pos (nI_lt k h2)]
  · have : ρ = 1 := by omega
    subst this
    rw [if_neg (by decide)]
theorem mx0 {u : Nat} (h : 1 ≤ u) (h2 : u < 2 ^ 31) : (if nI 0 < nI u then nI u else nI 0) = nI u := if_pos (nI_lt h h2)
/-- places of a frame -/
theorem c_placesOf {a ρ u : Nat} {σ : mS} (hs : s < 6) (hy : y < 6) (hr : r < 4) (hn : n ≤ 8) (h1 : F (1179 + 16 * s + 1) = nI y) (h2 : F (1179 + 16 * s + 2) = nI r) (h3 : F (147 + (4 * s + r)) = nI n) (h4 : F (51 + 6 * s + y) = nI ρ) (h5 : 1 ≤ ρ) (h6 : ρ ≤ 3) (hk : k < n) (hu : F (171 + 5 * (8 * (4 * s + r) + k) + 1) = nI u) (hu1 : 1 ≤ u) (hu2 : u ≤ 9) :
    e_X0_placesOf a s (nI k) (wC a σ F) = some (some (some (.inl ((F (171 + 5 * (8 * (4 * s + r) + k) + 1) + F (51 + 6 * s + y) - nI 1) / F (51 + 6 * s + y)))), wC a σ F) := by
  have cy : ¬ (nI y < 0 ∨ 6 ≤ y) := ckn (by omega) (by omega)
  have cr : ¬ (nI r < 0 ∨ 4 ≤ r) := ckn (by omega) (by omega)
  rw [q_X0_placesOf, rC_with hs, rC_ofRank hs, h1, h2, if_neg (nI_pos (by omega)), if_pos (nI_lt (by omega) (by omega)), if_neg (nI_pos (by omega)), if_pos (nI_lt (by omega) (by omega)), nI_clamp (by omega), nI_clamp (by omega), if_neg cy, if_neg cr, c_fieldOf hs hr hn h3 hk (by omega)]
  dsimp only [bdI]
  rw [rC_rate hs hy, h4, mx1 h5 (by omega), if_neg (nI_ne0 (by omega) (by omega)), hu, mx0 hu1 (by omega)]
theorem c_placesOf_n {a ρ : Nat} (hs : s < 6) (hy : y < 6) (hr : r < 4) (hn : n ≤ 8) (h1 : F (1179 + 16 * s + 1) = nI y) (h2 : F (1179 + 16 * s + 2) = nI r) (h3 : F (147 + (4 * s + r)) = nI n) (h4 : F (51 + 6 * s + y) = nI ρ) (h5 : 1 ≤ ρ) (h6 : ρ ≤ 3) (hk : k ≤ 8) :
    ∃ v, ∀ σ, e_X0_placesOf a s (nI k) (wC a σ F) = some (some (some (.inl v)), wC a σ F) := by
  have cy : ¬ (nI y < 0 ∨ 6 ≤ y) := ckn (by omega) (by omega)
  have cr : ¬ (nI r < 0 ∨ 4 ≤ r) := ckn (by omega) (by omega)
  by_cases hkn : k < n
  · refine ⟨((if nI 0 < F (171 + 5 * (8 * (4 * s + r) + k) + 1) then F (171 + 5 * (8 * (4 * s + r) + k) + 1) else nI 0) + nI ρ - nI 1) / nI ρ, fun σ => ?_⟩
    rw [q_X0_placesOf, rC_with hs, rC_ofRank hs, h1, h2, if_neg (nI_pos (by omega)), if_pos (nI_lt (by omega) (by omega)), if_neg (nI_pos (by omega)), if_pos (nI_lt (by omega) (by omega)), nI_clamp (by omega), nI_clamp (by omega), if_neg cy, if_neg cr, c_fieldOf hs hr hn h3 hkn (by omega)]
    dsimp only [bdI]
    rw [rC_rate hs hy, h4, mx1 h5 (by omega), if_neg (nI_ne0 (by omega) (by omega))]
  · refine ⟨((if nI 0 < (-1) then (-1) else nI 0) + nI ρ - nI 1) / nI ρ, fun σ => ?_⟩
    rw [q_X0_placesOf, rC_with hs, rC_ofRank hs, h1, h2, if_neg (nI_pos (by omega)), if_pos (nI_lt (by omega) (by omega)), if_neg (nI_pos (by omega)), if_pos (nI_lt (by omega) (by omega)), nI_clamp (by omega), nI_clamp (by omega), if_neg cy, if_neg cr, c_fieldOf_n hs hr hn h3 (by omega) (by omega)]
    dsimp only [bdI]
    rw [rC_rate hs hy, h4, mx1 h5 (by omega), if_neg (nI_ne0 (by omega) (by omega))]
/-- one place goes by: the class -/
theorem c_place {a q c w h ρ u : Nat} {kc : Prop} {p : Nat → Nat} (hx : x < 6) (hy : y < 6) (hr : r < 4) (hn : n ≤ 8) (h1 : F (1179 + 16 * x + 1) = nI y) (h2 : F (1179 + 16 * x + 2) = nI r) (h3 : F (147 + (4 * x + r)) = nI n) (h4 : F (51 + 6 * x + y) = nI ρ) (h5 : 1 ≤ ρ) (h6 : ρ ≤ 3)
    (hq : F (1179 + 16 * x + 8) = nI q) (hq1 : 1 ≤ q) (hq2 : q ≤ 9) (hc : F (1179 + 16 * x + 7) = nI c) (hch : c < h) (hh : h ≤ 4) (hhn : h ≤ n) (hw : F (1179 + 16 * x + 6) = nI w) (hg : F (1179 + 16 * x + 9) = nI 0 ∨ F (1179 + 16 * x + 9) = nI 1)
    (hp : ∀ k, k < h → (F (171 + 5 * (8 * (4 * x + r) + k) + 1) + F (51 + 6 * x + y) - nI 1) / F (51 + 6 * x + y) = nI (p k) ∧ ∃ u, F (171 + 5 * (8 * (4 * x + r) + k) + 1) = nI u ∧ 1 ≤ u ∧ u ≤ 9) :
    ∃ C', (∀ σ, e_X0_goPlace a x (bI kc) (wC a σ F) = some (some none, wC a σ C')) ∧ (∀ k, k < 1179 + 16 * x + 6 ∨ 1179 + 16 * x + 9 < k → C' k = F k) ∧
      (2 ≤ q → C' (1179 + 16 * x + 8) = nI (q - 1) ∧ C' (1179 + 16 * x + 9) = @ite _ (¬ kc ∨ F (15 + 6 * x + y) < F (51 + 6 * x + y)) (Classical.propDecidable _) (nI 1) (F (1179 + 16 * x + 9)) ∧ C' (1179 + 16 * x + 6) = nI w ∧ C' (1179 + 16 * x + 7) = nI c) ∧
      (q = 1 → C' (1179 + 16 * x + 7) = nI (c + 1) ∧ C' (1179 + 16 * x + 9) = nI 0 ∧ C' (1179 + 16 * x + 6) = @ite _ ((¬ kc ∨ F (15 + 6 * x + y) < F (51 + 6 * x + y)) ∨ F (1179 + 16 * x + 9) = nI 1) (Classical.propDecidable _) (nI w) (nI w ||| (nI 1 <<< (nI c &&& 31))) ∧ (c + 1 < h → C' (1179 + 16 * x + 8) = nI (p (c + 1)))) := by
  have cy : ¬ (nI y < 0 ∨ 6 ≤ y) := ckn (by omega) (by omega)
  -- what follows the look at the place
  have key : ∀ (G : Nat → Int32) (g : Int32), (∀ k, k < 1179 + 16 * x + 9 ∨ 1179 + 16 * x + 9 < k → G k = F k) → G (1179 + 16 * x + 9) = g → (g = nI 0 ∨ g = nI 1) → ∃ C', (∀ σ, (let σ16 := st (wC a σ G) (2, a, x, 0) 11 (((wC a σ G).1 (2, a, x, 0) 11) - (nI 1))
      if 0 < σ16.1 (2, a, x, 0) 11 then (
        some (some none, σ16))
      else (
        if σ16.1 (2, a, x, 0) 12 = 0 then (
          let σ17 := st σ16 (2, a, x, 0) 7 ((σ16.1 (2, a, x, 0) 7) ||| ((nI 1) <<< ((σ16.1 (2, a, x, 0) 10) &&& 31)))
          let σ18 := st σ17 (2, a, x, 0) 10 ((σ17.1 (2, a, x, 0) 10) + (nI 1))
          bdI (e_X0_placesOf a x (σ18.1 (2, a, x, 0) 10) σ18) (fun v20 σ19 =>
          let σ21 := st σ19 (2, a, x, 0) 11 v20
          if nI 0 = 0 ∨ nI 0 = 1 then (
          let σ22 := st σ21 (2, a, x, 0) 12 (nI 0)
          some (some none, σ22)) else none))
        else (
          let σ23 := st σ16 (2, a, x, 0) 7 ((σ16.1 (2, a, x, 0) 7) ||| (nI 0))
          let σ24 := st σ23 (2, a, x, 0) 10 ((σ23.1 (2, a, x, 0) 10) + (nI 1))
          bdI (e_X0_placesOf a x (σ24.1 (2, a, x, 0) 10) σ24) (fun v26 σ25 =>
          let σ27 := st σ25 (2, a, x, 0) 11 v26
          if nI 0 = 0 ∨ nI 0 = 1 then (
          let σ28 := st σ27 (2, a, x, 0) 12 (nI 0)
          some (some none, σ28)) else none)))) = some (some none, wC a σ C')) ∧ (∀ k, k < 1179 + 16 * x + 6 ∨ 1179 + 16 * x + 9 < k → C' k = F k) ∧
      (2 ≤ q → C' (1179 + 16 * x + 8) = nI (q - 1) ∧ C' (1179 + 16 * x + 9) = g ∧ C' (1179 + 16 * x + 6) = nI w ∧ C' (1179 + 16 * x + 7) = nI c) ∧
      (q = 1 → C' (1179 + 16 * x + 7) = nI (c + 1) ∧ C' (1179 + 16 * x + 9) = nI 0 ∧ C' (1179 + 16 * x + 6) = (if g = nI 1 then nI w else nI w ||| (nI 1 <<< (nI c &&& 31))) ∧ (c + 1 < h → C' (1179 + 16 * x + 8) = nI (p (c + 1)))) := by
    intro G g hG hg1 hg2
    have hG8 : G (1179 + 16 * x + 8) = nI q := by rw [hG _ (by omega), hq]
    have hG6 : G (1179 + 16 * x + 6) = nI w := by rw [hG _ (by omega), hw]
    have hG7 : G (1179 + 16 * x + 7) = nI c := by rw [hG _ (by omega), hc]
    by_cases hq3 : 2 ≤ q
    · refine ⟨upd G (1179 + 16 * x + 8) (nI (q - 1)), fun σ => ?_, fun k hk => ?_, fun _ => ⟨upd_e rfl, ?_, ?_, ?_⟩, fun q1 => by omega⟩
      · dsimp only
        rw [rC_placesNow hx, sC_placesNow hx, rC_placesNow hx, upd_e rfl, hG8, pk_sub hq1, if_pos (by rw [nI_0lt (by omega)]; omega)]
      · rw [upd_n (by omega), hG k (by omega)]
      · rw [upd_n (by omega), hg1]
      · rw [upd_n (by omega), hG6]
      · rw [upd_n (by omega), hG7]
    · have hq4 : q = 1 := by omega
      subst hq4
      -- the new places
      have pl : ∀ H : Nat → Int32, (∀ k, k < 1179 + 16 * x + 6 ∨ 1179 + 16 * x + 9 < k → H k = F k) → ∃ v, (∀ σ, e_X0_placesOf a x (nI (c + 1)) (wC a σ H) = some (some (some (.inl v)), wC a σ H)) ∧ (c + 1 < h → v = nI (p (c + 1))) := by
        intro H hH
        by_cases hc1 : c + 1 < h
        · obtain ⟨p1, u, p2, p3, p4⟩ := hp (c + 1) hc1
          refine ⟨nI (p (c + 1)), fun σ => ?_, fun _ => rfl⟩
          rw [c_placesOf (n := n) (ρ := ρ) (u := u) hx hy hr hn (by rw [hH _ (by omega)]; exact h1) (by rw [hH _ (by omega)]; exact h2) (by rw [hH _ (by omega)]; exact h3) (by rw [hH _ (by omega)]; exact h4) h5 h6 (by omega) (by rw [hH _ (by omega)]; exact p2) p3 p4, hH _ (by omega), hH _ (by omega), p1]
        · obtain ⟨v, hv⟩ := c_placesOf_n (a := a) (k := c + 1) (F := H) (n := n) (ρ := ρ) hx hy hr hn (by rw [hH _ (by omega)]; exact h1) (by rw [hH _ (by omega)]; exact h2) (by rw [hH _ (by omega)]; exact h3) (by rw [hH _ (by omega)]; exact h4) h5 h6 (by omega)
          exact ⟨v, hv, fun q => absurd q hc1⟩
      rcases hg2 with hg2 | hg2
      · obtain ⟨v, hv1, hv2⟩ := pl (upd (upd (upd G (1179 + 16 * x + 8) (nI 0)) (1179 + 16 * x + 6) (nI w ||| (nI 1 <<< (nI c &&& 31)))) (1179 + 16 * x + 7) (nI (c + 1))) (fun k hk => by rw [upd_n (by omega), upd_n (by omega), upd_n (by omega), hG k (by omega)])
        refine ⟨upd (upd (upd (upd (upd G (1179 + 16 * x + 8) (nI 0)) (1179 + 16 * x + 6) (nI w ||| (nI 1 <<< (nI c &&& 31)))) (1179 + 16 * x + 7) (nI (c + 1))) (1179 + 16 * x + 8) v) (1179 + 16 * x + 9) (nI 0), fun σ => ?_, fun k hk => ?_, fun q1 => by omega, fun _ => ⟨?_, upd_e rfl, ?_, fun q1 => ?_⟩⟩
        · dsimp only
          rw [rC_placesNow hx, sC_placesNow hx, rC_placesNow hx, upd_e rfl, hG8, pk_sub (by omega), if_neg (by decide), rC_broken hx, upd_n (by omega), hg1, hg2, if_pos n00]
          simp (disch := omega) only [rC_whole, sC_whole, rC_frameNow, sC_frameNow, upd_n, upd_e, hG6, hG7, nI_add]
          rw [hv1]
          simp (disch := omega) only [bdI, sC_placesNow, sC_broken, z01, if_true]
        · rw [upd_n (by omega), upd_n (by omega), upd_n (by omega), upd_n (by omega), upd_n (by omega), hG k (by omega)]
        · rw [upd_n (by omega), upd_n (by omega), upd_e rfl]
        · rw [upd_n (by omega), upd_n (by omega), upd_n (by omega), upd_e rfl, hg2, if_neg n01]
        · rw [upd_n (by omega), upd_e rfl, hv2 q1]
      · obtain ⟨v, hv1, hv2⟩ := pl (upd (upd (upd G (1179 + 16 * x + 8) (nI 0)) (1179 + 16 * x + 6) (nI w)) (1179 + 16 * x + 7) (nI (c + 1))) (fun k hk => by rw [upd_n (by omega), upd_n (by omega), upd_n (by omega), hG k (by omega)])
        refine ⟨upd (upd (upd (upd (upd G (1179 + 16 * x + 8) (nI 0)) (1179 + 16 * x + 6) (nI w)) (1179 + 16 * x + 7) (nI (c + 1))) (1179 + 16 * x + 8) v) (1179 + 16 * x + 9) (nI 0), fun σ => ?_, fun k hk => ?_, fun q1 => by omega, fun _ => ⟨?_, upd_e rfl, ?_, fun q1 => ?_⟩⟩
        · dsimp only
          rw [rC_placesNow hx, sC_placesNow hx, rC_placesNow hx, upd_e rfl, hG8, pk_sub (by omega), if_neg (by decide), rC_broken hx, upd_n (by omega), hg1, hg2, if_neg n10]
          simp (disch := omega) only [rC_whole, sC_whole, rC_frameNow, sC_frameNow, upd_n, upd_e, hG6, hG7, nI_add, or_0]
          rw [hv1]
          simp (disch := omega) only [bdI, sC_placesNow, sC_broken, z01, if_true]
        · rw [upd_n (by omega), upd_n (by omega), upd_n (by omega), upd_n (by omega), upd_n (by omega), hG k (by omega)]
        · rw [upd_n (by omega), upd_n (by omega), upd_e rfl]
        · rw [upd_n (by omega), upd_n (by omega), upd_n (by omega), upd_e rfl, hg2, if_pos rfl]
        · rw [upd_n (by omega), upd_e rfl, hv2 q1]
  have bad : (¬ kc ∨ F (15 + 6 * x + y) < F (51 + 6 * x + y)) → ∃ C', (∀ σ, e_X0_goPlace a x (bI kc) (wC a σ F) = some (some none, wC a σ C')) ∧ (∀ k, k < 1179 + 16 * x + 6 ∨ 1179 + 16 * x + 9 < k → C' k = F k) ∧
      (2 ≤ q → C' (1179 + 16 * x + 8) = nI (q - 1) ∧ C' (1179 + 16 * x + 9) = nI 1 ∧ C' (1179 + 16 * x + 6) = nI w ∧ C' (1179 + 16 * x + 7) = nI c) ∧
      (q = 1 → C' (1179 + 16 * x + 7) = nI (c + 1) ∧ C' (1179 + 16 * x + 9) = nI 0 ∧ C' (1179 + 16 * x + 6) = (if nI 1 = nI 1 then nI w else nI w ||| (nI 1 <<< (nI c &&& 31))) ∧ (c + 1 < h → C' (1179 + 16 * x + 8) = nI (p (c + 1)))) := by
    intro hbad
    obtain ⟨C', c1, c2⟩ := key (upd F (1179 + 16 * x + 9) (nI 1)) (nI 1) (fun k hk => upd_n (by omega)) (upd_e rfl) (Or.inr rfl)
    refine ⟨C', fun σ => ?_, c2⟩
    rw [q_X0_goPlace]
    by_cases k1 : kc
    · have k2 : F (15 + 6 * x + y) < F (51 + 6 * x + y) := hbad.resolve_left (fun q => q k1)
      rw [if_bI k1, rC_with hx, h1, nI_clamp (by omega), if_neg cy, if_neg cy, rC_quality hx hy, rC_rate hx hy, if_pos k2, if_pos o1, sC_broken hx]
      exact c1 σ
    · rw [if_nbI k1, if_pos o1, sC_broken hx]
      exact c1 σ
  by_cases hbad : ¬ kc ∨ F (15 + 6 * x + y) < F (51 + 6 * x + y)
  · obtain ⟨C', c1, c2, c3, c4⟩ := bad hbad
    refine ⟨C', c1, c2, fun q1 => ?_, fun q1 => ?_⟩
    · rw [if_pos hbad]; exact c3 q1
    · rw [if_pos (Or.inl hbad)]
      obtain ⟨d1, d2, d3, d4⟩ := c4 q1
      exact ⟨d1, d2, by rw [d3, if_pos rfl], d4⟩
  · obtain ⟨C', c1, c2, c3, c4⟩ := key F (F (1179 + 16 * x + 9)) (fun k hk => rfl) rfl hg
    have k1 : kc := Classical.not_not.mp (fun q => hbad (Or.inl q))
    have k2 : ¬ F (15 + 6 * x + y) < F (51 + 6 * x + y) := fun q => hbad (Or.inr q)
    refine ⟨C', fun σ => ?_, c2, fun q1 => ?_, fun q1 => ?_⟩
    · rw [q_X0_goPlace, if_bI k1, rC_with hx, h1, nI_clamp (by omega), if_neg cy, if_neg cy, rC_quality hx hy, rC_rate hx hy, if_neg k2]
      exact c1 σ
    · rw [if_neg hbad]; exact c3 q1
    · obtain ⟨d1, d2, d3, d4⟩ := c4 q1
      refine ⟨d1, d2, ?_, d4⟩
      rw [d3]
      by_cases k3 : F (1179 + 16 * x + 9) = nI 1
      · rw [if_pos k3, if_pos (Or.inr k3)]
      · rw [if_neg k3, if_neg (fun q => q.elim hbad k3)]
end DA

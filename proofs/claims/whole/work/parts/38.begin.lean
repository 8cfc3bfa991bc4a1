/-! Both rows: an exchange begins -/
section BE
variable {M s r i n m k d h T y ρ : Nat} {F G N C P Q O W : Nat → Int32} {v u t : Int32} {b : Int32} {p : Nat → Nat}
theorem add_nn {t : Int32} {a c : Nat} : t + nI a + nI c = t + nI (a + c) := by
  rw [← nI_add]
  apply Int32.toBitVec_inj.mp
  simp only [Int32.toBitVec_add]
  rw [BitVec.add_assoc]
theorem first_not (q : Nat → Prop) : ∀ m, ∃ h, h ≤ m ∧ (∀ k, k < h → q k) ∧ (h = m ∨ ¬ q h)
  | 0 => ⟨0, Nat.le_refl _, fun k hk => by omega, Or.inl rfl⟩
  | m + 1 => by
    obtain ⟨h, h1, h2, h3⟩ := first_not q m
    by_cases e : h = m
    · subst e
      by_cases g : q h
      · refine ⟨h + 1, Nat.le_refl _, fun k hk => ?_, Or.inl rfl⟩
        by_cases e2 : k = h
        · rw [e2]; exact g
        · exact h2 k (by omega)
      · exact ⟨h, by omega, h2, Or.inr g⟩
    · exact ⟨h, by omega, h2, Or.inr (h3.resolve_left e)⟩
/-- so many of the first frames are to y -/
def ALK (N : Nat → Int32) (s r n T y h : Nat) : Prop := h ≤ n ∧ h ≤ T ∧ (∀ k, k < h → N (171 + 5 * (8 * (4 * s + r) + k)) = nI y) ∧ (h = n ∨ h = T ∨ N (171 + 5 * (8 * (4 * s + r) + h)) ≠ nI y)
theorem alk_ex (N : Nat → Int32) (s r n T y : Nat) (h0 : N (171 + 5 * (8 * (4 * s + r) + 0)) = nI y) (hn : 1 ≤ n) (hT : 1 ≤ T) : ∃ h, 1 ≤ h ∧ ALK N s r n T y h := by
  obtain ⟨h, h1, h2, h3⟩ := first_not (fun k => N (171 + 5 * (8 * (4 * s + r) + k)) = nI y) (min n T)
  have hm : min n T ≤ n := Nat.min_le_left _ _
  have hm2 : min n T ≤ T := Nat.min_le_right _ _
  refine ⟨h, ?_, by omega, by omega, h2, ?_⟩
  · rcases Nat.eq_zero_or_pos h with e | e
    · rw [e] at h3
      rcases h3 with h3 | h3
      · omega
      · exact absurd h0 h3
    · exact e
  · rcases h3 with h3 | h3
    · rw [h3]
      rcases Nat.le_total n T with g | g
      · left; exact Nat.min_eq_left g
      · right; left; exact Nat.min_eq_right g
    · exact Or.inr (Or.inr h3)
theorem c_alike_from {a : Nat} {σ : mS} (hs : s < 6) (hr : r < 4) (hn : n ≤ 8) (hT : T < 2 ^ 31) (hN : C (147 + (4 * s + r)) = nI n) (h0 : C (171 + 5 * (8 * (4 * s + r) + 0)) = nI y) (hA : ALK C s r n T y h) : ∀ d i, i + d = h → b_X6_alikeAtFirst_4 a s r (nI T) (nI i) (nI i) (wC a σ C) = some (some (some (.inl (nI h))), wC a σ C)
  | 0, i, hi => by
    obtain ⟨h1, h2, h3, h4⟩ := hA
    have : i = h := by omega
    subst this
    rw [q_X6_alikeAtFirst_4, rC_size hs hr, hN]
    by_cases k1 : i < n
    · rw [if_pos (nI_lt k1 (by omega))]
      by_cases k2 : i < T
      · rw [if_pos (nI_lt k2 hT), c_fieldOf (f := 0) hs hr hn hN k1 (by omega)]
        dsimp only [bdI]
        rw [c_fieldOf (i := 0) (f := 0) hs hr hn hN (by omega) (by omega)]
        dsimp only
        rw [Nat.add_zero, Nat.add_zero, h0, if_neg (h4.resolve_left (by omega) |>.resolve_left (by omega))]
      · rw [if_neg (nI_nlt (by omega) (by omega))]
    · rw [if_neg (nI_nlt (by omega) (by omega))]
  | d + 1, i, hi => by
    have ih := c_alike_from (a := a) (σ := σ) hs hr hn hT hN h0 hA d (i + 1) (by omega)
    obtain ⟨h1, h2, h3, h4⟩ := id hA
    rw [q_X6_alikeAtFirst_4, rC_size hs hr, hN, if_pos (nI_lt (by omega) (by omega)), if_pos (nI_lt (by omega) hT), c_fieldOf (f := 0) hs hr hn hN (by omega) (by omega)]
    dsimp only [bdI]
    rw [c_fieldOf (i := 0) (f := 0) hs hr hn hN (by omega) (by omega)]
    dsimp only
    rw [Nat.add_zero, Nat.add_zero, h0, h3 i (by omega), if_pos rfl, nI_1]
    exact ih
theorem sm_le {p : Nat → Nat} : ∀ d c, (∀ k, c ≤ k → k < c + d → p k ≤ 9) → sm p c d ≤ 9 * d
  | 0, _, _ => Nat.le_refl _
  | d + 1, c, h => by
    have a1 := sm_le (p := p) d (c + 1) (fun k u v => h k (by omega) (by omega))
    have a2 := h c (Nat.le_refl _) (by omega)
    show p c + sm p (c + 1) d ≤ _
    omega
/-- the frames' places, as numbers -/
def PLC (F : Nat → Int32) (s r y ρ h : Nat) (p : Nat → Nat) : Prop := F (51 + 6 * s + y) = nI ρ ∧ 1 ≤ ρ ∧ ρ ≤ 3 ∧ ∀ k, k < h → (∃ u, F (171 + 5 * (8 * (4 * s + r) + k) + 1) = nI u ∧ 1 ≤ u ∧ u ≤ 9) ∧ 1 ≤ p k ∧ p k ≤ 9 ∧ (F (171 + 5 * (8 * (4 * s + r) + k) + 1) + F (51 + 6 * s + y) - nI 1) / F (51 + 6 * s + y) = nI (p k)
theorem plc_ex (hρ : F (51 + 6 * s + y) = nI ρ) (h1 : 1 ≤ ρ) (h2 : ρ ≤ 3) (hu : ∀ k, k < h → ∃ u, F (171 + 5 * (8 * (4 * s + r) + k) + 1) = nI u ∧ 1 ≤ u ∧ u ≤ 9) : ∃ p, PLC F s r y ρ h p := by
  refine ⟨fun k => ((F (171 + 5 * (8 * (4 * s + r) + k) + 1)).toNatClampNeg + ρ - 1) / ρ, hρ, h1, h2, fun k hk => ?_⟩
  obtain ⟨u, hu1, hu2, hu3⟩ := hu k hk
  have e : (F (171 + 5 * (8 * (4 * s + r) + k) + 1)).toNatClampNeg = u := by rw [hu1, nI_clamp (by omega)]
  have d1 : 1 ≤ (u + ρ - 1) / ρ := (Nat.le_div_iff_mul_le (by omega)).mpr (by omega)
  have d2 : (u + ρ - 1) / ρ ≤ 9 := by
    have : (u + ρ - 1) / ρ < 10 := (Nat.div_lt_iff_lt_mul (by omega)).mpr (by
      have : 10 * 1 ≤ 10 * ρ := Nat.mul_le_mul_left _ h1
      have : ρ = 1 ∨ ρ = 2 ∨ ρ = 3 := by omega
      rcases this with rfl | rfl | rfl <;> omega)
    omega
  dsimp only
  rw [e, hu1, hρ, nI_add, pk_sub (by omega), pk_div (by omega) (by omega) (by omega)]
  exact ⟨⟨u, rfl, hu2, hu3⟩, d1, d2, rfl⟩
theorem c_pl {a : Nat} {σ : mS} (hs : s < 6) (hy : y < 6) (hr : r < 4) (hn : n ≤ 8) (hhn : h ≤ n) (hP : PLC F s r y ρ h p) (hw : F (1179 + 16 * s + 1) = nI y) (hk : F (1179 + 16 * s + 2) = nI r) (hN : F (147 + (4 * s + r)) = nI n) (hi : i < h) : e_X0_placesOf a s (nI i) (wC a σ F) = some (some (some (.inl (nI (p i)))), wC a σ F) := by
  obtain ⟨p1, p2, p3, p4⟩ := hP
  obtain ⟨⟨u, u1, u2, u3⟩, -, -, p7⟩ := p4 i hi
  rw [c_placesOf (n := n) (ρ := ρ) (u := u) hs hy hr hn hw hk hN p1 p2 p3 (by omega) u1 u2 u3, p7]
theorem c_begin_70 {a : Nat} {σ : mS} (hs : s < 6) (hy : y < 6) (hr : r < 4) (hn : n ≤ 8) (hhn : h ≤ n) : ∀ (d i : Nat) (F : Nat → Int32), i + d = h → PLC F s r y ρ h p → F (1179 + 16 * s + 1) = nI y → F (1179 + 16 * s + 2) = nI r → F (147 + (4 * s + r)) = nI n → F (1179 + 16 * s + 3) = nI h → F (1179 + 16 * s + 11) = nI (sm p 0 i) →
    b_X0_beginExchange_70 a (nI s) a s a s (nI i) (wC a σ F) = b_X0_beginExchange_70 a (nI s) a s a s (nI h) (wC a σ (upd F (1179 + 16 * s + 11) (nI (sm p 0 h))))
  | 0, i, F, hi, _, _, _, _, _, h11 => by
    have : i = h := by omega
    subst this
    rw [upd_idv h11]
  | d + 1, i, F, hi, hP, h1, h2, h3, h4, h11 => by
    have hP1 : PLC (upd F (1179 + 16 * s + 11) (nI (sm p 0 (i + 1)))) s r y ρ h p := by
      obtain ⟨p1, p2, p3, p4⟩ := hP
      refine ⟨by rw [upd_n (by omega)]; exact p1, p2, p3, fun k hk => ?_⟩
      rw [upd_n (by omega), upd_n (by omega)]
      exact p4 k hk
    have ih := c_begin_70 (a := a) (σ := σ) hs hy hr hn hhn d (i + 1) (upd F (1179 + 16 * s + 11) (nI (sm p 0 (i + 1)))) (by omega) hP1 (by rw [upd_n (by omega)]; exact h1) (by rw [upd_n (by omega)]; exact h2) (by rw [upd_n (by omega)]; exact h3) (by rw [upd_n (by omega)]; exact h4) (upd_e rfl)
    rw [upd_u] at ih
    rw [q_X0_beginExchange_70, rC_frames hs, h4, if_pos (nI_lt (by omega) (by omega)), c_pl hs hy hr hn hhn hP h1 h2 h3 (by omega)]
    dsimp only [bdI]
    rw [rC_places hs, sC_places hs, h11, nI_add, nI_1, ← ih, show sm p 0 i + p i = sm p 0 (i + 1) from by rw [sm_r, Nat.zero_add]]
/-- what an exchange that begins is, in the class's row -/
theorem c_begin {a : Nat} {A : Nat} (hs : s < 6) (hy : y < 6) (hr : r < 4) (hn : n ≤ 8) (hn1 : 1 ≤ n) (hhn : h ≤ n) (h1 : 1 ≤ h) (h4 : h ≤ 4) (hP : PLC C s r y ρ h p) (hN : C (147 + (4 * s + r)) = nI n) (h0 : C (171 + 5 * (8 * (4 * s + r) + 0)) = nI y) (hT : C 3 = nI T) (hT4 : T ≤ 4) (hA : ALK C s r n T y h) (hAs : C 2 = nI A) (hA10 : A ≤ 10) :
    ∃ C', (∀ σ, e_X0_beginExchange a (nI s) (nI r) (wC a σ C) = some (some none, wC a σ C')) ∧ (∀ k, (k < 1179 + 16 * s ∨ 1179 + 16 * s + 16 ≤ k) → k ≠ 1275 + 9 * s + 3 → k ≠ 1341 → C' k = C k) ∧
      C' (1275 + 9 * s + 3) = C (1275 + 9 * s + 3) + nI 1 ∧ C' 1341 = C 1341 ||| (nI 1 <<< (nI s &&& 31)) ∧ C' (1179 + 16 * s) = nI 1 ∧ C' (1179 + 16 * s + 1) = nI y ∧ C' (1179 + 16 * s + 2) = nI r ∧ C' (1179 + 16 * s + 3) = nI h ∧ C' (1179 + 16 * s + 11) = nI (sm p 0 h) ∧ C' (1179 + 16 * s + 4) = nI (if sm p 0 h < A then 2 else 0) ∧ (sm p 0 h < A → C' (1179 + 16 * s + 5) = nI (sm p 0 h)) ∧
      C' (1179 + 16 * s + 10) = C 1 + nI (sm p 0 h + (if sm p 0 h < A then 1 else 3)) ∧ C' (1179 + 16 * s + 6) = nI 0 ∧ C' (1179 + 16 * s + 15) = nI 0 ∧ C' (1179 + 16 * s + 7) = nI 0 ∧ C' (1179 + 16 * s + 8) = nI (p 0) ∧ C' (1179 + 16 * s + 9) = nI 0 := by
  have hsm : sm p 0 h < 2 ^ 31 := by
    have := sm_le (p := p) h 0 (fun k u v => (hP.2.2.2 k (by omega)).2.2.1)
    omega
  -- the row as the places are counted
  have hF : ∀ (F : Nat → Int32), F = upd (upd (upd (upd (upd C (1179 + 16 * s) (nI 1)) (1179 + 16 * s + 1) (nI y)) (1179 + 16 * s + 2) (nI r)) (1179 + 16 * s + 3) (nI h)) (1179 + 16 * s + 11) (nI (sm p 0 h)) → ∀ k, (k < 1179 + 16 * s ∨ 1179 + 16 * s + 16 ≤ k) → F k = C k := fun F hF k hk => by rw [hF, upd_n (by omega), upd_n (by omega), upd_n (by omega), upd_n (by omega), upd_n (by omega)]
  have hPx : ∀ (G : Nat → Int32), (∀ k, (k < 1179 + 16 * s ∨ 1179 + 16 * s + 16 ≤ k) → G k = C k) → PLC G s r y ρ h p := fun G hG => by
    obtain ⟨p1, p2, p3, p4⟩ := hP
    refine ⟨by rw [hG _ (by omega)]; exact p1, p2, p3, fun k hk => ?_⟩
    rw [hG _ (by omega), hG _ (by omega)]
    exact p4 k hk
  have e1 : ∀ σ, e_X0_beginExchange a (nI s) (nI r) (wC a σ C) = b_X0_beginExchange_70 a (nI s) a s a s (nI h) (wC a σ (upd (upd (upd (upd (upd C (1179 + 16 * s) (nI 1)) (1179 + 16 * s + 1) (nI y)) (1179 + 16 * s + 2) (nI r)) (1179 + 16 * s + 3) (nI h)) (1179 + 16 * s + 11) (nI (sm p 0 h)))) := by
    intro σ
    rw [q_X0_beginExchange, nI_clamp (n := s) (by omega), if_neg (ckn (by omega) (by omega)), nI_clamp (n := r) (by omega), if_neg (ckn (by omega) (by omega)), if_pos o1, sC_on hs]
    dsimp only
    rw [c_fieldOf (n := n) (i := 0) (f := 0) hs hr hn (by rw [upd_n (by omega)]; exact hN) (by omega) (by omega), Nat.add_zero, upd_n (by omega), h0]
    dsimp only [bdI]
    rw [sC_with hs, sC_ofRank hs, nI_clamp (n := 1) (by omega), if_neg (ckn (by omega) (by omega)), rC_set (by omega), show 2 + 1 = 3 from rfl, upd_n (by omega), upd_n (by omega), upd_n (by omega), hT, q_X6_alikeAtFirst]
    rw [c_alike_from (n := n) (T := T) (y := y) (h := h) hs hr hn (by omega) (by rw [upd_n (by omega), upd_n (by omega), upd_n (by omega)]; exact hN) (by rw [upd_n (by omega), upd_n (by omega), upd_n (by omega)]; exact h0) (by
      obtain ⟨g1, g2, g3, g4⟩ := hA
      refine ⟨g1, g2, fun k hk => ?_, ?_⟩
      · rw [upd_n (by omega), upd_n (by omega), upd_n (by omega)]; exact g3 k hk
      · rw [upd_n (by omega), upd_n (by omega), upd_n (by omega)]; exact g4) h 0 (by omega)]
    dsimp only
    rw [sC_frames hs, sC_places hs]
    have e70 := c_begin_70 (a := a) (σ := σ) (ρ := ρ) (p := p) (y := y) (r := r) (h := h) (n := n) hs hy hr hn hhn h 0 (upd (upd (upd (upd (upd C (1179 + 16 * s) (nI 1)) (1179 + 16 * s + 1) (nI y)) (1179 + 16 * s + 2) (nI r)) (1179 + 16 * s + 3) (nI h)) (1179 + 16 * s + 11) (nI 0)) (by omega) (hPx _ (fun k hk => by rw [upd_n (by omega), upd_n (by omega), upd_n (by omega), upd_n (by omega), upd_n (by omega)])) (by rw [upd_n (by omega), upd_n (by omega), upd_n (by omega), upd_e rfl]) (by rw [upd_n (by omega), upd_n (by omega), upd_e rfl]) (by rw [upd_n (by omega), upd_n (by omega), upd_n (by omega), upd_n (by omega), upd_n (by omega)]; exact hN) (by rw [upd_n (by omega), upd_e rfl]) (upd_e rfl)
    rw [upd_u] at e70
    exact e70
  generalize hFd : upd (upd (upd (upd (upd C (1179 + 16 * s) (nI 1)) (1179 + 16 * s + 1) (nI y)) (1179 + 16 * s + 2) (nI r)) (1179 + 16 * s + 3) (nI h)) (1179 + 16 * s + 11) (nI (sm p 0 h)) = F at e1
  have f0 : F (1179 + 16 * s) = nI 1 := by rw [← hFd, upd_n (by omega), upd_n (by omega), upd_n (by omega), upd_n (by omega), upd_e rfl]
  have f1 : F (1179 + 16 * s + 1) = nI y := by rw [← hFd, upd_n (by omega), upd_n (by omega), upd_n (by omega), upd_e rfl]
  have f2 : F (1179 + 16 * s + 2) = nI r := by rw [← hFd, upd_n (by omega), upd_n (by omega), upd_e rfl]
  have f3 : F (1179 + 16 * s + 3) = nI h := by rw [← hFd, upd_n (by omega), upd_e rfl]
  have f11 : F (1179 + 16 * s + 11) = nI (sm p 0 h) := by rw [← hFd, upd_e rfl]
  have fo := hF F hFd.symm
  by_cases ka : sm p 0 h < A
  · refine ⟨upd (upd (upd (upd (upd (upd (upd (upd (upd (upd F (1179 + 16 * s + 4) (nI 2)) (1179 + 16 * s + 5) (nI (sm p 0 h))) (1179 + 16 * s + 10) (C 1 + nI (sm p 0 h) + nI 1)) (1179 + 16 * s + 6) (nI 0)) (1179 + 16 * s + 15) (nI 0)) (1179 + 16 * s + 7) (nI 0)) (1179 + 16 * s + 8) (nI (p 0))) (1179 + 16 * s + 9) (nI 0)) (1275 + 9 * s + 3) (C (1275 + 9 * s + 3) + nI 1)) 1341 (C 1341 ||| (nI 1 <<< (nI s &&& 31))), fun σ => ?_, fun k hk k1 k2 => ?_, ?_⟩
    · rw [e1, q_X0_beginExchange_70, rC_frames hs, f3, if_neg (nI_nlt (by omega) (by omega)), nI_clamp (n := 0) (by omega), if_neg (ckn (by omega) (by omega)), rC_places hs, f11, rC_set (by omega), fo _ (by omega), show 2 + 0 = 2 from rfl, hAs, if_pos (nI_lt ka (by omega)), if_pos n00, if_pos n00, sC_step hs]
      rw [rC_places hs, upd_n (by omega), f11, q_X0_beginExchange_154, if_pos n00, sC_left hs]
      dsimp only
      rw [rC_time, rC_places hs, upd_n (by omega), upd_n (by omega), upd_n (by omega), upd_n (by omega), fo 1 (by omega), f11, sC_end hs, sC_whole hs, sC_failure hs, sC_frameNow hs]
      rw [c_pl (n := n) (ρ := ρ) (y := y) (h := h) (p := p) hs hy hr hn hhn (hPx _ (fun k hk => by rw [upd_n (by omega), upd_n (by omega), upd_n (by omega), upd_n (by omega), upd_n (by omega), upd_n (by omega), fo k hk])) (by rw [upd_n (by omega), upd_n (by omega), upd_n (by omega), upd_n (by omega), upd_n (by omega), upd_n (by omega)]; exact f1) (by rw [upd_n (by omega), upd_n (by omega), upd_n (by omega), upd_n (by omega), upd_n (by omega), upd_n (by omega)]; exact f2) (by rw [upd_n (by omega), upd_n (by omega), upd_n (by omega), upd_n (by omega), upd_n (by omega), upd_n (by omega), fo _ (by omega)]; exact hN) (by omega)]
      dsimp only [bdI]
      rw [if_pos z1, sC_placesNow hs, sC_broken hs, nI_clamp (n := 3) (by omega), if_neg (ckn (by omega) (by omega)), if_neg (ckn (by omega) (by omega)), rC_tally hs (by omega), sC_tally hs (by omega), rC_beginning, sC_beginning]
      simp (disch := omega) only [upd_n, fo]
    · simp (disch := omega) only [upd_n, fo]
    · simp (disch := omega) only [upd_n, upd_e, f0, f1, f2, f3, f11, fo, if_pos ka, add_nn]
      exact ⟨trivial, trivial, trivial, trivial, trivial, trivial, trivial, trivial, fun _ => trivial, trivial, trivial, trivial, trivial, trivial, trivial⟩
  · refine ⟨upd (upd (upd (upd (upd (upd (upd (upd (upd (upd F (1179 + 16 * s + 4) (nI 0)) (1179 + 16 * s + 5) (nI 1)) (1179 + 16 * s + 10) (C 1 + nI (sm p 0 h) + nI 3)) (1179 + 16 * s + 6) (nI 0)) (1179 + 16 * s + 15) (nI 0)) (1179 + 16 * s + 7) (nI 0)) (1179 + 16 * s + 8) (nI (p 0))) (1179 + 16 * s + 9) (nI 0)) (1275 + 9 * s + 3) (C (1275 + 9 * s + 3) + nI 1)) 1341 (C 1341 ||| (nI 1 <<< (nI s &&& 31))), fun σ => ?_, fun k hk k1 k2 => ?_, ?_⟩
    · rw [e1, q_X0_beginExchange_70, rC_frames hs, f3, if_neg (nI_nlt (by omega) (by omega)), nI_clamp (n := 0) (by omega), if_neg (ckn (by omega) (by omega)), rC_places hs, f11, rC_set (by omega), fo _ (by omega), show 2 + 0 = 2 from rfl, hAs, if_neg (nI_nlt (by omega) (by omega)), if_neg n10, if_neg n10, sC_step hs]
      rw [q_X0_beginExchange_154, if_neg n10, sC_left hs]
      dsimp only
      rw [rC_time, rC_places hs, upd_n (by omega), upd_n (by omega), upd_n (by omega), upd_n (by omega), fo 1 (by omega), f11, sC_end hs, sC_whole hs, sC_failure hs, sC_frameNow hs]
      rw [c_pl (n := n) (ρ := ρ) (y := y) (h := h) (p := p) hs hy hr hn hhn (hPx _ (fun k hk => by rw [upd_n (by omega), upd_n (by omega), upd_n (by omega), upd_n (by omega), upd_n (by omega), upd_n (by omega), fo k hk])) (by rw [upd_n (by omega), upd_n (by omega), upd_n (by omega), upd_n (by omega), upd_n (by omega), upd_n (by omega)]; exact f1) (by rw [upd_n (by omega), upd_n (by omega), upd_n (by omega), upd_n (by omega), upd_n (by omega), upd_n (by omega)]; exact f2) (by rw [upd_n (by omega), upd_n (by omega), upd_n (by omega), upd_n (by omega), upd_n (by omega), upd_n (by omega), fo _ (by omega)]; exact hN) (by omega)]
      dsimp only [bdI]
      rw [if_pos z1, sC_placesNow hs, sC_broken hs, nI_clamp (n := 3) (by omega), if_neg (ckn (by omega) (by omega)), if_neg (ckn (by omega) (by omega)), rC_tally hs (by omega), sC_tally hs (by omega), rC_beginning, sC_beginning]
      simp (disch := omega) only [upd_n, fo]
    · simp (disch := omega) only [upd_n, fo]
    · simp (disch := omega) only [upd_n, upd_e, f0, f1, f2, f3, f11, fo, if_neg ka, add_nn]
      exact ⟨trivial, trivial, trivial, trivial, trivial, trivial, trivial, trivial, fun g => absurd g ka, trivial, trivial, trivial, trivial, trivial, trivial⟩
end BE

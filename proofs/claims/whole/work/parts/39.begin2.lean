/-! Both rows: an exchange begins, the reference and together -/
section B2
variable {M s r i n m k d h T y ρ : Nat} {F G N C P Q O W C' N' : Nat → Int32} {v u t : Int32} {b : Int32} {p : Nat → Nat}
theorem t00 : (nI 0 = 0) = True := eq_true n00
def nZ (N : Nat → Int32) (lo hi : Nat) : Nat → Int32 := fun k => if lo ≤ k ∧ k < hi then nI 0 else N k
theorem nZ_0 {lo : Nat} : nZ N lo lo = N := by
  funext k
  unfold nZ
  rw [if_neg (by omega)]
theorem nZ_s {lo hi : Nat} (h : lo ≤ hi) : upd (nZ N lo hi) hi (nI 0) = nZ N lo (hi + 1) := by
  funext k
  unfold upd nZ
  by_cases e : k = hi
  · rw [if_pos e, if_pos (by omega)]
  · rw [if_neg e]
    by_cases e2 : lo ≤ k ∧ k < hi
    · rw [if_pos e2, if_pos (by omega)]
    · rw [if_neg e2, if_neg (by omega)]
theorem nZ_n {lo hi : Nat} (h : k < lo ∨ hi ≤ k) : nZ N lo hi k = N k := if_neg (by omega)
theorem m_b8 {σ : mS} (hs : s < 6) : ∀ d j, j + d = 16 → b_X10_begins_8 (nI s) (nI r) (nI (1179 + 16 * s)) (nI j) (wM σ (nZ N (1179 + 16 * s) (1179 + 16 * s + j)) O W b) = b_X10_begins_8 (nI s) (nI r) (nI (1179 + 16 * s)) (nI 16) (wM σ (nZ N (1179 + 16 * s) (1179 + 16 * s + 16)) O W b)
  | 0, j, hj => by rw [show j = 16 from by omega]
  | d + 1, j, hj => by
    rw [q_X10_begins_8, if_pos (nI_lt (by omega) (by omega)), nI_add (1179 + 16 * s) j, nI_clamp (n := 1179 + 16 * s + j) (by omega), if_neg (ckn (by omega) (by omega)), wM_stN, nZ_s (by omega), nI_1]
    exact m_b8 hs d (j + 1) (by omega)
theorem m_b50 {A : Nat} (hs : s < 6) (hy : y < 6) (hr : r < 4) (hn : n ≤ 8) (h4 : h ≤ 4) (hT4 : T ≤ 4) (hA10 : A ≤ 10) : ∀ (d i : Nat) (F : Nat → Int32), i + d = h → PLC F s r y ρ h p → F (147 + (4 * s + r)) = nI n → F 3 = nI T → F 2 = nI A → ALK F s r n T y h →
    ∃ N', (∀ σ O W b, b_X10_begins_50 (nI s) (nI r) (nI (1179 + 16 * s)) (nI y) (nI i) (nI (sm p 0 i)) (wM σ F O W b) = b_X10_begins_180 (nI s) (nI r) (nI (1179 + 16 * s)) (nI y) (nI h) (nI (sm p 0 h)) (if sm p 0 h < A then nI 0 else nI 1) (wM σ N' O W b)) ∧ (∀ k, (k < 1179 + 16 * s + 11 ∨ 1179 + 16 * s + 15 ≤ k) → N' k = F k) ∧ ∀ k, k < h → N' (1179 + 16 * s + 11 + k) = if k < i then F (1179 + 16 * s + 11 + k) else nI (p k)
  | 0, i, F, hi, hP, hN, hT, hAs, hA => by
    have : i = h := by omega
    subst this
    obtain ⟨g1, g2, g3, g4⟩ := hA
    have hsm : sm p 0 i < 2 ^ 31 := by
      have := sm_le (p := p) i 0 (fun k u v => (hP.2.2.2 k (by omega)).2.2.1)
      omega
    refine ⟨F, fun σ O W b => ?_, fun k _ => rfl, fun k hk => by rw [if_pos hk]⟩
    have fin : ∀ {X : Option mR}, X = b_X10_begins_180 (nI s) (nI r) (nI (1179 + 16 * s)) (nI y) (nI i) (nI (sm p 0 i)) (if sm p 0 i < A then nI 0 else nI 1) (wM σ F O W b) → (if nI 2 < 0 ∨ 1432 ≤ (nI 2).toNatClampNeg then none else (
      if nI (sm p 0 i) < (wM σ F O W b).1 (30, 0, 0, 0) ((nI 2).toNatClampNeg) then (
        b_X10_begins_180 (nI s) (nI r) (nI (1179 + 16 * s)) (nI y) (nI i) (nI (sm p 0 i)) (nI 0) (wM σ F O W b))
      else (
        b_X10_begins_180 (nI s) (nI r) (nI (1179 + 16 * s)) (nI y) (nI i) (nI (sm p 0 i)) (nI 1) (wM σ F O W b)))) = X := by
      intro X hX
      rw [hX, nI_clamp (n := 2) (by omega), if_neg (ckn (by omega) (by omega)), wM_N, hAs]
      by_cases ka : sm p 0 i < A
      · rw [if_pos (nI_lt ka (by omega)), if_pos ka]
      · rw [if_neg (nI_nlt (by omega) hsm), if_neg ka]
    rw [q_X10_begins_50, r_at]
    dsimp only [bdI]
    rw [nI_add 147 (4 * s + r), nI_clamp (n := 147 + (4 * s + r)) (by omega), if_neg (ckn (by omega) (by omega)), wM_N, hN]
    by_cases k1 : i < n
    · rw [if_pos (nI_lt k1 (by omega)), nI_clamp (n := 3) (by omega), if_neg (ckn (by omega) (by omega)), wM_N, hT]
      by_cases k2 : i < T
      · rw [if_pos (nI_lt k2 (by omega)), r_frameAt]
        dsimp only
        rw [nI_clamp (n := 171 + 5 * (8 * (4 * s + r) + i)) (by omega), if_neg (ckn (by omega) (by omega)), wM_N, if_neg (g4.resolve_left (by omega) |>.resolve_left (by omega))]
        exact fin rfl
      · rw [if_neg (nI_nlt (by omega) (by omega))]
        exact fin rfl
    · rw [if_neg (nI_nlt (by omega) (by omega))]
      exact fin rfl
  | d + 1, i, F, hi, hP, hN, hT, hAs, hA => by
    obtain ⟨p1, p2, p3, p4⟩ := id hP
    obtain ⟨⟨u, u1, u2, u3⟩, q1, q2, q3⟩ := p4 i (by omega)
    obtain ⟨g1, g2, g3, g4⟩ := id hA
    have hP1 : PLC (upd F (1179 + 16 * s + 11 + i) (nI (p i))) s r y ρ h p := ⟨by rw [upd_n (by omega)]; exact p1, p2, p3, fun k hk => by rw [upd_n (by omega), upd_n (by omega)]; exact p4 k hk⟩
    obtain ⟨N', n1, n2, n3⟩ := m_b50 (A := A) hs hy hr hn h4 hT4 hA10 d (i + 1) (upd F (1179 + 16 * s + 11 + i) (nI (p i))) (by omega) hP1 (by rw [upd_n (by omega)]; exact hN) (by rw [upd_n (by omega)]; exact hT) (by rw [upd_n (by omega)]; exact hAs) ⟨g1, g2, fun k hk => by rw [upd_n (by omega)]; exact g3 k hk, by rw [upd_n (by omega)]; exact g4⟩
    refine ⟨N', fun σ O W b => ?_, fun k hk => by rw [n2 k hk, upd_n (by omega)], fun k hk => ?_⟩
    · rw [← n1, q_X10_begins_50, r_at]
      dsimp only [bdI]
      rw [nI_add 147 (4 * s + r), nI_clamp (n := 147 + (4 * s + r)) (by omega), if_neg (ckn (by omega) (by omega)), wM_N, hN, if_pos (nI_lt (by omega) (by omega)), nI_clamp (n := 3) (by omega), if_neg (ckn (by omega) (by omega)), wM_N, hT, if_pos (nI_lt (by omega) (by omega)), r_frameAt]
      dsimp only
      rw [nI_clamp (n := 171 + 5 * (8 * (4 * s + r) + i)) (by omega), if_neg (ckn (by omega) (by omega)), wM_N, if_pos (g3 i (by omega)), r_frameAt]
      dsimp only
      rw [nI_add (171 + 5 * (8 * (4 * s + r) + i)) 1, nI_clamp (n := 171 + 5 * (8 * (4 * s + r) + i) + 1) (by omega), if_neg (ckn (by omega) (by omega)), pk_mul, nI_add 51 (6 * s), nI_add (51 + 6 * s) y, nI_clamp (n := 51 + 6 * s + y) (by omega), if_neg (ckn (by omega) (by omega)), wM_N, wM_N, q_X10_roundedUp, p1, if_neg (nI_ne0 (by omega) (by omega))]
      dsimp only
      rw [nI_add (1179 + 16 * s) 11, nI_add (1179 + 16 * s + 11) i, nI_clamp (n := 1179 + 16 * s + 11 + i) (by omega), if_neg (ckn (by omega) (by omega)), wM_stN, if_neg (ckn (by omega) (by omega)), wM_N, upd_e rfl, ← p1, q3, nI_add (sm p 0 i) (p i), nI_1, show sm p 0 i + p i = sm p 0 (i + 1) from by rw [sm_r, Nat.zero_add]]
    · rw [n3 k hk]
      by_cases e : k < i
      · rw [if_pos (by omega), if_pos e, upd_n (by omega)]
      · rw [if_neg e]
        by_cases e2 : k = i
        · rw [if_pos (by omega), e2, upd_e rfl]
        · rw [if_neg (by omega)]
theorem m_begins {A : Nat} (hs : s < 6) (hy : y < 6) (hr : r < 4) (hn : n ≤ 8) (hn1 : 1 ≤ n) (hhn : h ≤ n) (h1 : 1 ≤ h) (h4 : h ≤ 4) (hP : PLC N s r y ρ h p) (hN : N (147 + (4 * s + r)) = nI n) (h0 : N (171 + 5 * (8 * (4 * s + r) + 0)) = nI y) (hT : N 3 = nI T) (hT4 : T ≤ 4) (hA : ALK N s r n T y h) (hAs : N 2 = nI A) (hA10 : A ≤ 10) :
    ∃ N', (∀ σ O W b, e_X10_begins (nI s) (nI r) (wM σ N O W b) = some (some none, wM σ N' O W b)) ∧ (∀ k, (k < 1179 + 16 * s ∨ 1179 + 16 * s + 16 ≤ k) → k ≠ 1275 + 9 * s + 3 → k ≠ 1341 → N' k = N k) ∧
      N' (1275 + 9 * s + 3) = N (1275 + 9 * s + 3) + nI 1 ∧ N' 1341 = N 1341 ||| (nI 1 <<< (nI s &&& 31)) ∧ N' (1179 + 16 * s) = nI 1 ∧ N' (1179 + 16 * s + 1) = nI y ∧ N' (1179 + 16 * s + 2) = nI r ∧ N' (1179 + 16 * s + 3) = nI h ∧ N' (1179 + 16 * s + 4) = nI (if sm p 0 h < A then 2 else 0) ∧ N' (1179 + 16 * s + 5) = nI (sm p 0 h) ∧
      N' (1179 + 16 * s + 10) = N 1 + nI ((if sm p 0 h < A then 0 else 2) + sm p 0 h + 1) ∧ N' (1179 + 16 * s + 6) = nI 0 ∧ N' (1179 + 16 * s + 15) = nI 0 ∧ N' (1179 + 16 * s + 7) = nI 0 ∧ N' (1179 + 16 * s + 8) = nI (p 0) ∧ N' (1179 + 16 * s + 9) = nI 1 ∧ ∀ k, k < h → N' (1179 + 16 * s + 11 + k) = nI (p k) := by
  have hz : ∀ k, (k < 1179 + 16 * s ∨ 1179 + 16 * s + 16 ≤ k) → nZ N (1179 + 16 * s) (1179 + 16 * s + 16) k = N k := fun k hk => nZ_n hk
  have hz0 : ∀ k, k < 16 → nZ N (1179 + 16 * s) (1179 + 16 * s + 16) (1179 + 16 * s + k) = nI 0 := fun k hk => if_pos (by omega)
  have hPz : PLC (nZ N (1179 + 16 * s) (1179 + 16 * s + 16)) s r y ρ h p := by
    obtain ⟨p1, p2, p3, p4⟩ := hP
    exact ⟨by rw [hz _ (by omega)]; exact p1, p2, p3, fun k hk => by rw [hz _ (by omega), hz _ (by omega)]; exact p4 k hk⟩
  obtain ⟨F, n1, n2, n3⟩ := m_b50 (A := A) hs hy hr hn h4 hT4 hA10 h 0 (nZ N (1179 + 16 * s) (1179 + 16 * s + 16)) (by omega) hPz (by rw [hz _ (by omega)]; exact hN) (by rw [hz _ (by omega)]; exact hT) (by rw [hz _ (by omega)]; exact hAs) (by
    obtain ⟨g1, g2, g3, g4⟩ := hA
    exact ⟨g1, g2, fun k hk => by rw [hz _ (by omega)]; exact g3 k hk, by rw [hz _ (by omega)]; exact g4⟩)
  have fo : ∀ k, (k < 1179 + 16 * s ∨ 1179 + 16 * s + 16 ≤ k) → F k = N k := fun k hk => by rw [n2 k (by omega), hz k hk]
  have fz : ∀ k, (k < 11 ∨ k = 15) → F (1179 + 16 * s + k) = nI 0 := fun k hk => by rw [n2 _ (by omega), hz0 k (by omega)]
  have fp : ∀ k, k < h → F (1179 + 16 * s + 11 + k) = nI (p k) := fun k hk => by rw [n3 k hk, if_neg (by omega)]
  have f11 : F (1179 + 16 * s + 11) = nI (p 0) := fp 0 (by omega)
  have e1 : ∀ σ O W b, e_X10_begins (nI s) (nI r) (wM σ N O W b) = b_X10_begins_180 (nI s) (nI r) (nI (1179 + 16 * s)) (nI y) (nI h) (nI (sm p 0 h)) (if sm p 0 h < A then nI 0 else nI 1) (wM σ F O W b) := by
    intro σ O W b
    have h8 := m_b8 (σ := σ) (O := O) (W := W) (b := b) (N := N) (r := r) hs 16 0 (by omega)
    rw [Nat.add_zero, nZ_0] at h8
    rw [q_X10_begins, m_exAt]
    dsimp only [bdI]
    rw [h8, q_X10_begins_8, if_neg (by decide), r_frameAt]
    dsimp only [bdI]
    rw [nI_clamp (n := 171 + 5 * (8 * (4 * s + r) + 0)) (by omega), if_neg (ckn (by omega) (by omega)), wM_N, hz _ (by omega), h0, ← n1]
    rfl
  by_cases ka : sm p 0 h < A
  · refine ⟨upd (upd (upd (upd (upd (upd (upd (upd (upd (upd (upd F (1179 + 16 * s) (nI 1)) (1179 + 16 * s + 1) (nI y)) (1179 + 16 * s + 2) (nI r)) (1179 + 16 * s + 3) (nI h)) (1179 + 16 * s + 4) (nI 2)) (1179 + 16 * s + 5) (nI (sm p 0 h))) (1179 + 16 * s + 8) (nI (p 0))) (1179 + 16 * s + 9) (nI 1)) (1179 + 16 * s + 10) (N 1 + nI 0 + nI (sm p 0 h) + nI 1)) (1275 + 9 * s + 3) (N (1275 + 9 * s + 3) + nI 1)) 1341 (N 1341 ||| (nI 1 <<< (nI s &&& 31))), fun σ O W b => ?_, ?_⟩
    · rw [e1, if_pos ka, q_X10_begins_180]
      simp (disch := omega) only [nI_add, nI_clamp, ck2, if_false, wM_stN, wM_N, upd_n, upd_e, m_had, bdV, t00, if_true, Nat.add_zero, f11, fo]
    · simp (disch := omega) only [upd_n, upd_e, fz, fp, if_pos ka, f11, fo]
      refine ⟨fun k hk k1 k2 => ?_, trivial, trivial, trivial, trivial, trivial, trivial, trivial, trivial, ?_, trivial, trivial, trivial, trivial, trivial, fun k hk => ?_⟩
      · simp (disch := omega) only [upd_n, fo]
      · rw [add_nn, add_nn, Nat.add_assoc]
      · simp (disch := omega) only [upd_n, fp]
  · refine ⟨upd (upd (upd (upd (upd (upd (upd (upd (upd (upd (upd F (1179 + 16 * s) (nI 1)) (1179 + 16 * s + 1) (nI y)) (1179 + 16 * s + 2) (nI r)) (1179 + 16 * s + 3) (nI h)) (1179 + 16 * s + 4) (nI 0)) (1179 + 16 * s + 5) (nI (sm p 0 h))) (1179 + 16 * s + 8) (nI (p 0))) (1179 + 16 * s + 9) (nI 1)) (1179 + 16 * s + 10) (N 1 + nI 2 + nI (sm p 0 h) + nI 1)) (1275 + 9 * s + 3) (N (1275 + 9 * s + 3) + nI 1)) 1341 (N 1341 ||| (nI 1 <<< (nI s &&& 31))), fun σ O W b => ?_, ?_⟩
    · rw [e1, if_neg ka, q_X10_begins_180]
      simp (disch := omega) only [nI_add, nI_clamp, ck2, if_false, wM_stN, wM_N, upd_n, upd_e, m_had, bdV, n10, if_true, Nat.add_zero, f11, fo]
    · simp (disch := omega) only [upd_n, upd_e, fz, fp, if_neg ka, f11, fo]
      refine ⟨fun k hk k1 k2 => ?_, trivial, trivial, trivial, trivial, trivial, trivial, trivial, trivial, ?_, trivial, trivial, trivial, trivial, trivial, fun k hk => ?_⟩
      · simp (disch := omega) only [upd_n, fo]
      · rw [add_nn, add_nn, Nat.add_assoc]
      · simp (disch := omega) only [upd_n, fp]
end B2

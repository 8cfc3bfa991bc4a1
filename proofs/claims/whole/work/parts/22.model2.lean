/-! The reference's slot: frames that fail, exchanges that begin -/
section M2
variable {σ : mS} {N O W : Nat → Int32} {b : Int32}
def nLost (N : Nat → Int32) (s r i n : Nat) : Nat → Int32 := upd (upd (nLeaves N s r i n) (1275 + 9 * s + 2) (nLeaves N s r i n (1275 + 9 * s + 2) + nI 1)) 1337 (nLeaves N s r i n 1337 + nI 1)
def nTry (N : Nat → Int32) (k : Nat) : Nat → Int32 := upd N (k + 2) (N (k + 2) + nI 1)
def mn (x y : Int32) : Int32 := if y < x then y else x
def nFails (N : Nat → Int32) (s r n : Nat) : Nat → Int32 :=
  if N (171 + 5 * (8 * (4 * s + r) + 0) + 2) + nI 1 < N 4 then nDraws (upd (nTry N (171 + 5 * (8 * (4 * s + r) + 0))) (1131 + (4 * s + r)) (mn (nI 2 * N (1131 + (4 * s + r)) + nI 1) (N 13))) s r
  else nDraws (upd (nLost (nTry N (171 + 5 * (8 * (4 * s + r) + 0))) s r 0 n) (1131 + (4 * s + r)) (N (9 + r))) s r
theorem nLeaves_n {s r i n j : Nat} (h1 : j ≠ 147 + (4 * s + r)) (h2 : j < 171 + 5 * (8 * (4 * s + r) + i) ∨ 171 + 5 * (8 * (4 * s + r) + n) ≤ j) : nLeaves N s r i n j = N j := by
  unfold nLeaves nShift
  rw [if_neg (by omega), upd_n h1]
theorem m_fails {s r n : Nat} (hs : s < 6) (hr : r < 4) (hn : n < 8) (hN : N (147 + (4 * s + r)) = nI (n + 1)) (h1 : mn (nI 2 * N (1131 + (4 * s + r)) + nI 1) (N 13) + nI 1 ≠ 0) (h2 : N (9 + r) + nI 1 ≠ 0) :
    e_X10_fails (nI s) (nI r) (wM σ N O W b) = some (some none, wM σ (nFails N s r n) O W b) := by
  rw [q_X10_fails]
  rw [show nI 0 = nI 0 from rfl, r_frameAt]
  unfold nFails
  simp (disch := omega) only [bdI, nI_add, nI_clamp, ck2, if_false, wM_N, wM_stN, r_at, upd_s, upd_n]
  by_cases hc : N (171 + 5 * (8 * (4 * s + r) + 0) + 2) + nI 1 < N 4
  · rw [if_pos hc, if_pos hc, m_drawsCount hs hr (by rw [upd_s]; exact h1)]
    rfl
  · rw [if_neg hc, if_neg hc]
    have h0 : e_X10_isLost (nI s) (nI r) (nI 0) (wM σ (nTry N (171 + 5 * (8 * (4 * s + r) + 0))) O W b) = some (some none, wM σ (nLost (nTry N (171 + 5 * (8 * (4 * s + r) + 0))) s r 0 n) O W b) := m_isLost hs hr hn (Nat.zero_le _) (by unfold nTry; rw [upd_n (by omega)]; exact hN)
    have hv : nLost (nTry N (171 + 5 * (8 * (4 * s + r) + 0))) s r 0 n (9 + r) = N (9 + r) := by
      unfold nLost
      rw [upd_n (by omega), upd_n (by omega), nLeaves_n (by omega) (by omega)]
      unfold nTry
      rw [upd_n (by omega)]
    have e0 : upd N (171 + 5 * (8 * (4 * s + r) + 0) + 2) (N (171 + 5 * (8 * (4 * s + r) + 0) + 2) + nI 1) = nTry N (171 + 5 * (8 * (4 * s + r) + 0)) := rfl
    rw [e0, h0]
    generalize nLost (nTry N (171 + 5 * (8 * (4 * s + r) + 0))) s r 0 n = L at hv ⊢
    simp (disch := omega) only [bdV, nI_add, nI_clamp, ck2, if_false, wM_N, wM_stN]
    rw [hv, m_drawsCount hs hr (by rw [upd_s]; exact h2)]
theorem c0 : ¬ (nI 0 < 0 ∨ 1432 ≤ (nI 0).toNatClampNeg) := by decide
theorem c0c : (nI 0).toNatClampNeg = 0 := by decide
/-- one station that may hear of a span -/
noncomputable def nSpan1 (b : Int32) (M x : Nat) (but e : Int32) (sd z : Nat) (N : Nat → Int32) : Nat → Int32 :=
  @ite _ (nI z ≠ but ∧ clr N b M z x ∧ N (129 + z) < e) (Classical.propDecidable _) (upd (upd (upd N (129 + z) e) (1420 + z) (nI sd)) (1426 + z) (N (1179 + 16 * sd + 4))) N
noncomputable def nSpans (b : Int32) (M x : Nat) (but e : Int32) (sd : Nat) : Nat → Nat → (Nat → Int32) → (Nat → Int32)
  | 0, _, N => N
  | d + 1, i, N => nSpans b M x but e sd d (i + 1) (nSpan1 b M x but e sd i N)
theorem nSpan1_0 {M x sd z : Nat} {but e : Int32} : nSpan1 b M x but e sd z N 0 = N 0 := by
  unfold nSpan1
  by_cases h : nI z ≠ but ∧ clr N b M z x ∧ N (129 + z) < e
  · rw [if_pos h, upd_n (by omega), upd_n (by omega), upd_n (by omega)]
  · rw [if_neg h]
theorem m_spans_from {M x sd : Nat} {but e : Int32} (hM : M ≤ 6) (hx : x < 6) (hsd : sd < 6) : ∀ (d i : Nat) (N : Nat → Int32), N 0 = nI M → i + d = M →
    b_X10_spans_3 (nI x) but e (nI sd) (nI i) (wM σ N O W b) = some (some none, wM σ (nSpans b M x but e sd d i N) O W b)
  | 0, i, N, hN, hi => by
    rw [q_X10_spans_3, if_neg c0, c0c, wM_N, hN, if_neg (nI_nlt (by omega) (by omega))]
    rfl
  | d + 1, i, N, hN, hi => by
    have ih := m_spans_from hM hx hsd (but := but) (e := e) d (i + 1) (nSpan1 b M x but e sd i N) (by rw [nSpan1_0]; exact hN) (by omega)
    rw [q_X10_spans_3, if_neg c0, c0c, wM_N, hN, if_pos (nI_lt (by omega) (by omega))]
    rw [show nI i + 1 = nI (i + 1) from nI_1 i]
    unfold nSpans
    by_cases h1 : nI i = but
    · rw [if_pos h1]
      have e1 : nSpan1 b M x but e sd i N = N := by
        unfold nSpan1
        rw [if_neg (fun q => q.1 h1)]
      rw [e1] at ih ⊢
      exact ih
    · rw [if_neg h1, m_isClear hM hN (by omega) hx]
      dsimp only [bdI]
      by_cases h2 : clr N b M i x
      · rw [bI_t h2, if_neg n10]
        simp (disch := omega) only [nI_add, nI_clamp, ck2, if_false, wM_N]
        by_cases h3 : N (129 + i) < e
        · rw [if_pos h3]
          have e1 : nSpan1 b M x but e sd i N = upd (upd (upd N (129 + i) e) (1420 + i) (nI sd)) (1426 + i) (N (1179 + 16 * sd + 4)) := by
            unfold nSpan1
            rw [if_pos ⟨h1, h2, h3⟩]
          simp (disch := omega) only [m_exAt, bdI, nI_add, nI_clamp, ck2, if_false, wM_N, wM_stN, upd_n]
          rw [e1] at ih ⊢
          exact ih
        · rw [if_neg h3]
          have e1 : nSpan1 b M x but e sd i N = N := by
            unfold nSpan1
            rw [if_neg (fun q => h3 q.2.2)]
          rw [e1] at ih ⊢
          exact ih
      · rw [bI_f h2, if_pos n00]
        have e1 : nSpan1 b M x but e sd i N = N := by
          unfold nSpan1
          rw [if_neg (fun q => h2 q.2.1)]
        rw [e1] at ih ⊢
        exact ih
theorem m_spans {M x sd : Nat} {but e : Int32} (hM : M ≤ 6) (hN : N 0 = nI M) (hx : x < 6) (hsd : sd < 6) : e_X10_spans (nI x) but e (nI sd) (wM σ N O W b) = some (some none, wM σ (nSpans b M x but e sd M 0 N) O W b) := by
  rw [q_X10_spans]
  exact m_spans_from hM hx hsd M 0 N hN (by omega)
theorem m_owes {y : Nat} {x w : Int32} (hy : y < 6) : e_X10_owes (nI y) x w (wM σ N O W b) = some (some none, wM σ N (upd O y x) (upd W y w) b) := by
  rw [q_X10_owes]
  simp (disch := omega) only [nI_clamp, ck2, if_false, wM_stO, wM_stW]
theorem m_sendsIt {M y x : Nat} {w : Int32} (hM : M ≤ 6) (hN : N 0 = nI M) (hy : y < 6) (hx : x < 6) : e_X10_sendsIt (nI y) (nI x) w (wM σ N O W b) = some (some (some (.inl (bI (N (135 + y) = nI x ∧ N (141 + y) = w ∧ clr N b M x y)))), wM σ N O W b) := by
  rw [q_X10_sendsIt]
  simp (disch := omega) only [nI_add, nI_clamp, ck2, if_false, wM_N]
  by_cases h1 : N (135 + y) = nI x
  · rw [if_pos h1]
    by_cases h2 : N (141 + y) = w
    · rw [if_pos h2, m_isClear hM hN hx hy]
      dsimp only [bdI]
      by_cases h3 : clr N b M x y
      · rw [bI_t h3, if_neg n10, if_pos o1, bI_t ⟨h1, h2, h3⟩]
      · rw [bI_f h3, if_pos n00, if_pos z1, bI_f (fun q => h3 q.2.2)]
    · rw [if_neg h2, if_pos z1, bI_f (fun q => h2 q.2.1)]
  · rw [if_neg h1, if_pos z1, bI_f (fun q => h1 q.1)]
end M2

/-! The reference's slot: frames that fail, exchanges that begin -/
section M2
variable {σ : mS} {N O W : Nat → Int32} {b : Int32}
def nLost (N : Nat → Int32) (s r i n : Nat) : Nat → Int32 := upd (upd (nLeaves N s r i n) (1275 + 9 * s + 2) (nLeaves N s r i n (1275 + 9 * s + 2) + nI 1)) 1337 (nLeaves N s r i n 1337 + nI 1)
def nTry (N : Nat → Int32) (k : Nat) : Nat → Int32 := upd N (k + 2) (N (k + 2) + nI 1)
def mn (x y : Int32) : Int32 := if y < x then y else x
def nFails (N : Nat → Int32) (s r n : Nat) : Nat → Int32 :=
  if N (171 + 5 * (8 * (4 * s + r) + 0) + 2) + nI 1 < N 4 then nDraws (upd (nTry N (171 + 5 * (8 * (4 * s + r) + 0))) (1131 + (4 * s + r)) (mn (nI 2 * N (1131 + (4 * s + r)) + nI 1) (N 13))) s r
  else nDraws (upd (nLost (nTry N (171 + 5 * (8 * (4 * s + r) + 0))) s r 0 n) (1131 + (4 * s + r)) (N (9 + r))) s r
theorem nLeaves_n {s r i n j : Nat} (h1 : j ≠ 147 + (4 * s + r)) (h2 : j < 171 + 5 * (8 * (4 * s + r) + i) ∨ 171 + 5 * (8 * (4 * s + r) + n) ≤ j) : nLeaves N s r i n j = N j := by
  unfold nLeaves nShift
  rw [if_neg (by omega), upd_n h1]
theorem m_fails {s r n : Nat} (hs : s < 6) (hr : r < 4) (hn : n < 8) (hN : N (147 + (4 * s + r)) = nI (n + 1)) (h1 : mn (nI 2 * N (1131 + (4 * s + r)) + nI 1) (N 13) + nI 1 ≠ 0) (h2 : N (9 + r) + nI 1 ≠ 0) :
    e_X10_fails (nI s) (nI r) (wM σ N O W b) = some (some none, wM σ (nFails N s r n) O W b) := by
  rw [q_X10_fails]
  rw [show nI 0 = nI 0 from rfl, r_frameAt]
  unfold nFails
  simp (disch := omega) only [bdI, nI_add, nI_clamp, ck2, if_false, wM_N, wM_stN, r_at, upd_s, upd_n]
  by_cases hc : N (171 + 5 * (8 * (4 * s + r) + 0) + 2) + nI 1 < N 4
  · rw [if_pos hc, if_pos hc, m_drawsCount hs hr (by rw [upd_s]; exact h1)]
    rfl
  · rw [if_neg hc, if_neg hc]
    have h0 : e_X10_isLost (nI s) (nI r) (nI 0) (wM σ (nTry N (171 + 5 * (8 * (4 * s + r) + 0))) O W b) = some (some none, wM σ (nLost (nTry N (171 + 5 * (8 * (4 * s + r) + 0))) s r 0 n) O W b) := m_isLost hs hr hn (Nat.zero_le _) (by unfold nTry; rw [upd_n (by omega)]; exact hN)
    have hv : nLost (nTry N (171 + 5 * (8 * (4 * s + r) + 0))) s r 0 n (9 + r) = N (9 + r) := by
      unfold nLost
      rw [upd_n (by omega), upd_n (by omega), nLeaves_n (by omega) (by omega)]
      unfold nTry
      rw [upd_n (by omega)]
    have e0 : upd N (171 + 5 * (8 * (4 * s + r) + 0) + 2) (N (171 + 5 * (8 * (4 * s + r) + 0) + 2) + nI 1) = nTry N (171 + 5 * (8 * (4 * s + r) + 0)) := rfl
    rw [e0, h0]
    generalize nLost (nTry N (171 + 5 * (8 * (4 * s + r) + 0))) s r 0 n = L at hv ⊢
    simp (disch := omega) only [bdV, nI_add, nI_clamp, ck2, if_false, wM_N, wM_stN]
    rw [hv, m_drawsCount hs hr (by rw [upd_s]; exact h2)]
end M2

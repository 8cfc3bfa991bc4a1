/-! The reference's slot: frames that fail, exchanges that begin -/
section M2
variable {σ : mS} {N O W : Nat → Int32} {b : Int32}
def nLost (N : Nat → Int32) (s r i n : Nat) : Nat → Int32 := upd (upd (nLeaves N s r i n) (1275 + 9 * s + 2) (nLeaves N s r i n (1275 + 9 * s + 2) + nI 1)) 1337 (nLeaves N s r i n 1337 + nI 1)
def nTry (N : Nat → Int32) (k : Nat) : Nat → Int32 := upd N (k + 2) (N (k + 2) + nI 1)
def mn (x y : Int32) : Int32 := if y < x then y else x
def nFails (N : Nat → Int32) (s r n : Nat) : Nat → Int32 :=
  if N (171 + 5 * (8 * (4 * s + r) + 0) + 2) + nI 1 < N 4 then nDraws (upd (nTry N (171 + 5 * (8 * (4 * s + r) + 0))) (1131 + (4 * s + r)) (mn (nI 2 * N (1131 + (4 * s + r)) + nI 1) (N 13))) s r
  else nDraws (upd (nLost (nTry N (171 + 5 * (8 * (4 * s + r) + 0))) s r 0 n) (1131 + (4 * s + r)) (N (9 + r))) s r
theorem nLeaves_n {s r i n j : Nat} (h1 : j ≠ 147 + (4 * s + r)) (h2 : j < 171 + 5 * (8 * (4 * s + r) + i) ∨ 171 + 5 * (8 * (4 * s + r) + n) ≤ j) : nLeaves N s r i n j = N j := by
  unfold nLeaves nShift
  rw [if_neg (by omega), upd_n h1]
theorem m_fails {s r n : Nat} (hs : s < 6) (hr : r < 4) (hn : n < 8) (hN : N (147 + (4 * s + r)) = nI (n + 1)) (h1 : mn (nI 2 * N (1131 + (4 * s + r)) + nI 1) (N 13) + nI 1 ≠ 0) (h2 : N (9 + r) + nI 1 ≠ 0) :
    e_X10_fails (nI s) (nI r) (wM σ N O W b) = some (some none, wM σ (nFails N s r n) O W b) := by
  rw [q_X10_fails]
  rw [show nI 0 = nI 0 from rfl, r_frameAt]
  unfold nFails
  simp (disch := omega) only [bdI, nI_add, nI_clamp, ck2, if_false, wM_N, wM_stN, r_at, upd_s, upd_n]
  by_cases hc : N (171 + 5 * (8 * (4 * s + r) + 0) + 2) + nI 1 < N 4
  · rw [if_pos hc, if_pos hc, m_drawsCount hs hr (by rw [upd_s]; exact h1)]
    rfl
  · rw [if_neg hc, if_neg hc]
    have h0 : e_X10_isLost (nI s) (nI r) (nI 0) (wM σ (nTry N (171 + 5 * (8 * (4 * s + r) + 0))) O W b) = some (some none, wM σ (nLost (nTry N (171 + 5 * (8 * (4 * s + r) + 0))) s r 0 n) O W b) := m_isLost hs hr hn (Nat.zero_le _) (by unfold nTry; rw [upd_n (by omega)]; exact hN)
    have hv : nLost (nTry N (171 + 5 * (8 * (4 * s + r) + 0))) s r 0 n (9 + r) = N (9 + r) := by
      unfold nLost
      rw [upd_n (by omega), upd_n (by omega), nLeaves_n (by omega) (by omega)]
      unfold nTry
      rw [upd_n (by omega)]
    have e0 : upd N (171 + 5 * (8 * (4 * s + r) + 0) + 2) (N (171 + 5 * (8 * (4 * s + r) + 0) + 2) + nI 1) = nTry N (171 + 5 * (8 * (4 * s + r) + 0)) := rfl
    rw [e0, h0]
    generalize nLost (nTry N (171 + 5 * (8 * (4 * s + r) + 0))) s r 0 n = L at hv ⊢
    simp (disch := omega) only [bdV, nI_add, nI_clamp, ck2, if_false, wM_N, wM_stN]
    rw [hv, m_drawsCount hs hr (by rw [upd_s]; exact h2)]
theorem c0 : ¬ (nI 0 < 0 ∨ 1432 ≤ (nI 0).toNatClampNeg) := by decide
theorem c0c : (nI 0).toNatClampNeg = 0 := by decide
/-- one station that may hear of a span -/
noncomputable def nSpan1 (b : Int32) (M x : Nat) (but e : Int32) (sd z : Nat) (N : Nat → Int32) : Nat → Int32 :=
  @ite _ (nI z ≠ but ∧ clr N b M z x ∧ N (129 + z) < e) (Classical.propDecidable _) (upd (upd (upd N (129 + z) e) (1420 + z) (nI sd)) (1426 + z) (N (1179 + 16 * sd + 4))) N
noncomputable def nSpans (b : Int32) (M x : Nat) (but e : Int32) (sd : Nat) : Nat → Nat → (Nat → Int32) → (Nat → Int32)
  | 0, _, N => N
  | d + 1, i, N => nSpans b M x but e sd d (i + 1) (nSpan1 b M x but e sd i N)
theorem nSpan1_0 {M x sd z : Nat} {but e : Int32} : nSpan1 b M x but e sd z N 0 = N 0 := by
  unfold nSpan1
  by_cases h : nI z ≠ but ∧ clr N b M z x ∧ N (129 + z) < e
  · rw [if_pos h, upd_n (by omega), upd_n (by omega), upd_n (by omega)]
  · rw [if_neg h]
theorem m_spans_from {M x sd : Nat} {but e : Int32} (hM : M ≤ 6) (hx : x < 6) (hsd : sd < 6) : ∀ (d i : Nat) (N : Nat → Int32), N 0 = nI M → i + d = M →
    b_X10_spans_3 (nI x) but e (nI sd) (nI i) (wM σ N O W b) = some (some none, wM σ (nSpans b M x but e sd d i N) O W b)
  | 0, i, N, hN, hi => by
    rw [q_X10_spans_3, if_neg c0, c0c, wM_N, hN, if_neg (nI_nlt (by omega) (by omega))]
    rfl
  | d + 1, i, N, hN, hi => by
    have ih := m_spans_from hM hx hsd (but := but) (e := e) d (i + 1) (nSpan1 b M x but e sd i N) (by rw [nSpan1_0]; exact hN) (by omega)
    rw [q_X10_spans_3, if_neg c0, c0c, wM_N, hN, if_pos (nI_lt (by omega) (by omega))]
    rw [show nI i + 1 = nI (i + 1) from nI_1 i]
    unfold nSpans
    by_cases h1 : nI i = but
    · rw [if_pos h1]
      have e1 : nSpan1 b M x but e sd i N = N := by
        unfold nSpan1
        rw [if_neg (fun q => q.1 h1)]
      rw [e1] at ih ⊢
      exact ih
    · rw [if_neg h1, m_isClear hM hN (by omega) hx]
      dsimp only [bdI]
      by_cases h2 : clr N b M i x
      · rw [bI_t h2, if_neg n10]
        simp (disch := omega) only [nI_add, nI_clamp, ck2, if_false, wM_N]
        by_cases h3 : N (129 + i) < e
        · rw [if_pos h3]
          have e1 : nSpan1 b M x but e sd i N = upd (upd (upd N (129 + i) e) (1420 + i) (nI sd)) (1426 + i) (N (1179 + 16 * sd + 4)) := by
            unfold nSpan1
            rw [if_pos ⟨h1, h2, h3⟩]
          simp (disch := omega) only [m_exAt, bdI, nI_add, nI_clamp, ck2, if_false, wM_N, wM_stN, upd_n]
          rw [e1] at ih ⊢
          exact ih
        · rw [if_neg h3]
          have e1 : nSpan1 b M x but e sd i N = N := by
            unfold nSpan1
            rw [if_neg (fun q => h3 q.2.2)]
          rw [e1] at ih ⊢
          exact ih
      · rw [bI_f h2, if_pos n00]
        have e1 : nSpan1 b M x but e sd i N = N := by
          unfold nSpan1
          rw [if_neg (fun q => h2 q.2.1)]
        rw [e1] at ih ⊢
        exact ih
theorem m_spans {M x sd : Nat} {but e : Int32} (hM : M ≤ 6) (hN : N 0 = nI M) (hx : x < 6) (hsd : sd < 6) : e_X10_spans (nI x) but e (nI sd) (wM σ N O W b) = some (some none, wM σ (nSpans b M x but e sd M 0 N) O W b) := by
  rw [q_X10_spans]
  exact m_spans_from hM hx hsd M 0 N hN (by omega)
theorem m_owes {y : Nat} {x w : Int32} (hy : y < 6) : e_X10_owes (nI y) x w (wM σ N O W b) = some (some none, wM σ N (upd O y x) (upd W y w) b) := by
  rw [q_X10_owes]
  simp (disch := omega) only [nI_clamp, ck2, if_false, wM_stO, wM_stW]
theorem m_sendsIt {M y x : Nat} {w : Int32} (hM : M ≤ 6) (hN : N 0 = nI M) (hy : y < 6) (hx : x < 6) : e_X10_sendsIt (nI y) (nI x) w (wM σ N O W b) = some (some (some (.inl (bI (N (135 + y) = nI x ∧ N (141 + y) = w ∧ clr N b M x y)))), wM σ N O W b) := by
  rw [q_X10_sendsIt]
  simp (disch := omega) only [nI_add, nI_clamp, ck2, if_false, wM_N]
  by_cases h1 : N (135 + y) = nI x
  · rw [if_pos h1]
    by_cases h2 : N (141 + y) = w
    · rw [if_pos h2, m_isClear hM hN hx hy]
      dsimp only [bdI]
      by_cases h3 : clr N b M x y
      · rw [bI_t h3, if_neg n10, if_pos o1, bI_t ⟨h1, h2, h3⟩]
      · rw [bI_f h3, if_pos n00, if_pos z1, bI_f (fun q => h3 q.2.2)]
    · rw [if_neg h2, if_pos z1, bI_f (fun q => h2 q.2.1)]
  · rw [if_neg h1, if_pos z1, bI_f (fun q => h1 q.1)]
/-- where nothing of a queue, of who draws, or of what is lost stands -/
def nOut (s r j : Nat) : Prop := j ≠ 14 ∧ (j < 147 ∨ (1179 ≤ j ∧ j ≠ 1275 + 9 * s + 2 ∧ j ≠ 1337))
theorem nDraws_n {s r j : Nat} (hs : s < 6) (hr : r < 4) (h : nOut s r j) : nDraws N s r j = N j := by
  obtain ⟨h1, h2⟩ := h
  unfold nDraws nDraw
  rw [upd_n (by omega), upd_n h1]
theorem nFails_n {s r n j : Nat} (hs : s < 6) (hr : r < 4) (hn : n < 8) (h : nOut s r j) : nFails N s r n j = N j := by
  have h' := h
  obtain ⟨h1, h2⟩ := h'
  unfold nFails
  split
  · rw [nDraws_n hs hr h, upd_n (by omega)]
    unfold nTry
    rw [upd_n (by omega)]
  · rw [nDraws_n hs hr h, upd_n (by omega)]
    unfold nLost
    rw [upd_n (by omega), upd_n (by omega), nLeaves_n (by omega) (by omega)]
    unfold nTry
    rw [upd_n (by omega)]
def mx (x y : Int32) : Int32 := if x < y then y else x
/-- an exchange that fails: up to the frame -/
noncomputable def nFb0 (N : Nat → Int32) (s y : Nat) (ans : Prop) : Nat → Int32 :=
  upd (upd (upd (upd (upd (upd N (1179 + 16 * s) (nI 0)) (1342 + 3 * s) (if 0 < N (1179 + 16 * s + 15) then N (1179 + 16 * s + 15) else @ite _ ans (Classical.propDecidable _) (nI 7) (nI 4))) (1342 + 3 * s + 1) (N 1)) (1342 + 3 * s + 2) (nI y)) (1275 + 9 * s + 4) (N (1275 + 9 * s + 4) + nI 1)) 1338 (N 1338 + nI 1)
noncomputable def nFailsBy (N : Nat → Int32) (s r y n : Nat) (ans : Prop) : Nat → Int32 :=
  @ite _ ans (Classical.propDecidable _) (upd (upd (nFails (nFb0 N s y ans) s r n) (51 + (6 * s + y)) (mx (nI 1) (N (51 + (6 * s + y)) - nI 1))) (87 + (6 * s + y)) (nI 0)) (nFails (nFb0 N s y ans) s r n)
theorem m_failsBy {s r y n : Nat} {ans : Prop} (hs : s < 6) (hr : r < 4) (hy : y < 6) (hn : n < 8) (hN : N (147 + (4 * s + r)) = nI (n + 1)) (h1 : mn (nI 2 * N (1131 + (4 * s + r)) + nI 1) (N 13) + nI 1 ≠ 0) (h2 : N (9 + r) + nI 1 ≠ 0) (hyN : N (1179 + 16 * s + 1) = nI y) (hrN : N (1179 + 16 * s + 2) = nI r) :
    e_X10_failsBy (nI s) (bI ans) (wM σ N O W b) = some (some none, wM σ (nFailsBy N s r y n ans) O W b) := by
  have key : ∀ t : Int32, t = (if 0 < N (1179 + 16 * s + 15) then N (1179 + 16 * s + 15) else @ite _ ans (Classical.propDecidable _) (nI 7) (nI 4)) → b_X10_failsBy_56 (nI s) (bI ans) (nI (1179 + 16 * s)) (nI (1342 + 3 * s)) t (wM σ (upd N (1179 + 16 * s) (nI 0)) O W b) = some (some none, wM σ (nFailsBy N s r y n ans) O W b) := by
    intro t ht
    rw [q_X10_failsBy_56]
    simp (disch := omega) only [pk_mul, nI_add, nI_clamp, ck2, if_false, wM_N, wM_stN, m_had, bdV, upd_n, hyN, hrN]
    have e0 : upd (upd (upd (upd (upd (upd N (1179 + 16 * s) (nI 0)) (1342 + 3 * s) t) (1342 + 3 * s + 1) (N 1)) (1342 + 3 * s + 2) (nI y)) (1275 + 9 * s + 4) (N (1275 + 9 * s + 4) + nI 1)) 1338 (N 1338 + nI 1) = nFb0 N s y ans := by
      unfold nFb0
      rw [← ht]
    rw [e0]
    have hq : ∀ j, j < 1179 → j ≠ 1275 → nFb0 N s y ans j = N j := by
      intro j hj _
      unfold nFb0
      rw [upd_n (by omega), upd_n (by omega), upd_n (by omega), upd_n (by omega), upd_n (by omega), upd_n (by omega)]
    have hx1 : nFb0 N s y ans (1179 + 16 * s + 1) = nI y := by
      unfold nFb0
      rw [upd_n (by omega), upd_n (by omega), upd_n (by omega), upd_n (by omega), upd_n (by omega), upd_n (by omega), hyN]
    rw [m_fails hs hr hn (by rw [hq _ (by omega) (by omega)]; exact hN) (by rw [hq _ (by omega) (by omega), hq 13 (by omega) (by omega)]; exact h1) (by rw [hq _ (by omega) (by omega)]; exact h2)]
    dsimp only [bdV]
    by_cases ha : ans
    · rw [bI_t ha, if_neg n10]
      have hx2 : nFails (nFb0 N s y ans) s r n (1179 + 16 * s + 1) = nI y := by rw [nFails_n hs hr hn ⟨by omega, by omega⟩, hx1]
      have hx3 : nFails (nFb0 N s y ans) s r n (51 + (6 * s + y)) = N (51 + (6 * s + y)) := by rw [nFails_n hs hr hn ⟨by omega, by omega⟩, hq _ (by omega) (by omega)]
      unfold nFailsBy
      rw [if_pos ha]
      generalize nFails (nFb0 N s y ans) s r n = F at hx2 hx3 ⊢
      simp (disch := omega) only [pk_mul, nI_add, nI_clamp, ck2, if_false, wM_N, wM_stN, hx2, hx3, upd_n]
      rfl
    · rw [bI_f ha, if_pos n00]
      unfold nFailsBy
      rw [if_neg ha]
  rw [q_X10_failsBy, m_exAt]
  simp (disch := omega) only [pk_mul, bdI, nI_add, nI_clamp, ck2, if_false, wM_N, wM_stN, Nat.add_zero, upd_n]
  by_cases hc : 0 < N (1179 + 16 * s + 15)
  · rw [if_pos hc]
    exact key _ (by rw [if_pos hc])
  · rw [if_neg hc]
    by_cases ha : ans
    · rw [if_neg (by rw [bI_t ha]; exact n10)]
      exact key _ (by rw [if_neg hc, if_pos ha])
    · rw [if_pos (by rw [bI_f ha]; exact n00)]
      exact key _ (by rw [if_neg hc, if_neg ha])
end M2

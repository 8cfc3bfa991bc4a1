/-! Both rows where an exchange or a rank fails -/
theorem i32_lt {x y : Int32} : x < y ↔ x.toInt < y.toInt := Int32.lt_iff_toInt_lt
theorem i32_eq {x y : Int32} (h : x.toInt = y.toInt) : x = y := Int32.toInt_inj.mp h
theorem mn_c {x y : Int32} : (if x < y then x else y) = mn x y := by
  unfold mn
  by_cases h : x < y
  · rw [if_pos h]
    have := i32_lt.mp h
    rw [if_neg (fun q => by have := i32_lt.mp q; omega)]
  · rw [if_neg h]
    by_cases h2 : y < x
    · rw [if_pos h2]
    · rw [if_neg h2]
      have a1 : ¬ x.toInt < y.toInt := fun q => h (i32_lt.mpr q)
      have a2 : ¬ y.toInt < x.toInt := fun q => h2 (i32_lt.mpr q)
      exact i32_eq (by omega)
theorem mn_nI {x y : Nat} (hx : x < 2 ^ 31) (hy : y < 2 ^ 31) : mn (nI x) (nI y) = nI (if y < x then y else x) := by
  unfold mn
  by_cases h : y < x
  · rw [if_pos h, if_pos (nI_lt h hx)]
  · rw [if_neg h, if_neg (nI_nlt (by omega) hy)]
theorem set_v {M i : Nat} {N : Nat → Int32} (h : IS M N) (hi : i < 12) : ∃ v, N (2 + i) = nI v ∧ 1 ≤ v ∧ v ≤ 63 := by
  obtain ⟨v, h1, h2, h3⟩ := h.2.2.1 i hi
  refine ⟨v, h1, h2, Nat.le_trans h3 ?_⟩
  have : ∀ i, i < 12 → mxs i ≤ 63 := by decide
  exact this i hi
section RF1
variable {M s r n i : Nat} {C N P Q : Nat → Int32} {v : Int32} {b : Int32} {σ : mS}
/-- a number of a frame -/
theorem Rl.fr (h : Rl M C N P Q) (hM : M ≤ 6) {k : Nat} (hk : 171 ≤ k ∧ k < 1131) : Rl M (upd C k v) (upd N k v) P Q := by
  obtain ⟨h1, h2, h3, h4, h5⟩ := h
  refine ⟨h1.u, h2.mono hM (fun s hs => upd_n (by omega)) (fun j a b => upd_n (by omega)), fun z t m j hz ht hm hN hj => ?_, h4.mono hM (fun j a b => upd_n (by omega)) (fun j a b => upd_n (by omega)), h5.mono fun s hs => ⟨upd_n (by omega), upd_n (by omega)⟩⟩
  rw [upd_n (by omega)] at hN
  by_cases e : 171 + 40 * (4 * z + t) + j = k
  · rw [upd_e e, upd_e e]
  · rw [upd_n e, upd_n e]
    exact h3 z t m j hz ht hm hN hj
theorem Rl.frv (h : Rl M C N P Q) {f : Nat} (hs : s < M) (hr : r < 4) (hn : n ≤ 8) (hN : N (147 + (4 * s + r)) = nI n) (hi : i < n) (hf : f < 5) : C (171 + 5 * (8 * (4 * s + r) + i) + f) = N (171 + 5 * (8 * (4 * s + r) + i) + f) := by
  have := h.2.2.1 s r n (i * 5 + f) hs hr hn hN (by omega)
  rw [fr_ix] at this
  exact this
theorem nLeaves_u {T : Nat} (hs : s < 6) (hr : r < 4) (hn : n < 8) (hT : 1131 ≤ T) : nLeaves (upd N T v) s r i n = upd (nLeaves N s r i n) T v := by
  unfold nLeaves nShift
  funext j
  by_cases h : 171 + 5 * (8 * (4 * s + r) + i) ≤ j ∧ j < 171 + 5 * (8 * (4 * s + r) + n)
  · rw [if_pos h, upd_n (show j ≠ T from by omega), if_pos h, upd_n (by omega), upd_n (by omega), upd_n (by omega)]
  · rw [if_neg h]
    by_cases h2 : j = T
    · rw [upd_e h2, upd_n (by omega), upd_e h2]
    · rw [upd_n h2, if_neg h]
      by_cases h3 : j = 147 + (4 * s + r)
      · rw [upd_e h3, upd_e h3]
      · rw [upd_n h3, upd_n h3, upd_n h2]
theorem Rl.lv (h : Rl M C N P Q) (hM : M ≤ 6) (hs : s < M) (hr : r < 4) (hn : n < 8) (hN : N (147 + (4 * s + r)) = nI (n + 1)) : Rl M (nLeaves C s r i n) (nLeaves N s r i n) P Q := by
  obtain ⟨h1, h2, h3, h4, h5⟩ := h
  have hoC : ∀ (F : Nat → Int32) k, k ≠ 147 + (4 * s + r) → (k < 171 + 40 * (4 * s + r) ∨ 171 + 40 * (4 * s + r) + 40 ≤ k) → nLeaves F s r i n k = F k := fun F k a b => by
    unfold nLeaves nShift
    rw [if_neg (by omega), upd_n a]
  have hsz : ∀ F : Nat → Int32, nLeaves F s r i n (147 + (4 * s + r)) = nI n := fun F => by
    unfold nLeaves nShift
    rw [if_neg (by omega), upd_e rfl]
  refine ⟨h1.mono fun k hk => ?_, h2.mono hM (fun z hz => hoC _ _ (by omega) (by omega)) (fun j a b => hoC _ _ (by omega) (by omega)), fun z t m j hz ht hm hN' hj => ?_, h4.mono hM (fun j a b => hoC _ _ (by omega) (by omega)) (fun j a b => hoC _ _ (by omega) (by omega)), h5.mono fun z hz => ⟨hoC _ _ (by omega) (by omega), hoC _ _ (by omega) (by omega)⟩⟩
  · have := pd_where hk
    by_cases e : k = 147 + (4 * s + r)
    · left; rw [e, hsz, hsz]
    · right; exact ⟨hoC _ _ e (by omega), hoC _ _ e (by omega)⟩
  · by_cases e : z = s ∧ t = r
    · obtain ⟨rfl, rfl⟩ := e
      rw [hsz] at hN'
      have hmn : m = n := ((nI_eq (by omega) (by omega)).mp hN').symm
      subst hmn
      unfold nLeaves nShift
      by_cases e2 : 171 + 5 * (8 * (4 * z + t) + i) ≤ 171 + 40 * (4 * z + t) + j ∧ 171 + 40 * (4 * z + t) + j < 171 + 5 * (8 * (4 * z + t) + m)
      · rw [if_pos e2, if_pos e2, upd_n (by omega), upd_n (by omega)]
        exact h3 z t (m + 1) (j + 5) hz ht (by omega) hN (by omega)
      · rw [if_neg e2, if_neg e2, upd_n (by omega), upd_n (by omega)]
        exact h3 z t (m + 1) j hz ht (by omega) hN (by omega)
    · have hne : 4 * z + t ≠ 4 * s + r := fun q => e ⟨by omega, by omega⟩
      rw [hoC _ _ (by omega) (by omega)] at hN'
      rw [hoC _ _ (by omega) (by omega), hoC _ _ (by omega) (by omega)]
      exact h3 z t m j hz ht hm hN' hj
theorem Rl.drw (h : Rl M C N P Q) (hM : M ≤ 6) : Rl M (nDraw C) (nDraw N) P Q := by
  unfold nDraw
  rw [h.pl (pd_lo (k := 14) (by omega))]
  exact h.u hM (Or.inl (by omega))
theorem Rl.drs (h : Rl M C N P Q) (hM : M ≤ 6) (hs : s < M) (hr : r < 4) : Rl M (nDraws C s r) (nDraws N s r) P Q := by
  unfold nDraws
  have h1 := h.drw hM
  rw [h1.pl (pd_lo (k := 14) (by omega)), h.pl (pd_wi hM hs hr)]
  exact h1.u hM (Or.inr (Or.inr (Or.inl (by omega))))
theorem lt1 {w : Nat} (hw : w ≤ 63) : ¬ nI w + nI 1 < nI 1 ∧ ¬ nI w + nI 1 = 0 := by
  rw [nI_add]
  exact ⟨nI_nlt (by omega) (by omega), nI_ne0 (by omega) (by omega)⟩
/-- the first frame of a rank was tried in vain -/
theorem j_fail {a : Nat} (hI : IS M N) (hR : Rl M C N P Q) (hs : s < M) (hr : r < 4) (hn : n < 8) (hN : N (147 + (4 * s + r)) = nI (n + 1)) (hw : ∃ w, w ≤ 63 ∧ N (1131 + (4 * s + r)) = nI w) :
    (∃ C', (∀ σ, e_X0_failFirst a (nI s) (nI r) (wC a σ C) = some (some none, wC a σ C')) ∧ Rl M C' (nFails N s r n) P Q) ∧ (∀ σ O W b, e_X10_fails (nI s) (nI r) (wM σ N O W b) = some (some none, wM σ (nFails N s r n) O W b)) ∧ ∃ w, w ≤ 63 ∧ nFails N s r n (1131 + (4 * s + r)) = nI w := by
  have hM := hI.2.1
  obtain ⟨w, hw1, hw2⟩ := hw
  obtain ⟨G, hG1, hG2, hG3⟩ := set_v hI (i := 11) (by omega)
  obtain ⟨L, hL1, hL2, hL3⟩ := set_v hI (i := 7 + r) (by omega)
  rw [show 2 + 11 = 13 from rfl] at hG1
  rw [show 2 + (7 + r) = 9 + r from by omega] at hL1
  have hmn : mn (nI 2 * N (1131 + (4 * s + r)) + nI 1) (N 13) = nI (if G < 2 * w + 1 then G else 2 * w + 1) := by
    rw [hw2, hG1, pk_mul, nI_add, mn_nI (by omega) (by omega)]
  have hmw : (if G < 2 * w + 1 then G else 2 * w + 1) ≤ 63 := by split <;> omega
  generalize hgm : (if G < 2 * w + 1 then G else 2 * w + 1) = m at hmn hmw
  have hL4 : L ≤ 63 := by omega
  have hCN : C (147 + (4 * s + r)) = nI (n + 1) := by rw [hR.pl (pd_sz hM hs hr), hN]
  have hf2 : C (171 + 5 * (8 * (4 * s + r) + 0) + 2) = N (171 + 5 * (8 * (4 * s + r) + 0) + 2) := hR.frv hs hr (by omega) hN (by omega) (by omega)
  have hT : Rl M (nTry C (171 + 5 * (8 * (4 * s + r) + 0))) (nTry N (171 + 5 * (8 * (4 * s + r) + 0))) P Q := by
    unfold nTry
    rw [hf2]
    exact hR.fr hM (by omega)
  refine ⟨?_, fun σ O W b => m_fails (by omega) hr hn hN (by rw [hmn]; exact (lt1 hmw).2) (by rw [hL1]; exact (lt1 hL4).2), ?_⟩
  · by_cases hc : N (171 + 5 * (8 * (4 * s + r) + 0) + 2) + nI 1 < N 4
    · refine ⟨nDraws (upd (nTry C (171 + 5 * (8 * (4 * s + r) + 0))) (1131 + (4 * s + r)) (nI m)) s r, fun σ => ?_, ?_⟩
      · rw [q_X0_failFirst]
        rw [show (nI 0) = nI 0 from rfl]
        simp (disch := omega) only [nI_clamp, ck2, if_false]
        rw [c_tryAgain (by omega) hr (by omega) hCN (by omega), hf2]
        dsimp only [bdI]
        have e4 : nTry C (171 + 5 * (8 * (4 * s + r) + 0)) 4 = N 4 := hT.pl (pd_lo (by omega)) |>.trans (by unfold nTry; rw [upd_n (by omega)])
        have e13 : nTry C (171 + 5 * (8 * (4 * s + r) + 0)) 13 = N 13 := hT.pl (pd_lo (by omega)) |>.trans (by unfold nTry; rw [upd_n (by omega)])
        have ew : nTry C (171 + 5 * (8 * (4 * s + r) + 0)) (1131 + (4 * s + r)) = N (1131 + (4 * s + r)) := (hT.pl (pd_wi hM hs hr)).trans (by unfold nTry; rw [upd_n (by omega)])
        rw [rC_set (by omega), show 2 + 2 = 4 from rfl, e4, if_pos hc, rC_window (by omega) hr, rC_set (by omega), show 2 + 11 = 13 from rfl, e13, ew, mn_c, hmn, sC_window (by omega) hr]
        rw [rC_window (by omega) hr, upd_e rfl, c_draw (lt1 hmw).1 (lt1 hmw).2]
        dsimp only
        rw [sC_count (by omega) hr]
        unfold nDraws
        rw [upd_e rfl]
      · unfold nFails
        rw [if_pos hc, hmn]
        exact (hT.u hM (Or.inr (Or.inr (Or.inl (by omega))))).drs hM hs hr
    · refine ⟨nDraws (upd (nLeaves (upd (nTry C (171 + 5 * (8 * (4 * s + r) + 0))) (1275 + 9 * s + 2) (N (1275 + 9 * s + 2) + nI 1)) s r 0 n) (1131 + (4 * s + r)) (nI L)) s r, fun σ => ?_, ?_⟩
      · rw [q_X0_failFirst]
        simp (disch := omega) only [nI_clamp, ck2, if_false]
        rw [c_tryAgain (by omega) hr (by omega) hCN (by omega), hf2]
        dsimp only [bdI]
        have e4 : nTry C (171 + 5 * (8 * (4 * s + r) + 0)) 4 = N 4 := hT.pl (pd_lo (by omega)) |>.trans (by unfold nTry; rw [upd_n (by omega)])
        have et : nTry C (171 + 5 * (8 * (4 * s + r) + 0)) (1275 + 9 * s + 2) = N (1275 + 9 * s + 2) := (hT.pl (pd_ty hM hs (by omega))).trans (by unfold nTry; rw [upd_n (by omega)])
        have e9 : nTry C (171 + 5 * (8 * (4 * s + r) + 0)) (9 + r) = N (9 + r) := (hT.pl (pd_lo (by omega))).trans (by unfold nTry; rw [upd_n (by omega)])
        have es : upd (nTry C (171 + 5 * (8 * (4 * s + r) + 0))) (1275 + 9 * s + 2) (N (1275 + 9 * s + 2) + nI 1) (147 + (4 * s + r)) = nI (n + 1) := by
          rw [upd_n (by omega)]; unfold nTry; rw [upd_n (by omega), hCN]
        rw [rC_set (by omega), show 2 + 2 = 4 from rfl, e4, if_neg hc, rC_tally (by omega) (by omega), et, sC_tally (by omega) (by omega), c_removeAt (by omega) hr hn es (by omega)]
        dsimp only [bdV]
        rw [nI_add, nI_clamp (by omega), if_neg (ckn (by omega) (by omega)), rC_set (by omega), show 2 + (7 + r) = 9 + r from by omega]
        rw [show nLeaves (upd (nTry C (171 + 5 * (8 * (4 * s + r) + 0))) (1275 + 9 * s + 2) (N (1275 + 9 * s + 2) + nI 1)) s r 0 n (9 + r) = nI L from by rw [nLeaves_n (by omega) (by omega), upd_n (by omega), e9, hL1]]
        rw [sC_window (by omega) hr, rC_window (by omega) hr, upd_e rfl, c_draw (lt1 hL4).1 (lt1 hL4).2]
        dsimp only
        rw [sC_count (by omega) hr]
        unfold nDraws
        rw [upd_e rfl]
      · unfold nFails nLost
        rw [if_neg hc, hL1]
        rw [show nLeaves (nTry N (171 + 5 * (8 * (4 * s + r) + 0))) s r 0 n (1275 + 9 * s + 2) = N (1275 + 9 * s + 2) from by rw [nLeaves_n (by omega) (by omega)]; unfold nTry; rw [upd_n (by omega)]]
        refine Rl.drs ?_ hM hs hr
        have hA : Rl M (upd (nTry C (171 + 5 * (8 * (4 * s + r) + 0))) (1275 + 9 * s + 2) (N (1275 + 9 * s + 2) + nI 1)) (upd (nTry N (171 + 5 * (8 * (4 * s + r) + 0))) (1275 + 9 * s + 2) (N (1275 + 9 * s + 2) + nI 1)) P Q := hT.u hM (Or.inr (Or.inr (Or.inr (by omega))))
        have hB := hA.lv (i := 0) hM hs hr hn (by rw [upd_n (by omega)]; unfold nTry; rw [upd_n (by omega), hN])
        rw [nLeaves_u (N := nTry N (171 + 5 * (8 * (4 * s + r) + 0))) (by omega) hr hn (by omega)] at hB
        have hD := hB.uN (v := nLeaves (nTry N (171 + 5 * (8 * (4 * s + r) + 0))) s r 0 n 1337 + nI 1) hM (k := 1337) (by omega)
        exact hD.u (k := 1131 + (4 * s + r)) hM (Or.inr (Or.inr (Or.inl (by omega))))
  · unfold nFails
    split
    · exact ⟨m, hmw, by unfold nDraws nDraw; rw [upd_n (by omega), upd_n (by omega), upd_e rfl, hmn]⟩
    · exact ⟨L, hL4, by unfold nDraws nDraw; rw [upd_n (by omega), upd_n (by omega), upd_e rfl, hL1]⟩
end RF1

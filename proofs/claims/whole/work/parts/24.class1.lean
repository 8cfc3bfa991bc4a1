/-! The class's leaves over its air's row -/
theorem and1 (x : Int32) : x &&& nI 1 = nI 0 ∨ x &&& nI 1 = nI 1 := by
  obtain ⟨j, hj, h⟩ := pk_andE x (m := nI 1) 1 (by decide)
  rw [h]
  have : j = 0 ∨ j = 1 := by omega
  rcases this with rfl | rfl
  · exact Or.inl rfl
  · exact Or.inr rfl
theorem sn0 {b : Int32} {k : Nat} : ((b >>> (nI k &&& 31)) &&& nI 1 = 0) = ¬ sn b k := by
  apply propext
  unfold sn
  constructor
  · intro h q
    rw [h] at q
    exact absurd q (by decide)
  · intro h
    rcases and1 (b >>> (nI k &&& 31)) with q | q
    · exact q
    · exact absurd q h
theorem if_sn {α : Type} {b : Int32} {k : Nat} {x y : α} (h : sn b k) : (if (b >>> (nI k &&& 31)) &&& nI 1 = 0 then x else y) = y := if_neg (by rw [sn0]; exact fun q => q h)
theorem if_ns {α : Type} {b : Int32} {k : Nat} {x y : α} (h : ¬ sn b k) : (if (b >>> (nI k &&& 31)) &&& nI 1 = 0 then x else y) = x := if_pos (by rw [sn0]; exact h)
theorem if_bI {α : Type} {p : Prop} {x y : α} (h : p) : (if bI p = 0 then x else y) = y := if_neg (by rw [bI_t h]; exact n10)
theorem if_nbI {α : Type} {p : Prop} {x y : α} (h : ¬ p) : (if bI p = 0 then x else y) = x := if_pos (by rw [bI_f h]; exact n00)
theorem ckF {n N : Nat} (h : n < N) : (False ∨ N ≤ n) = False := eq_false (fun q => q.elim id (fun q => by omega))
theorem upd_e {f : Nat → Int32} {k j : Nat} {x : Int32} (h : j = k) : upd f k x j = x := by rw [h]; exact pk_us
theorem upd_id {f : Nat → Int32} {k : Nat} : upd f k (f k) = f := by
  funext j
  unfold upd
  split
  · rename_i h; rw [h]
  · rfl
theorem upd_c {f : Nat → Int32} {k j : Nat} {x y : Int32} (h : k ≠ j) : upd (upd f k x) j y = upd (upd f j y) k x := by
  funext i
  unfold upd
  by_cases h1 : i = j
  · subst h1
    rw [if_pos rfl, if_neg (fun e => h e.symm), if_pos rfl]
  · rw [if_neg h1]
    by_cases h2 : i = k
    · rw [if_pos h2, if_pos h2]
    · rw [if_neg h2, if_neg h2, if_neg h1]
theorem upd_u {f : Nat → Int32} {k : Nat} {x y : Int32} : upd (upd f k x) k y = upd f k y := by
  funext i
  unfold upd
  split <;> rfl
/-- frames that wait at a station -/
def wt (C : Nat → Int32) (s : Nat) : Int32 := nI 0 + C (147 + (4 * s + 0)) + C (147 + (4 * s + 1)) + C (147 + (4 * s + 2)) + C (147 + (4 * s + 3))
/-- a frame comes behind a queue -/
def nPut (N : Nat → Int32) (s r n : Nat) (to u t m : Int32) : Nat → Int32 := upd (upd (upd (upd (upd (upd N (171 + 5 * (8 * (4 * s + r) + n)) to) (171 + 5 * (8 * (4 * s + r) + n) + 1) u) (171 + 5 * (8 * (4 * s + r) + n) + 2) (nI 0)) (171 + 5 * (8 * (4 * s + r) + n) + 3) t) (171 + 5 * (8 * (4 * s + r) + n) + 4) m) (147 + (4 * s + r)) (nI (n + 1))
/-- what a delivered frame adds -/
def nHad (N : Nat → Int32) (s : Nat) (u t : Int32) : Nat → Int32 := upd (upd (upd (upd N (1275 + 9 * s + 0) (N (1275 + 9 * s + 0) + nI 1)) (1275 + 9 * s + 1) (N (1275 + 9 * s + 1) + u)) (1275 + 9 * s + 7) (N (1275 + 9 * s + 7) + t)) (1275 + 9 * s + 8) (mx (N (1275 + 9 * s + 8)) t)
def nListen (N : Nat → Int32) (s : Nat) (x w u : Int32) : Nat → Int32 := if N (129 + s) < u then upd (upd (upd N (129 + s) u) (1420 + s) x) (1426 + s) w else N
section K1
variable {a s r : Nat} {σ : mS} {C : Nat → Int32}
theorem fr_ix {i f : Nat} : 171 + 40 * (4 * s + r) + (i * 5 + f) = 171 + 5 * (8 * (4 * s + r) + i) + f := by omega
theorem c_draw {p : Int32} (h1 : ¬ p < nI 1) (h0 : ¬ p = 0) : e_X1_draw a p (wC a σ C) = some (some (some (.inl (drawn (nDraw C 14) p))), wC a σ (nDraw C)) := by
  rw [q_X1_draw]
  simp only [rC_seed, sC_seed, if_neg h1, if_neg h0]
  rfl
theorem c_isFree (hs : s < 6) : e_X8_isFree a s (wC a σ C) = some (some (some (.inl (bI (C (1179 + 16 * s) = 0 ∧ C (141 + s) = 0)))), wC a σ C) := by
  rw [q_X8_isFree]
  simp only [rC_on hs, rC_owes hs, z01, o01, if_true]
  unfold bI
  repeat' split
  all_goals simp_all
theorem c_swait (hs : s < 6) : e_X8_waiting a s (wC a σ C) = some (some (some (.inl (wt C s))), wC a σ C) := by
  have st1 : ∀ (q : Nat) (x : Int32), q < 4 → b_X8_waiting_4 a s x (nI q) (wC a σ C) = b_X8_waiting_4 a s (x + C (147 + (4 * s + q))) (nI (q + 1)) (wC a σ C) := by
    intro q x hq
    rw [q_X8_waiting_4]
    simp (disch := omega) only [nI_ltE, nI_clamp, ck2, ckF, if_false, nI_1, rC_size]
    rw [if_pos hq]
  rw [q_X8_waiting, st1 0 _ (by omega), st1 1 _ (by omega), st1 2 _ (by omega), st1 3 _ (by omega), q_X8_waiting_4]
  rw [if_neg (by decide)]
  rfl
theorem c_setOwing {p q : Int32} (hs : s < 6) : e_X8_setOwing a s p q (wC a σ C) = some (some none, wC a σ (upd (upd C (135 + s) p) (141 + s) q)) := by
  rw [q_X8_setOwing]
  simp only [sC_owesTo hs, sC_owes hs]
theorem c_pays_t {p q : Int32} (hs : s < 6) (h1 : C (135 + s) = p) (h2 : C (141 + s) = q) : e_X8_pays a s p q (wC a σ C) = some (some (some (.inl (nI 1))), wC a σ (upd (upd C (135 + s) (-1)) (141 + s) (nI 0))) := by
  rw [q_X8_pays]
  simp only [rC_owesTo hs, rC_owes hs, if_pos h1, if_pos h2, c_setOwing hs, bdV, o01, if_true]
theorem c_pays_f {p q : Int32} (hs : s < 6) (h : ¬ (C (135 + s) = p ∧ C (141 + s) = q)) : e_X8_pays a s p q (wC a σ C) = some (some (some (.inl (nI 0))), wC a σ C) := by
  rw [q_X8_pays]
  simp only [rC_owesTo hs, rC_owes hs, z01, if_true]
  by_cases h1 : C (135 + s) = p
  · rw [if_pos h1, if_neg (fun h2 => h ⟨h1, h2⟩)]
  · rw [if_neg h1]
theorem c_listen {x w u : Int32} (hs : s < 6) : e_X8_listen a s x w u (wC a σ C) = some (some none, wC a σ (nListen C s x w u)) := by
  rw [q_X8_listen]
  unfold nListen
  simp only [rC_span hs, sC_span hs, sC_spanBy hs, sC_spanStep hs]
  split <;> rfl
theorem c_fieldOf {i n f : Nat} (hs : s < 6) (hr : r < 4) (hn : n ≤ 8) (hN : C (147 + (4 * s + r)) = nI n) (hi : i < n) (hf : f < 5) : e_X6_fieldOf a s r (nI i) (nI f) (wC a σ C) = some (some (some (.inl (C (171 + 5 * (8 * (4 * s + r) + i) + f)))), wC a σ C) := by
  rw [q_X6_fieldOf]
  simp (disch := omega) only [rC_size, hN, nI_lt0, nI_ltE, pk_mul, nI_add, nI_clamp, ck2, ckF, if_false, rC_fr, fr_ix]
  rw [if_pos hi]
theorem c_fieldOf_n {i n f : Nat} (hs : s < 6) (hr : r < 4) (hn : n ≤ 8) (hN : C (147 + (4 * s + r)) = nI n) (hi : n ≤ i) (hi2 : i < 2 ^ 31) : e_X6_fieldOf a s r (nI i) (nI f) (wC a σ C) = some (some (some (.inl (-1))), wC a σ C) := by
  rw [q_X6_fieldOf]
  simp (disch := omega) only [rC_size, hN, nI_lt0, nI_ltE, if_false]
  rw [if_neg (by omega)]
theorem c_tryAgain {i n : Nat} (hs : s < 6) (hr : r < 4) (hn : n ≤ 8) (hN : C (147 + (4 * s + r)) = nI n) (hi : i < n) : e_X6_tryAgain a s r (nI i) (wC a σ C) = some (some (some (.inl (C (171 + 5 * (8 * (4 * s + r) + i) + 2) + nI 1))), wC a σ (nTry C (171 + 5 * (8 * (4 * s + r) + i)))) := by
  rw [q_X6_tryAgain]
  simp (disch := omega) only [rC_size, hN, nI_lt0, nI_ltE, pk_mul, nI_add, nI_clamp, ck2, ckF, if_false, rC_fr, sC_fr, fr_ix, upd_e]
  rw [if_pos hi]
  rfl
theorem c_rem_from {lo n : Nat} (hs : s < 6) (hr : r < 4) (hn : n ≤ 8) (h0 : 1 ≤ n) (hN : C (147 + (4 * s + r)) = nI n) (hlo : 171 + 40 * (4 * s + r) ≤ lo) : ∀ (d x : Nat), x + d = n * 5 → lo + 5 ≤ 171 + 40 * (4 * s + r) + x →
    b_X6_removeAt_19 a s r (nI x) (wC a σ (nShift C lo (171 + 40 * (4 * s + r) + x - 5))) = some (some none, wC a σ (upd (nShift C lo (171 + 40 * (4 * s + r) + n * 5 - 5)) (147 + (4 * s + r)) (nI (n - 1))))
  | 0, x, hx, hl => by
    have hx5 : x = n * 5 := by omega
    subst hx5
    have e1 : nShift C lo (171 + 40 * (4 * s + r) + n * 5 - 5) (147 + (4 * s + r)) = nI n := by
      unfold nShift
      rw [if_neg (by omega), hN]
    rw [q_X6_removeAt_19]
    simp (disch := omega) only [rC_size, sC_size, e1, pk_mul, nI_ltE, Nat.lt_irrefl, if_false, pk_sub]
  | d + 1, x, hx, hl => by
    have e1 : nShift C lo (171 + 40 * (4 * s + r) + x - 5) (147 + (4 * s + r)) = nI n := by
      unfold nShift
      rw [if_neg (by omega), hN]
    rw [q_X6_removeAt_19]
    simp (disch := omega) only [rC_size, e1, pk_mul, nI_ltE, pk_sub, nI_clamp, ck2, ckF, if_false, nI_1, rC_fr, sC_fr]
    rw [if_pos (by omega)]
    have e2 : 171 + 40 * (4 * s + r) + (x - 5) = 171 + 40 * (4 * s + r) + x - 5 := by omega
    have e3 : 171 + 40 * (4 * s + r) + x = (171 + 40 * (4 * s + r) + x - 5) + 5 := by omega
    have e4 : upd (nShift C lo (171 + 40 * (4 * s + r) + x - 5)) (171 + 40 * (4 * s + r) + (x - 5)) (nShift C lo (171 + 40 * (4 * s + r) + x - 5) (171 + 40 * (4 * s + r) + x)) = nShift C lo (171 + 40 * (4 * s + r) + (x + 1) - 5) := by
      rw [e2]
      have := nShift_step (N := C) (lo := lo) (hi := 171 + 40 * (4 * s + r) + x - 5) (by omega)
      rw [show 171 + 40 * (4 * s + r) + (x + 1) - 5 = 171 + 40 * (4 * s + r) + x - 5 + 1 from by omega, ← this]
      rw [← e3]
    rw [e4]
    exact c_rem_from hs hr hn h0 hN hlo d (x + 1) (by omega) (by omega)
theorem c_removeAt {i n : Nat} (hs : s < 6) (hr : r < 4) (hn : n < 8) (hN : C (147 + (4 * s + r)) = nI (n + 1)) (hi : i ≤ n) : e_X6_removeAt a s r (nI i) (wC a σ C) = some (some none, wC a σ (nLeaves C s r i n)) := by
  have h := c_rem_from (a := a) (σ := σ) (C := C) (lo := 171 + 5 * (8 * (4 * s + r) + i)) (n := n + 1) hs hr (by omega) (by omega) hN (by omega) ((n - i) * 5) ((i + 1) * 5) (by omega) (by omega)
  rw [show 171 + 40 * (4 * s + r) + (i + 1) * 5 - 5 = 171 + 5 * (8 * (4 * s + r) + i) from by omega, nShift_0] at h
  rw [q_X6_removeAt]
  simp (disch := omega) only [rC_size, hN, nI_lt0, nI_ltE, if_false, nI_add, pk_mul]
  rw [if_pos (by omega), h]
  congr 3
  unfold nLeaves
  funext j
  unfold upd nShift
  rw [show n + 1 - 1 = n from rfl]
  dsimp only
  by_cases h1 : j = 147 + (4 * s + r)
  · rw [if_pos h1, if_neg (by omega), if_pos h1]
  · rw [if_neg h1]
    by_cases h2 : 171 + 5 * (8 * (4 * s + r) + i) ≤ j ∧ j < 171 + 5 * (8 * (4 * s + r) + n)
    · rw [if_pos (by omega), if_pos h2, if_neg (by omega)]
    · rw [if_neg (by omega), if_neg h2, if_neg h1]
theorem c_addLast {n : Nat} {to u t : Int32} (hs : s < 6) (hr : r < 4) (hn : n < 8) (hN : C (147 + (4 * s + r)) = nI n) : e_X6_addLast a s r to u t (wC a σ C) = some (some none, wC a σ (nPut C s r n to u t (nI 0))) := by
  rw [q_X6_addLast]
  unfold nPut
  simp (disch := omega) only [rC_size, hN, nI_ltE, pk_mul, nI_add, nI_clamp, ck2, ckF, if_false, sC_fr, sC_size, fr_ix, upd_n]
  rw [if_pos hn]
  rfl
theorem c_delivered {u t : Int32} (hs : s < 6) : e_X3_delivered a s u t (wC a σ C) = some (some none, wC a σ (nHad C s u t)) := by
  rw [q_X3_delivered]
  unfold nHad mx
  simp (disch := omega) only [nI_clamp, ck2, ckF, if_false, rC_tally, sC_tally, upd_n]
theorem c_ready (hs : s < 6) (hr : r < 4) : e_X0_isReady a (nI s) (nI r) (wC a σ C) = some (some (some (.inl (bI (0 < C (147 + (4 * s + r)) ∧ C (1155 + (4 * s + r)) = 0 ∧ ¬ C (123 + s) < C (5 + r))))), wC a σ C) := by
  rw [r_isReady hs hr, rC_size hs hr, rC_count hs hr, rC_still hs, rC_set (by omega)]
  rw [show 2 + (3 + r) = 5 + r from by omega]
theorem c_sendsNow (hs : s < 6) : e_X0_sendsNow a (nI s) (wC a σ C) = some (some (some (.inl (bI (sn (C 1329) s)))), wC a σ C) := by
  rw [q_X0_sendsNow]
  rw [rC_sending]
  simp only [z01, o01, if_true]
  by_cases h : sn (C 1329) s
  · rw [if_sn h, bI_t h]
  · rw [if_ns h, bI_f h]
theorem c_isClear {x : Nat} (hs : s < 6) : e_X0_isClear a (nI s) (nI x) (wC a σ C) = some (some (some (.inl (bI (¬ sn (C 1329) s ∧ C (1436 + s) &&& C 1329 = nI 1 <<< (nI x &&& 31))))), wC a σ C) := by
  rw [q_X0_isClear, c_sendsNow hs]
  simp (disch := omega) only [bdI, nI_clamp, ck2, ckF, if_false, rC_hears, rC_sending, z01, o01, if_true]
  by_cases h : sn (C 1329) s
  · rw [if_bI h, bI_f (fun q => q.1 h)]
  · rw [if_nbI h]
    by_cases h2 : C (1436 + s) &&& C 1329 = nI 1 <<< (nI x &&& 31)
    · rw [if_pos h2, bI_t ⟨h, h2⟩]
    · rw [if_neg h2, bI_f (fun q => h2 q.2)]
end K1

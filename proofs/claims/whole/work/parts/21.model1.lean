/-! The reference's leaves: its state as one row of numbers and a few beside -/
def wM (σ : mS) (N O W : Nat → Int32) (b : Int32) : mS := (fun o i => if o = (30, 0, 0, 0) then N i else if o = (34, 0, 0, 0) then O i else if o = (35, 0, 0, 0) then W i else if o = (10, 0, 0, 0) ∧ i = 12 then b else σ.1 o i, σ.2)
section M1
variable {σ : mS} {N O W : Nat → Int32} {b : Int32}
theorem wM_N {i : Nat} : (wM σ N O W b).1 (30, 0, 0, 0) i = N i := by simp [wM]
theorem wM_O {i : Nat} : (wM σ N O W b).1 (34, 0, 0, 0) i = O i := by simp [wM]
theorem wM_W {i : Nat} : (wM σ N O W b).1 (35, 0, 0, 0) i = W i := by simp [wM]
theorem wM_b : (wM σ N O W b).1 (10, 0, 0, 0) 12 = b := by simp [wM]
theorem wM_stN {i : Nat} {v : Int32} : st (wM σ N O W b) (30, 0, 0, 0) i v = wM σ (upd N i v) O W b := by
  refine Prod.ext ?_ rfl
  funext o j
  simp only [st, wM, upd]
  by_cases h : o = (30, 0, 0, 0) <;> simp [h]
theorem wM_stO {i : Nat} {v : Int32} : st (wM σ N O W b) (34, 0, 0, 0) i v = wM σ N (upd O i v) W b := by
  refine Prod.ext ?_ rfl
  funext o j
  simp only [st, wM, upd]
  by_cases h : o = (34, 0, 0, 0) <;> simp [h]
theorem wM_stW {i : Nat} {v : Int32} : st (wM σ N O W b) (35, 0, 0, 0) i v = wM σ N O (upd W i v) b := by
  refine Prod.ext ?_ rfl
  funext o j
  simp only [st, wM, upd]
  by_cases h : o = (35, 0, 0, 0) <;> simp [h]
theorem wM_stb {v : Int32} : st (wM σ N O W b) (10, 0, 0, 0) 12 v = wM σ N O W v := by
  refine Prod.ext ?_ rfl
  funext o j
  simp only [st, wM]
  by_cases h : o = (10, 0, 0, 0) ∧ j = 12
  · simp [h]
  · rw [if_neg h, if_neg h, if_neg h]
theorem upd_s {f : Nat → Int32} {k : Nat} {x : Int32} : upd f k x k = x := pk_us
theorem upd_n {f : Nat → Int32} {k j : Nat} {x : Int32} (h : j ≠ k) : upd f k x j = f j := pk_un h
theorem m_had {s t : Nat} {v : Int32} (hs : s < 6) (ht : t < 9) : e_X10_had (nI s) (nI t) v (wM σ N O W b) = some (some none, wM σ (upd N (1275 + 9 * s + t) (N (1275 + 9 * s + t) + v)) O W b) := by
  rw [q_X10_had]
  simp (disch := omega) only [pk_mul, nI_add, nI_clamp, ck2, if_false, wM_N, wM_stN]
theorem m_exAt {s : Nat} : e_X10_exchangeAt (nI s) σ = some (some (some (.inl (nI (1179 + 16 * s)))), σ) := by
  rw [q_X10_exchangeAt]
  simp only [pk_mul, nI_add]
theorem m_quality {s z : Nat} (hs : s < 6) (hz : z < 6) : e_X10_quality (nI s) (nI z) (wM σ N O W b) = some (some (some (.inl (N (15 + 6 * s + z)))), wM σ N O W b) := by
  rw [q_X10_quality]
  simp (disch := omega) only [pk_mul, nI_add, nI_clamp, ck2, if_false, wM_N]
theorem m_hears {s z : Nat} (hs : s < 6) (hz : z < 6) : e_X10_hears (nI s) (nI z) (wM σ N O W b) = some (some (some (.inl (bI (0 < N (15 + 6 * s + z))))), wM σ N O W b) := by
  rw [q_X10_hears, m_quality hs hz]
  simp only [bdI, z01, o01, if_true, bI]
  split <;> rfl
theorem m_isFree {s : Nat} (hs : s < 6) : e_X10_isFree (nI s) (wM σ N O W b) = some (some (some (.inl (bI (N (1179 + 16 * s) = 0 ∧ N (135 + s) = -1 ∧ O s = -1)))), wM σ N O W b) := by
  rw [q_X10_isFree, m_exAt]
  simp (disch := omega) only [bdI, nI_add, nI_clamp, ck2, if_false, wM_N, wM_O, z01, o01, if_true, Nat.add_zero, bI]
  repeat' split
  all_goals simp_all
/-- a run of numbers moves five places down -/
def nShift (N : Nat → Int32) (lo hi : Nat) : Nat → Int32 := fun j => if lo ≤ j ∧ j < hi then N (j + 5) else N j
theorem nShift_0 {lo : Nat} : nShift N lo lo = N := by
  funext j
  unfold nShift
  rw [if_neg (by omega)]
theorem nShift_step {lo hi : Nat} (h : lo ≤ hi) : upd (nShift N lo hi) hi (nShift N lo hi (hi + 5)) = nShift N lo (hi + 1) := by
  funext j
  unfold upd nShift
  by_cases h1 : j = hi
  · subst h1
    rw [if_pos rfl, if_neg (by omega), if_pos (by omega)]
  · rw [if_neg h1]
    by_cases h2 : lo ≤ j ∧ j < hi
    · rw [if_pos h2, if_pos (by omega)]
    · rw [if_neg h2, if_neg (by omega)]
theorem m_leaves_in {s r k lo : Nat} (hs : s < 6) (hr : r < 4) (hk : k + 1 < 8) (hlo : lo ≤ 171 + 5 * (8 * (4 * s + r) + k)) : ∀ (d x : Nat), x + d = 5 →
    b_X10_leaves_43 (nI s) (nI r) (nI k) (nI x) (wM σ (nShift N lo (171 + 5 * (8 * (4 * s + r) + k) + x)) O W b) = b_X10_leaves_21 (nI s) (nI r) (nI (k + 1)) (wM σ (nShift N lo (171 + 5 * (8 * (4 * s + r) + (k + 1)))) O W b)
  | 0, x, hx => by
    have hx5 : x = 5 := by omega
    subst hx5
    rw [q_X10_leaves_43]
    simp (disch := omega) only [nI_ltE, Nat.lt_irrefl, if_false, nI_1]
    rw [show 171 + 5 * (8 * (4 * s + r) + k) + 5 = 171 + 5 * (8 * (4 * s + r) + (k + 1)) from by omega]
  | d + 1, x, hx => by
    rw [q_X10_leaves_43]
    simp (disch := omega) only [nI_ltE, nI_1, r_frameAt, bdI, nI_add, nI_clamp, ck2, if_false, wM_N, wM_stN]
    rw [if_pos (by omega)]
    have e1 : 171 + 5 * (8 * (4 * s + r) + (k + 1)) + x = 171 + 5 * (8 * (4 * s + r) + k) + x + 5 := by omega
    rw [e1, nShift_step (by omega)]
    exact m_leaves_in hs hr hk hlo d (x + 1) (by omega)
theorem m_leaves_out {s r n lo : Nat} (hs : s < 6) (hr : r < 4) (hn : n < 8) (hN : ∀ hi, nShift N lo hi (147 + (4 * s + r)) = nI n) : ∀ (d k : Nat), k + d = n → lo ≤ 171 + 5 * (8 * (4 * s + r) + k) →
    b_X10_leaves_21 (nI s) (nI r) (nI k) (wM σ (nShift N lo (171 + 5 * (8 * (4 * s + r) + k))) O W b) = some (some none, wM σ (nShift N lo (171 + 5 * (8 * (4 * s + r) + n))) O W b)
  | 0, k, hk, hlo => by
    have : k = n := by omega
    subst this
    rw [q_X10_leaves_21, r_at]
    simp (disch := omega) only [bdI, nI_add, nI_clamp, ck2, if_false, wM_N, hN, nI_ltE, Nat.lt_irrefl]
  | d + 1, k, hk, hlo => by
    rw [q_X10_leaves_21, r_at]
    simp (disch := omega) only [bdI, nI_add, nI_clamp, ck2, if_false, wM_N, hN, nI_ltE]
    rw [if_pos (by omega)]
    have h := m_leaves_in (σ := σ) (N := N) (O := O) (W := W) (b := b) hs hr (k := k) (by omega) hlo 5 0 rfl
    rw [Nat.add_zero] at h
    rw [h]
    exact m_leaves_out hs hr hn hN d (k + 1) (by omega) (by omega)
/-- the i-th frame leaves a queue -/
def nLeaves (N : Nat → Int32) (s r i n : Nat) : Nat → Int32 := nShift (upd N (147 + (4 * s + r)) (nI n)) (171 + 5 * (8 * (4 * s + r) + i)) (171 + 5 * (8 * (4 * s + r) + n))
theorem m_leaves {s r i n : Nat} (hs : s < 6) (hr : r < 4) (hn : n < 8) (hi : i ≤ n) (hN : N (147 + (4 * s + r)) = nI (n + 1)) :
    e_X10_leaves (nI s) (nI r) (nI i) (wM σ N O W b) = some (some none, wM σ (nLeaves N s r i n) O W b) := by
  rw [q_X10_leaves, r_at]
  simp (disch := omega) only [bdI, nI_add, nI_clamp, ck2, if_false, wM_N, wM_stN, hN]
  rw [show nI (n + 1) - nI 1 = nI n from pk_sub (by omega)]
  have h := m_leaves_out (σ := σ) (N := upd N (147 + (4 * s + r)) (nI n)) (O := O) (W := W) (b := b) (lo := 171 + 5 * (8 * (4 * s + r) + i)) hs hr hn (fun hi => by
    unfold nShift
    rw [if_neg (by omega), upd_s]) (n - i) i (by omega) (Nat.le_refl _)
  rw [nShift_0] at h
  exact h
theorem m_isLost {s r i n : Nat} (hs : s < 6) (hr : r < 4) (hn : n < 8) (hi : i ≤ n) (hN : N (147 + (4 * s + r)) = nI (n + 1)) :
    e_X10_isLost (nI s) (nI r) (nI i) (wM σ N O W b) = some (some none, wM σ (upd (upd (nLeaves N s r i n) (1275 + 9 * s + 2) (nLeaves N s r i n (1275 + 9 * s + 2) + nI 1)) 1337 (nLeaves N s r i n 1337 + nI 1)) O W b) := by
  rw [q_X10_isLost, m_leaves hs hr hn hi hN]
  simp (disch := omega) only [bdV, m_had, nI_clamp, ck2, if_false, wM_N, wM_stN, upd_n]
/-- who draws -/
def nDraw (N : Nat → Int32) : Nat → Int32 := upd N 14 (N 14 * nI 1103515245 + nI 12345)
def drawn (x y : Int32) : Int32 := iushr x (nI 16) - iushr x (nI 16) / y * y
theorem m_draw {n : Int32} (hn : n ≠ 0) : e_X10_draw n (wM σ N O W b) = some (some (some (.inl (drawn (nDraw N 14) n))), wM σ (nDraw N) O W b) := by
  rw [q_X10_draw]
  simp (disch := omega) only [nI_clamp, ck2, if_false, wM_N, wM_stN, hn]
  rfl
def nDraws (N : Nat → Int32) (s r : Nat) : Nat → Int32 := upd (nDraw N) (1155 + (4 * s + r)) (drawn (nDraw N 14) (N (1131 + (4 * s + r)) + nI 1))
theorem m_drawsCount {s r : Nat} (hs : s < 6) (hr : r < 4) (hw : N (1131 + (4 * s + r)) + nI 1 ≠ 0) :
    e_X10_drawsCount (nI s) (nI r) (wM σ N O W b) = some (some none, wM σ (nDraws N s r) O W b) := by
  rw [q_X10_drawsCount, r_at]
  simp (disch := omega) only [bdI, r_at, nI_add, nI_clamp, ck2, if_false, wM_N, wM_stN, m_draw hw]
  rfl
theorem n10 : ¬ nI 1 = 0 := by decide
theorem n00 : nI 0 = 0 := rfl
theorem o1 : nI 1 = 0 ∨ nI 1 = 1 := Or.inr rfl
theorem z1 : nI 0 = 0 ∨ nI 0 = 1 := Or.inl rfl
theorem nn_of {p : Prop} (h : p) : ¬ ¬ p := fun q => q h
/-- a bit that is set -/
def sn (b : Int32) (k : Nat) : Prop := (b >>> (nI k &&& 31)) &&& nI 1 = nI 1
theorem m_has {c : Int32} {k : Nat} {σ : mS} : e_X10_has c (nI k) σ = some (some (some (.inl (bI (sn c k)))), σ) := by
  rw [q_X10_has]
  simp only [z01, o01, if_true]
  by_cases h : sn c k
  · rw [bI_t h]; exact if_pos h
  · rw [bI_f h]; exact if_neg h
/-- it hears a sender, one left out -/
def hO (N : Nat → Int32) (b : Int32) (M y : Nat) (but : Int32) (i : Nat) : Prop := ∃ z, i ≤ z ∧ z < M ∧ nI z ≠ but ∧ 0 < N (15 + 6 * y + z) ∧ sn b z
theorem m_hO_from {M y : Nat} {but : Int32} (hM : M ≤ 6) (hN : N 0 = nI M) (hy : y < 6) : ∀ (d i : Nat), i + d = M → b_X10_hearsOthers_2 (nI y) but (nI i) (wM σ N O W b) = some (some (some (.inl (bI (hO N b M y but i)))), wM σ N O W b)
  | 0, i, hi => by
    rw [q_X10_hearsOthers_2]
    simp (disch := omega) only [nI_clamp, ck2, if_false, wM_N, hN, nI_ltE, z01, if_true]
    rw [if_neg (by omega), bI_f]
    rintro ⟨z, h1, h2, -⟩
    omega
  | d + 1, i, hi => by
    have ih := m_hO_from (but := but) hM hN hy d (i + 1) (by omega)
    rw [q_X10_hearsOthers_2]
    simp (disch := omega) only [nI_clamp, ck2, if_false, wM_N, hN, nI_ltE, nI_1]
    rw [if_pos (by omega)]
    by_cases h1 : nI i = but
    · rw [if_pos h1, ih]
      congr 5
      refine bI_c ⟨fun ⟨z, a1, a2, a3⟩ => ⟨z, by omega, a2, a3⟩, fun ⟨z, a1, a2, a3, a4⟩ => ⟨z, ?_, a2, a3, a4⟩⟩
      by_cases hz : z = i
      · rw [hz] at a3; exact absurd h1 a3
      · omega
    · rw [if_neg h1, m_hears hy (by omega)]
      simp only [bdI, bI_0]
      by_cases h2 : 0 < N (15 + 6 * y + i)
      · rw [if_neg (nn_of h2), wM_b, m_has]
        simp only [bdI]
        by_cases h3 : sn b i
        · rw [bI_t h3, if_neg n10, if_pos o1, bI_t]
          exact ⟨i, Nat.le_refl _, by omega, h1, h2, h3⟩
        · rw [bI_f h3, if_pos n00, ih]
          congr 5
          refine bI_c ⟨fun ⟨z, a1, a2, a3⟩ => ⟨z, by omega, a2, a3⟩, fun ⟨z, a1, a2, a3, a4, a5⟩ => ⟨z, ?_, a2, a3, a4, a5⟩⟩
          by_cases hz : z = i
          · rw [hz] at a5; exact absurd a5 h3
          · omega
      · rw [if_pos h2, ih]
        congr 5
        refine bI_c ⟨fun ⟨z, a1, a2, a3⟩ => ⟨z, by omega, a2, a3⟩, fun ⟨z, a1, a2, a3, a4, a5⟩ => ⟨z, ?_, a2, a3, a4, a5⟩⟩
        by_cases hz : z = i
        · rw [hz] at a4; exact absurd a4 h2
        · omega
theorem m_hearsOthers {M y : Nat} {but : Int32} (hM : M ≤ 6) (hN : N 0 = nI M) (hy : y < 6) : e_X10_hearsOthers (nI y) but (wM σ N O W b) = some (some (some (.inl (bI (hO N b M y but 0)))), wM σ N O W b) := by
  rw [q_X10_hearsOthers]
  exact m_hO_from hM hN hy M 0 (by omega)
/-- y is clear for x -/
def clr (N : Nat → Int32) (b : Int32) (M y x : Nat) : Prop := x ≠ y ∧ 0 < N (15 + 6 * y + x) ∧ sn b x ∧ ¬ sn b y ∧ ¬ hO N b M y (nI x) 0
theorem m_isClear {M y x : Nat} (hM : M ≤ 6) (hN : N 0 = nI M) (hy : y < 6) (hx : x < 6) : e_X10_isClear (nI y) (nI x) (wM σ N O W b) = some (some (some (.inl (bI (clr N b M y x)))), wM σ N O W b) := by
  rw [q_X10_isClear]
  unfold clr
  by_cases h1 : x = y
  · rw [if_pos (congrArg nI h1), if_pos z1, bI_f (fun q => q.1 h1)]
  · rw [if_neg (fun q => h1 ((nI_eq (by omega) (by omega)).mp q)), m_hears hy hx]
    dsimp only [bdI]
    by_cases h2 : 0 < N (15 + 6 * y + x)
    · rw [bI_t h2, if_neg n10, wM_b, m_has]
      dsimp only [bdI]
      by_cases h3 : sn b x
      · rw [bI_t h3, if_neg n10, wM_b, m_has]
        dsimp only [bdI]
        by_cases h4 : sn b y
        · rw [bI_t h4, if_neg n10, if_pos z1, bI_f (fun q => q.2.2.2.1 h4)]
        · rw [bI_f h4, if_pos n00, m_hearsOthers hM hN hy]
          dsimp only [bdI]
          by_cases h5 : hO N b M y (nI x) 0
          · rw [bI_t h5, if_neg n10, if_pos z1, bI_f (fun q => q.2.2.2.2 h5)]
          · rw [bI_f h5, if_pos n00, if_pos o1, bI_t ⟨h1, h2, h3, h4, h5⟩]
      · rw [bI_f h3, if_pos n00, if_pos z1, bI_f (fun q => h3 q.2.2.1)]
    · rw [bI_f h2, if_pos n00, if_pos z1, bI_f (fun q => h2 q.2.1)]
end M1

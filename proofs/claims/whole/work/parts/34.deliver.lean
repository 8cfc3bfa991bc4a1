/-! Frames that are delivered, or lost, or kept: one by one from the first, or from the last, is the same -/
section DV
variable {x s r i j n m k d : Nat} {F G N C : Nat → Int32} {v u t : Int32}
theorem i32_ac {a b c : Int32} : a + b + c = a + c + b := by
  apply Int32.toBitVec_inj.mp
  simp only [Int32.toBitVec_add]
  rw [BitVec.add_assoc, BitVec.add_comm b.toBitVec, ← BitVec.add_assoc]
theorem mx_c {a b c : Int32} : mx (mx a b) c = mx (mx a c) b := by
  have e : ∀ p q : Int32, (mx p q).toInt = if p.toInt < q.toInt then q.toInt else p.toInt := by
    intro p q
    unfold mx
    by_cases h : p < q
    · rw [if_pos h, if_pos (i32_lt.mp h)]
    · rw [if_neg h, if_neg (fun g => h (i32_lt.mpr g))]
  apply i32_eq
  simp only [e]
  repeat' split
  all_goals omega
/-- numbers high up change each by itself -/
def hiM (g : Nat → Int32 → Int32) (F : Nat → Int32) : Nat → Int32 := fun k => g k (F k)
def gW (s : Nat) (u t m : Int32) (k : Nat) (v : Int32) : Int32 := if k = 1275 + 9 * s + 0 then v + nI 1 else if k = 1275 + 9 * s + 1 then v + u else if k = 1336 then v + nI 1 else if k = 1340 then (if m = nI 1 then nI 1 else v) else if k = 1275 + 9 * s + 7 then v + t else if k = 1275 + 9 * s + 8 then mx v t else v
def gL (s : Nat) (k : Nat) (v : Int32) : Int32 := if k = 1275 + 9 * s + 2 then v + nI 1 else if k = 1337 then v + nI 1 else v
def gId (g : Nat → Int32 → Int32) : Prop := ∀ k v, k < 1131 → g k v = v
theorem gW_id {m : Int32} : gId (gW s u t m) := fun k v h => by
  unfold gW
  rw [if_neg (by omega), if_neg (by omega), if_neg (by omega), if_neg (by omega), if_neg (by omega), if_neg (by omega)]
theorem gL_id : gId (gL s) := fun k v h => by
  unfold gL
  rw [if_neg (by omega), if_neg (by omega)]
theorem hiM_n {g : Nat → Int32 → Int32} (hg : gId g) (hk : k < 1131) : hiM g F k = F k := hg k _ hk
theorem hiM_c {g g' : Nat → Int32 → Int32} (h : ∀ k v, g k (g' k v) = g' k (g k v)) : hiM g (hiM g' F) = hiM g' (hiM g F) := by
  funext k
  exact h k (F k)
theorem gWW {m u' t' m' : Int32} (k : Nat) (v : Int32) : gW s u t m k (gW s u' t' m' k v) = gW s u' t' m' k (gW s u t m k v) := by
  unfold gW
  by_cases h1 : k = 1275 + 9 * s + 0
  · simp only [if_pos h1]
  · simp only [if_neg h1]
    by_cases h2 : k = 1275 + 9 * s + 1
    · simp only [if_pos h2]; exact i32_ac
    · simp only [if_neg h2]
      by_cases h3 : k = 1336
      · simp only [if_pos h3]
      · simp only [if_neg h3]
        by_cases h4 : k = 1340
        · simp only [if_pos h4]
          split <;> split <;> rfl
        · simp only [if_neg h4]
          by_cases h5 : k = 1275 + 9 * s + 7
          · simp only [if_pos h5]; exact i32_ac
          · simp only [if_neg h5]
            by_cases h6 : k = 1275 + 9 * s + 8
            · simp only [if_pos h6]; exact mx_c
            · simp only [if_neg h6]
theorem gWL {m : Int32} (k : Nat) (v : Int32) : gW s u t m k (gL s k v) = gL s k (gW s u t m k v) := by
  unfold gW gL
  by_cases h1 : k = 1275 + 9 * s + 2
  · simp only [if_pos h1]
    simp (disch := omega) only [if_neg]
    rw [if_neg (by omega), if_neg (by omega), if_neg (by omega), if_neg (by omega), if_neg (by omega), if_neg (by omega)]
    try rw [if_neg (by omega), if_neg (by omega), if_neg (by omega), if_neg (by omega), if_neg (by omega), if_neg (by omega)]
  · simp only [if_neg h1]
    by_cases h2 : k = 1337
    · simp only [if_pos h2]
      rw [if_neg (by omega), if_neg (by omega), if_neg (by omega), if_neg (by omega), if_neg (by omega), if_neg (by omega)]
      try rw [if_neg (by omega), if_neg (by omega), if_neg (by omega), if_neg (by omega), if_neg (by omega), if_neg (by omega)]
    · simp only [if_neg h2]
/-- the i-th frame leaves, and things high up -/
theorem lv_hi {g : Nat → Int32 → Int32} (hg : gId g) (hs : s < 6) (hr : r < 4) (hn : n < 8) : nLeaves (hiM g F) s r i n = hiM g (nLeaves F s r i n) := by
  funext k
  unfold nLeaves nShift hiM
  by_cases h : 171 + 5 * (8 * (4 * s + r) + i) ≤ k ∧ k < 171 + 5 * (8 * (4 * s + r) + n)
  · rw [if_pos h, if_pos h, hg k _ (by omega), upd_n (by omega), upd_n (by omega), hg _ _ (by omega)]
  · rw [if_neg h, if_neg h]
    by_cases h2 : k = 147 + (4 * s + r)
    · rw [upd_e h2, upd_e h2, hg k _ (by omega)]
    · rw [upd_n h2, upd_n h2]
theorem ty_hi {g : Nat → Int32 → Int32} (hg : gId g) {f : Nat} (hf : f + 2 < 1131) : nTry (hiM g F) f = hiM g (nTry F f) := by
  funext k
  unfold nTry hiM
  by_cases h : k = f + 2
  · rw [upd_e h, upd_e h, hg _ _ hf, hg k _ (by omega)]
  · rw [upd_n h, upd_n h]
theorem lv_at (k : Nat) : nLeaves F s r i n k = if 171 + 5 * (8 * (4 * s + r) + i) ≤ k ∧ k < 171 + 5 * (8 * (4 * s + r) + n) then (if k + 5 = 147 + (4 * s + r) then nI n else F (k + 5)) else (if k = 147 + (4 * s + r) then nI n else F k) := rfl
theorem ty_at {f : Nat} (k : Nat) : nTry F f k = if k = f + 2 then F (f + 2) + nI 1 else F k := rfl
theorem LL (hs : s < 6) (hr : r < 4) (hn : n < 8) (hij : i < j) (hj : j ≤ n) : nLeaves (nLeaves F s r j n) s r i (n - 1) = nLeaves (nLeaves F s r i n) s r (j - 1) (n - 1) := by
  funext k
  simp only [lv_at]
  by_cases h0 : k = 147 + (4 * s + r)
  · rw [if_neg (by omega), if_pos h0, if_neg (by omega), if_pos h0]
  · simp (disch := omega) only [if_neg]
    repeat' split
    all_goals first
      | rfl
      | (exfalso; omega)
theorem LT (hs : s < 6) (hr : r < 4) (hn : n < 8) (hij : i < j) (hj : j ≤ n) : nLeaves (nTry F (171 + 5 * (8 * (4 * s + r) + j))) s r i n = nTry (nLeaves F s r i n) (171 + 5 * (8 * (4 * s + r) + (j - 1))) := by
  have e1 : 171 + 5 * (8 * (4 * s + r) + (j - 1)) + 2 + 5 = 171 + 5 * (8 * (4 * s + r) + j) + 2 := by omega
  funext k
  simp only [lv_at, ty_at, e1]
  repeat' split
  all_goals first
    | rfl
    | (exfalso; omega)
theorem TL (hs : s < 6) (hr : r < 4) (hn : n < 8) (hij : i < j) (hj : j ≤ n) : nTry (nLeaves F s r j n) (171 + 5 * (8 * (4 * s + r) + i)) = nLeaves (nTry F (171 + 5 * (8 * (4 * s + r) + i))) s r j n := by
  funext k
  simp only [lv_at, ty_at]
  repeat' split
  all_goals first
    | rfl
    | (exfalso; omega)
theorem TT (hij : i < j) : nTry (nTry F (171 + 5 * (8 * (4 * s + r) + j))) (171 + 5 * (8 * (4 * s + r) + i)) = nTry (nTry F (171 + 5 * (8 * (4 * s + r) + i))) (171 + 5 * (8 * (4 * s + r) + j)) := by
  funext k
  simp only [ty_at]
  repeat' split
  all_goals first
    | rfl
    | (exfalso; omega)
/-- the number of frames of a queue -/
def szq (F : Nat → Int32) (s r : Nat) : Nat := (F (147 + (4 * s + r))).toNatClampNeg
def fq (s r i : Nat) : Nat := 171 + 5 * (8 * (4 * s + r) + i)
def tkn (F : Nat → Int32) (s r i : Nat) : Int32 := F 1 - F (fq s r i + 3) + nI 1
/-- what becomes of one frame -/
noncomputable def opx (s r i : Nat) (wb : Prop) (F : Nat → Int32) : Nat → Int32 :=
  @ite _ wb (Classical.propDecidable _) (nLeaves (hiM (gW s (F (fq s r i + 1)) (tkn F s r i) (F (fq s r i + 4))) F) s r i (szq F s r - 1))
    (if F (fq s r i + 2) + nI 1 < F 4 then nTry F (fq s r i) else nLeaves (hiM (gL s) (nTry F (fq s r i))) s r i (szq F s r - 1))
def kpt (F : Nat → Int32) (s r i : Nat) (wb : Prop) : Prop := ¬ wb ∧ F (fq s r i + 2) + nI 1 < F 4
theorem opx_lo (hs : s < 6) (hr : r < 4) {wb : Prop} (hm : szq F s r - 1 < 8) (hk : k < 147 ∨ (147 ≤ k ∧ k < 1131 ∧ k ≠ 147 + (4 * s + r) ∧ (k < 171 + 40 * (4 * s + r) ∨ 171 + 40 * (4 * s + r) + 40 ≤ k))) (hi : i < 8) : opx s r i wb F k = F k := by
  unfold opx
  have e : ∀ (g : Nat → Int32 → Int32) (H : Nat → Int32), gId g → nLeaves (hiM g H) s r i (szq F s r - 1) k = H k := fun g H hg => by
    rw [lv_at, if_neg (by omega), if_neg (by omega), hiM_n hg (by omega)]
  by_cases h1 : wb
  · rw [if_pos h1, e _ _ gW_id]
  · rw [if_neg h1]
    by_cases h2 : F (fq s r i + 2) + nI 1 < F 4
    · rw [if_pos h2, ty_at, if_neg (by unfold fq; omega)]
    · rw [if_neg h2, e _ _ gL_id, ty_at, if_neg (by unfold fq; omega)]
/-- a frame ahead of it stays as it is -/
theorem opx_fr (hs : s < 6) (hr : r < 4) {wb : Prop} (hij : i < j) {f : Nat} (hf : f < 5) (hj : j < 8) : opx s r j wb F (fq s r i + f) = F (fq s r i + f) := by
  unfold opx fq
  by_cases h1 : wb
  · rw [if_pos h1, lv_at, if_neg (by omega), if_neg (by omega), hiM_n gW_id (by omega)]
  · rw [if_neg h1]
    by_cases h2 : F (171 + 5 * (8 * (4 * s + r) + j) + 2) + nI 1 < F 4
    · rw [if_pos h2, ty_at, if_neg (by omega)]
    · rw [if_neg h2, lv_at, if_neg (by omega), if_neg (by omega), hiM_n gL_id (by omega), ty_at, if_neg (by omega)]
theorem opx_kept (hs : s < 6) (hr : r < 4) {wb : Prop} (h : kpt F s r i wb) : opx s r i wb F = nTry F (fq s r i) := by
  unfold opx
  rw [if_neg h.1, if_pos h.2]
theorem opx_sz (hs : s < 6) (hr : r < 4) {wb : Prop} (hi : i < 8) (hm : szq F s r - 1 < 8) : szq (opx s r i wb F) s r = szq F s r - @ite _ (kpt F s r i wb) (Classical.propDecidable _) 0 1 := by
  by_cases hk : kpt F s r i wb
  · rw [if_pos hk, opx_kept hs hr hk]
    unfold szq nTry fq
    rw [upd_n (by omega)]
    rfl
  · rw [if_neg hk]
    have e : ∀ H : Nat → Int32, szq (nLeaves H s r i (szq F s r - 1)) s r = szq F s r - 1 := fun H => by
      show (nLeaves H s r i (szq F s r - 1) (147 + (4 * s + r))).toNatClampNeg = _
      rw [lv_at, if_neg (by omega), if_pos rfl, nI_clamp (by omega)]
    unfold opx
    by_cases h1 : wb
    · rw [if_pos h1, e]
    · rw [if_neg h1, if_neg (fun g => hk ⟨h1, g⟩), e]
/-- frames behind it move down, or stay -/
theorem opx_next (hs : s < 6) (hr : r < 4) {wb : Prop} (hij : i < j) (hj : j < szq F s r) (hm : szq F s r ≤ 8) {f : Nat} (hf : f < 5) : opx s r i wb F (fq s r (j - @ite _ (kpt F s r i wb) (Classical.propDecidable _) 0 1) + f) = F (fq s r j + f) := by
  by_cases hk : kpt F s r i wb
  · rw [if_pos hk, opx_kept hs hr hk, ty_at, if_neg (by unfold fq; omega)]
    rfl
  · rw [if_neg hk]
    have e : ∀ H : Nat → Int32, nLeaves H s r i (szq F s r - 1) (fq s r (j - 1) + f) = H (fq s r j + f) := fun H => by
      have e1 : fq s r (j - 1) + f + 5 = fq s r j + f := by unfold fq; omega
      rw [lv_at, if_pos (by unfold fq; omega), e1, if_neg (by unfold fq; omega)]
    unfold opx
    by_cases h1 : wb
    · rw [if_pos h1, e, hiM_n gW_id (by unfold fq; omega)]
    · rw [if_neg h1, if_neg (fun g => hk ⟨h1, g⟩), e, hiM_n gL_id (by unfold fq; omega), ty_at, if_neg (by unfold fq; omega)]
end DV

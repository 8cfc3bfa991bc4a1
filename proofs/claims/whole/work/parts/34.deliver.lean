/-! Frames that are delivered, or lost, or kept: one by one from the first, or from the last, is the same -/
section DV
variable {x s r i j n m k d : Nat} {F G N C : Nat → Int32} {v u t : Int32}
theorem i32_ac {a b c : Int32} : a + b + c = a + c + b := by
  apply Int32.toBitVec_inj.mp
  simp only [Int32.toBitVec_add]
  rw [BitVec.add_assoc, BitVec.add_comm b.toBitVec, ← BitVec.add_assoc]
theorem mx_c {a b c : Int32} : mx (mx a b) c = mx (mx a c) b := by
  have e : ∀ p q : Int32, (mx p q).toInt = if p.toInt < q.toInt then q.toInt else p.toInt := by
    intro p q
    unfold mx
    by_cases h : p < q
    · rw [if_pos h, if_pos (i32_lt.mp h)]
    · rw [if_neg h, if_neg (fun g => h (i32_lt.mpr g))]
  apply i32_eq
  simp only [e]
  repeat' split
  all_goals omega
/-- numbers high up change each by itself -/
def hiM (g : Nat → Int32 → Int32) (F : Nat → Int32) : Nat → Int32 := fun k => g k (F k)
def gW (s : Nat) (u t m : Int32) (k : Nat) (v : Int32) : Int32 := if k = 1275 + 9 * s + 0 then v + nI 1 else if k = 1275 + 9 * s + 1 then v + u else if k = 1336 then v + nI 1 else if k = 1340 then (if m = nI 1 then nI 1 else v) else if k = 1275 + 9 * s + 7 then v + t else if k = 1275 + 9 * s + 8 then mx v t else v
def gL (s : Nat) (k : Nat) (v : Int32) : Int32 := if k = 1275 + 9 * s + 2 then v + nI 1 else if k = 1337 then v + nI 1 else v
def gId (g : Nat → Int32 → Int32) : Prop := ∀ k v, k < 1131 → g k v = v
theorem gW_id {m : Int32} : gId (gW s u t m) := fun k v h => by
  unfold gW
  rw [if_neg (by omega), if_neg (by omega), if_neg (by omega), if_neg (by omega), if_neg (by omega), if_neg (by omega)]
theorem gL_id : gId (gL s) := fun k v h => by
  unfold gL
  rw [if_neg (by omega), if_neg (by omega)]
theorem hiM_n {g : Nat → Int32 → Int32} (hg : gId g) (hk : k < 1131) : hiM g F k = F k := hg k _ hk
theorem hiM_c {g g' : Nat → Int32 → Int32} (h : ∀ k v, g k (g' k v) = g' k (g k v)) : hiM g (hiM g' F) = hiM g' (hiM g F) := by
  funext k
  exact h k (F k)
theorem gWW {m u' t' m' : Int32} (k : Nat) (v : Int32) : gW s u t m k (gW s u' t' m' k v) = gW s u' t' m' k (gW s u t m k v) := by
  unfold gW
  by_cases h1 : k = 1275 + 9 * s + 0
  · simp only [if_pos h1]
  · simp only [if_neg h1]
    by_cases h2 : k = 1275 + 9 * s + 1
    · simp only [if_pos h2]; exact i32_ac
    · simp only [if_neg h2]
      by_cases h3 : k = 1336
      · simp only [if_pos h3]
      · simp only [if_neg h3]
        by_cases h4 : k = 1340
        · simp only [if_pos h4]
          split <;> split <;> rfl
        · simp only [if_neg h4]
          by_cases h5 : k = 1275 + 9 * s + 7
          · simp only [if_pos h5]; exact i32_ac
          · simp only [if_neg h5]
            by_cases h6 : k = 1275 + 9 * s + 8
            · simp only [if_pos h6]; exact mx_c
            · simp only [if_neg h6]
theorem gW_no {m : Int32} (h : k ≠ 1275 + 9 * s + 0 ∧ k ≠ 1275 + 9 * s + 1 ∧ k ≠ 1336 ∧ k ≠ 1340 ∧ k ≠ 1275 + 9 * s + 7 ∧ k ≠ 1275 + 9 * s + 8) (v : Int32) : gW s u t m k v = v := by
  obtain ⟨h1, h2, h3, h4, h5, h6⟩ := h
  unfold gW
  rw [if_neg h1, if_neg h2, if_neg h3, if_neg h4, if_neg h5, if_neg h6]
theorem gL_no (h : k ≠ 1275 + 9 * s + 2 ∧ k ≠ 1337) (v : Int32) : gL s k v = v := by
  unfold gL
  rw [if_neg h.1, if_neg h.2]
theorem gWL {m : Int32} (hs : s < 6) (k : Nat) (v : Int32) : gW s u t m k (gL s k v) = gL s k (gW s u t m k v) := by
  by_cases h1 : k = 1275 + 9 * s + 2 ∨ k = 1337
  · have hn : k ≠ 1275 + 9 * s + 0 ∧ k ≠ 1275 + 9 * s + 1 ∧ k ≠ 1336 ∧ k ≠ 1340 ∧ k ≠ 1275 + 9 * s + 7 ∧ k ≠ 1275 + 9 * s + 8 := by omega
    rw [gW_no hn, gW_no hn]
  · have hn : k ≠ 1275 + 9 * s + 2 ∧ k ≠ 1337 := by omega
    rw [gL_no hn, gL_no hn]
/-- the i-th frame leaves, and things high up -/
theorem nlv_at (k : Nat) : nLeaves F s r i n k = if 171 + 5 * (8 * (4 * s + r) + i) ≤ k ∧ k < 171 + 5 * (8 * (4 * s + r) + n) then (if k + 5 = 147 + (4 * s + r) then nI n else F (k + 5)) else (if k = 147 + (4 * s + r) then nI n else F k) := rfl
theorem nty_at {f : Nat} (k : Nat) : nTry F f k = if k = f + 2 then F (f + 2) + nI 1 else F k := rfl
theorem lv_hi {g : Nat → Int32 → Int32} (hg : gId g) (hs : s < 6) (hr : r < 4) (hn : n < 8) : nLeaves (hiM g F) s r i n = hiM g (nLeaves F s r i n) := by
  funext k
  show nLeaves (hiM g F) s r i n k = g k (nLeaves F s r i n k)
  rw [nlv_at, nlv_at]
  by_cases h : 171 + 5 * (8 * (4 * s + r) + i) ≤ k ∧ k < 171 + 5 * (8 * (4 * s + r) + n)
  · rw [if_pos h, if_pos h, hg k _ (by omega), if_neg (by omega), if_neg (by omega), hiM_n hg (by omega)]
  · rw [if_neg h, if_neg h]
    by_cases h2 : k = 147 + (4 * s + r)
    · rw [if_pos h2, if_pos h2, hg k _ (by omega)]
    · rw [if_neg h2, if_neg h2]
      rfl
theorem ty_hi {g : Nat → Int32 → Int32} (hg : gId g) {f : Nat} (hf : f + 2 < 1131) : nTry (hiM g F) f = hiM g (nTry F f) := by
  funext k
  unfold nTry hiM
  by_cases h : k = f + 2
  · rw [upd_e h, upd_e h, hg _ _ hf, hg k _ (by omega)]
  · rw [upd_n h, upd_n h]
theorem LL (hs : s < 6) (hr : r < 4) (hn : n < 8) (hij : i < j) (hj : j ≤ n) (k : Nat) (hk : k < 171 + 40 * (4 * s + r) + 5 * (n - 1) ∨ 171 + 40 * (4 * s + r) + 40 ≤ k) : nLeaves (nLeaves F s r j n) s r i (n - 1) k = nLeaves (nLeaves F s r i n) s r (j - 1) (n - 1) k := by
  simp only [nlv_at]
  by_cases h0 : k = 147 + (4 * s + r)
  · rw [if_neg (by omega), if_pos h0, if_neg (by omega), if_pos h0]
  · simp (disch := omega) only [if_neg]
    repeat' split
    all_goals first
      | rfl
      | (exfalso; omega)
theorem LT (hs : s < 6) (hr : r < 4) (hn : n < 8) (hij : i < j) (hj : j ≤ n) (k : Nat) (hk : k < 171 + 40 * (4 * s + r) + 5 * n ∨ 171 + 40 * (4 * s + r) + 40 ≤ k) : nLeaves (nTry F (171 + 5 * (8 * (4 * s + r) + j))) s r i n k = nTry (nLeaves F s r i n) (171 + 5 * (8 * (4 * s + r) + (j - 1))) k := by
  have e1 : 171 + 5 * (8 * (4 * s + r) + (j - 1)) + 2 + 5 = 171 + 5 * (8 * (4 * s + r) + j) + 2 := by omega
  simp only [nlv_at, nty_at, e1]
  repeat' split
  all_goals first
    | rfl
    | (exfalso; omega)
    | (congr 1; omega)
theorem TL (hs : s < 6) (hr : r < 4) (hn : n < 8) (hij : i < j) (hj : j ≤ n) : nTry (nLeaves F s r j n) (171 + 5 * (8 * (4 * s + r) + i)) = nLeaves (nTry F (171 + 5 * (8 * (4 * s + r) + i))) s r j n := by
  funext k
  simp only [nlv_at, nty_at]
  repeat' split
  all_goals first
    | rfl
    | (exfalso; omega)
    | (congr 1; omega)
    | (congr 2; omega)
theorem TT (hij : i < j) : nTry (nTry F (171 + 5 * (8 * (4 * s + r) + j))) (171 + 5 * (8 * (4 * s + r) + i)) = nTry (nTry F (171 + 5 * (8 * (4 * s + r) + i))) (171 + 5 * (8 * (4 * s + r) + j)) := by
  funext k
  simp only [nty_at]
  repeat' split
  all_goals first
    | rfl
    | (exfalso; omega)
    | (congr 1; omega)
    | (congr 2; omega)
/-- the number of frames of a queue -/
def szq (F : Nat → Int32) (s r : Nat) : Nat := (F (147 + (4 * s + r))).toNatClampNeg
def fq (s r i : Nat) : Nat := 171 + 5 * (8 * (4 * s + r) + i)
def tkn (F : Nat → Int32) (s r i : Nat) : Int32 := F 1 - F (fq s r i + 3) + nI 1
/-- what becomes of one frame -/
noncomputable def opx (s r i : Nat) (wb : Prop) (F : Nat → Int32) : Nat → Int32 :=
  @ite _ wb (Classical.propDecidable _) (nLeaves (hiM (gW s (F (fq s r i + 1)) (tkn F s r i) (F (fq s r i + 4))) F) s r i (szq F s r - 1))
    (if F (fq s r i + 2) + nI 1 < F 4 then nTry F (fq s r i) else nLeaves (hiM (gL s) (nTry F (fq s r i))) s r i (szq F s r - 1))
def kpt (F : Nat → Int32) (s r i : Nat) (wb : Prop) : Prop := ¬ wb ∧ F (fq s r i + 2) + nI 1 < F 4
theorem opx_lo (hs : s < 6) (hr : r < 4) {wb : Prop} (hm : szq F s r - 1 < 8) (hk : k < 147 ∨ (147 ≤ k ∧ k < 1131 ∧ k ≠ 147 + (4 * s + r) ∧ (k < 171 + 40 * (4 * s + r) ∨ 171 + 40 * (4 * s + r) + 40 ≤ k))) (hi : i < 8) : opx s r i wb F k = F k := by
  unfold opx
  have e : ∀ (g : Nat → Int32 → Int32) (H : Nat → Int32), gId g → nLeaves (hiM g H) s r i (szq F s r - 1) k = H k := fun g H hg => by
    rw [nlv_at, if_neg (by omega), if_neg (by omega), hiM_n hg (by omega)]
  by_cases h1 : wb
  · rw [if_pos h1, e _ _ gW_id]
  · rw [if_neg h1]
    by_cases h2 : F (fq s r i + 2) + nI 1 < F 4
    · rw [if_pos h2, nty_at, if_neg (by unfold fq; omega)]
    · rw [if_neg h2, e _ _ gL_id, nty_at, if_neg (by unfold fq; omega)]
/-- a frame ahead of it stays as it is -/
theorem opx_fr (hs : s < 6) (hr : r < 4) {wb : Prop} (hij : i < j) {f : Nat} (hf : f < 5) (hj : j < 8) : opx s r j wb F (fq s r i + f) = F (fq s r i + f) := by
  unfold opx fq
  by_cases h1 : wb
  · rw [if_pos h1, nlv_at, if_neg (by omega), if_neg (by omega), hiM_n gW_id (by omega)]
  · rw [if_neg h1]
    by_cases h2 : F (171 + 5 * (8 * (4 * s + r) + j) + 2) + nI 1 < F 4
    · rw [if_pos h2, nty_at, if_neg (by omega)]
    · rw [if_neg h2, nlv_at, if_neg (by omega), if_neg (by omega), hiM_n gL_id (by omega), nty_at, if_neg (by omega)]
theorem opx_kept (hs : s < 6) (hr : r < 4) {wb : Prop} (h : kpt F s r i wb) : opx s r i wb F = nTry F (fq s r i) := by
  unfold opx
  rw [if_neg h.1, if_pos h.2]
theorem opx_sz (hs : s < 6) (hr : r < 4) {wb : Prop} (hi : i < 8) (hm : szq F s r - 1 < 8) : szq (opx s r i wb F) s r = szq F s r - @ite _ (kpt F s r i wb) (Classical.propDecidable _) 0 1 := by
  by_cases hk : kpt F s r i wb
  · rw [if_pos hk, opx_kept hs hr hk]
    unfold szq nTry fq
    rw [upd_n (by omega)]
    rfl
  · rw [if_neg hk]
    have e : ∀ H : Nat → Int32, szq (nLeaves H s r i (szq F s r - 1)) s r = szq F s r - 1 := fun H => by
      show (nLeaves H s r i (szq F s r - 1) (147 + (4 * s + r))).toNatClampNeg = _
      rw [nlv_at, if_neg (by omega), if_pos rfl, nI_clamp (by omega)]
    unfold opx
    by_cases h1 : wb
    · rw [if_pos h1, e]
    · rw [if_neg h1, if_neg (fun g => hk ⟨h1, g⟩), e]
/-- frames behind it move down, or stay -/
theorem opx_next (hs : s < 6) (hr : r < 4) {wb : Prop} (hij : i < j) (hj : j < szq F s r) (hm : szq F s r ≤ 8) {f : Nat} (hf : f < 5) : opx s r i wb F (fq s r (j - @ite _ (kpt F s r i wb) (Classical.propDecidable _) 0 1) + f) = F (fq s r j + f) := by
  by_cases hk : kpt F s r i wb
  · rw [if_pos hk, opx_kept hs hr hk, nty_at, if_neg (by unfold fq; omega)]
    rfl
  · rw [if_neg hk]
    have e : ∀ H : Nat → Int32, nLeaves H s r i (szq F s r - 1) (fq s r (j - 1) + f) = H (fq s r j + f) := fun H => by
      have e1 : fq s r (j - 1) + f + 5 = fq s r j + f := by unfold fq; omega
      rw [nlv_at, if_pos (by unfold fq; omega), e1, if_neg (by unfold fq; omega)]
    unfold opx
    by_cases h1 : wb
    · rw [if_pos h1, e, hiM_n gW_id (by unfold fq; omega)]
    · rw [if_neg h1, if_neg (fun g => hk ⟨h1, g⟩), e, hiM_n gL_id (by unfold fq; omega), nty_at, if_neg (by unfold fq; omega)]
/-- the same but for what lies behind a queue's frames -/
def Gq (s r : Nat) (F G : Nat → Int32) : Prop := (∀ k, (k < 171 + 40 * (4 * s + r) ∨ 171 + 40 * (4 * s + r) + 40 ≤ k) → F k = G k) ∧ ∀ k, k < 5 * szq F s r → F (171 + 40 * (4 * s + r) + k) = G (171 + 40 * (4 * s + r) + k)
theorem Gq.rfl' : Gq s r F F := ⟨fun _ _ => rfl, fun _ _ => rfl⟩
theorem Gq.sz (h : Gq s r F G) (hs : s < 6) (hr : r < 4) : szq F s r = szq G s r := by
  unfold szq
  rw [h.1 _ (by omega)]
theorem Gq.tr (h : Gq s r F G) (h2 : Gq s r G N) (hs : s < 6) (hr : r < 4) : Gq s r F N := ⟨fun k hk => (h.1 k hk).trans (h2.1 k hk), fun k hk => (h.2 k hk).trans (h2.2 k (by rw [← h.sz hs hr]; exact hk))⟩
theorem Gq.hi {g : Nat → Int32 → Int32} (h : Gq s r F G) (hg : gId g) (hs : s < 6) (hr : r < 4) : Gq s r (hiM g F) (hiM g G) := by
  have hz : szq (hiM g F) s r = szq F s r := by unfold szq; rw [hiM_n hg (by omega)]
  refine ⟨fun k hk => ?_, fun k hk => ?_⟩
  · unfold hiM; rw [h.1 k hk]
  · rw [hz] at hk
    unfold hiM
    rw [h.2 k hk]
theorem szq_lv (hs : s < 6) (hr : r < 4) (hn : n < 8) : szq (nLeaves F s r i n) s r = n := by
  show (nLeaves F s r i n (147 + (4 * s + r))).toNatClampNeg = n
  rw [nlv_at, if_neg (by omega), if_pos rfl, nI_clamp (by omega)]
theorem szq_ty {f : Nat} (hr : r < 4) (hs : s < 6) (hf : 171 ≤ f) : szq (nTry F f) s r = szq F s r := by
  unfold szq
  rw [nty_at, if_neg (by omega)]
theorem szq_hi {g : Nat → Int32 → Int32} (hg : gId g) (hs : s < 6) (hr : r < 4) : szq (hiM g F) s r = szq F s r := by unfold szq; rw [hiM_n hg (by omega)]
theorem Gq.lv (h : Gq s r F G) (hs : s < 6) (hr : r < 4) (hn : n < 8) (hz : n < szq F s r) : Gq s r (nLeaves F s r i n) (nLeaves G s r i n) := by
  refine ⟨fun k hk => ?_, fun k hk => ?_⟩
  · have h0 : ¬ (171 + 5 * (8 * (4 * s + r) + i) ≤ k ∧ k < 171 + 5 * (8 * (4 * s + r) + n)) := by omega
    rw [nlv_at, nlv_at, if_neg h0, if_neg h0, h.1 k hk]
  · rw [szq_lv hs hr hn] at hk
    rw [nlv_at, nlv_at, if_neg (c := 171 + 40 * (4 * s + r) + k = 147 + (4 * s + r)) (by omega), if_neg (c := 171 + 40 * (4 * s + r) + k = 147 + (4 * s + r)) (by omega), if_neg (c := 171 + 40 * (4 * s + r) + k + 5 = 147 + (4 * s + r)) (by omega), if_neg (c := 171 + 40 * (4 * s + r) + k + 5 = 147 + (4 * s + r)) (by omega)]
    rw [h.2 k (by omega), show 171 + 40 * (4 * s + r) + k + 5 = 171 + 40 * (4 * s + r) + (k + 5) from by omega, h.2 (k + 5) (by omega)]
theorem Gq.ty (h : Gq s r F G) (hs : s < 6) (hr : r < 4) (hi : i < szq F s r) : Gq s r (nTry F (171 + 5 * (8 * (4 * s + r) + i))) (nTry G (171 + 5 * (8 * (4 * s + r) + i))) := by
  have e2 := h.2 (5 * i + 2) (by omega)
  rw [show 171 + 40 * (4 * s + r) + (5 * i + 2) = 171 + 5 * (8 * (4 * s + r) + i) + 2 from by omega] at e2
  refine ⟨fun k hk => ?_, fun k hk => ?_⟩
  · rw [nty_at, nty_at, e2, h.1 k hk]
  · rw [szq_ty hr hs (by omega)] at hk
    rw [nty_at, nty_at, e2, h.2 k hk]
theorem gLL (hs : s < 6) (hr : r < 4) (hn : n < 8) (hij : i < j) (hj : j ≤ n) : Gq s r (nLeaves (nLeaves F s r j n) s r i (n - 1)) (nLeaves (nLeaves F s r i n) s r (j - 1) (n - 1)) :=
  ⟨fun k hk => LL hs hr hn hij hj k (by omega), fun k hk => LL hs hr hn hij hj _ (by rw [szq_lv hs hr (by omega)] at hk; omega)⟩
theorem gLT (hs : s < 6) (hr : r < 4) (hn : n < 8) (hij : i < j) (hj : j ≤ n) : Gq s r (nLeaves (nTry F (171 + 5 * (8 * (4 * s + r) + j))) s r i n) (nTry (nLeaves F s r i n) (171 + 5 * (8 * (4 * s + r) + (j - 1)))) :=
  ⟨fun k hk => LT hs hr hn hij hj k (by omega), fun k hk => LT hs hr hn hij hj _ (by rw [szq_lv hs hr (by omega)] at hk; omega)⟩
theorem opx_W {wb : Prop} (hs : s < 6) (hr : r < 4) (hm : szq F s r - 1 < 8) (h : wb) : opx s r i wb F = hiM (gW s (F (fq s r i + 1)) (tkn F s r i) (F (fq s r i + 4))) (nLeaves F s r i (szq F s r - 1)) := by
  unfold opx
  rw [if_pos h, lv_hi gW_id hs hr hm]
theorem opx_L {wb : Prop} (hs : s < 6) (hr : r < 4) (hm : szq F s r - 1 < 8) (h : ¬ wb) (h2 : ¬ F (fq s r i + 2) + nI 1 < F 4) : opx s r i wb F = hiM (gL s) (nLeaves (nTry F (171 + 5 * (8 * (4 * s + r) + i))) s r i (szq F s r - 1)) := by
  unfold opx
  rw [if_neg h, if_neg h2, lv_hi gL_id hs hr hm]
  rfl
theorem opx_K {wb : Prop} (h : ¬ wb) (h2 : F (fq s r i + 2) + nI 1 < F 4) : opx s r i wb F = nTry F (171 + 5 * (8 * (4 * s + r) + i)) := by
  unfold opx
  rw [if_neg h, if_pos h2]
  rfl
theorem Gq.op {wb : Prop} (h : Gq s r F G) (hs : s < 6) (hr : r < 4) (hi : i < szq F s r) (hm : szq F s r ≤ 8) : Gq s r (opx s r i wb F) (opx s r i wb G) := by
  have ez := h.sz hs hr
  have ef : ∀ f, f < 5 → F (fq s r i + f) = G (fq s r i + f) := fun f hf => by
    have := h.2 (5 * i + f) (by omega)
    rw [show 171 + 40 * (4 * s + r) + (5 * i + f) = fq s r i + f from by unfold fq; omega] at this
    exact this
  have e4 : F 4 = G 4 := h.1 _ (by omega)
  have e1 : F 1 = G 1 := h.1 _ (by omega)
  have et : tkn F s r i = tkn G s r i := by unfold tkn; rw [e1, ef 3 (by omega)]
  by_cases h1 : wb
  · rw [opx_W hs hr (by omega) h1, opx_W hs hr (by omega) h1, ef 1 (by omega), ef 4 (by omega), et, ← ez]
    exact (h.lv hs hr (by omega) (by omega)).hi gW_id hs hr
  · by_cases h2 : F (fq s r i + 2) + nI 1 < F 4
    · rw [opx_K h1 h2, opx_K h1 (by rw [← ef 2 (by omega), ← e4]; exact h2)]
      exact h.ty hs hr hi
    · rw [opx_L hs hr (by omega) h1 h2, opx_L hs hr (by omega) h1 (by rw [← ef 2 (by omega), ← e4]; exact h2), ← ez]
      exact ((h.ty hs hr hi).lv hs hr (by omega) (by rw [szq_ty hr hs (by omega)]; omega)).hi gL_id hs hr
/-- two frames, in either order -/
theorem op2 {wi wj : Prop} (hs : s < 6) (hr : r < 4) (hij : i < j) (hj : j < szq F s r) (hm : szq F s r ≤ 8) : Gq s r (opx s r i wi (opx s r j wj F)) (opx s r (j - @ite _ (kpt F s r i wi) (Classical.propDecidable _) 0 1) wj (opx s r i wi F)) := by
  obtain ⟨n, hn⟩ : ∃ n, szq F s r = n + 1 := ⟨szq F s r - 1, by omega⟩
  have hn8 : n < 8 := by omega
  have hjn : j ≤ n := by omega
  have hm8 : szq F s r - 1 < 8 := by omega
  have zj := opx_sz (F := F) (i := j) (wb := wj) hs hr (by omega) hm8
  have zi := opx_sz (F := F) (i := i) (wb := wi) hs hr (by omega) hm8
  have m1 : ∀ q : Nat, q ≤ 1 → n + 1 - q - 1 < 8 := fun q _ => by omega
  have zj8 : szq (opx s r j wj F) s r - 1 < 8 := by rw [zj, hn]; split <;> omega
  have zi8 : szq (opx s r i wi F) s r - 1 < 8 := by rw [zi, hn]; split <;> omega
  -- what is read of i behind j, and of j behind i
  have fi : ∀ f, f < 5 → opx s r j wj F (fq s r i + f) = F (fq s r i + f) := fun f hf => opx_fr hs hr hij hf (by omega)
  have j4 : opx s r j wj F 4 = F 4 := opx_lo hs hr hm8 (by omega) (by omega)
  have j1 : opx s r j wj F 1 = F 1 := opx_lo hs hr hm8 (by omega) (by omega)
  have i4 : opx s r i wi F 4 = F 4 := opx_lo hs hr hm8 (by omega) (by omega)
  have i1 : opx s r i wi F 1 = F 1 := opx_lo hs hr hm8 (by omega) (by omega)
  have fj : ∀ f, f < 5 → opx s r i wi F (fq s r (j - @ite _ (kpt F s r i wi) (Classical.propDecidable _) 0 1) + f) = F (fq s r j + f) := fun f hf => opx_next hs hr hij hj hm hf
  have ti : tkn (opx s r j wj F) s r i = tkn F s r i := by unfold tkn; rw [j1, fi 3 (by omega)]
  have tj : tkn (opx s r i wi F) s r (j - @ite _ (kpt F s r i wi) (Classical.propDecidable _) 0 1) = tkn F s r j := by unfold tkn; rw [i1, fj 3 (by omega)]
  by_cases a1 : wi
  · have ki : ¬ kpt F s r i wi := fun g => g.1 a1
    rw [if_neg ki] at fj tj zi ⊢
    have Ai := opx_W (F := opx s r j wj F) (i := i) (wb := wi) hs hr zj8 a1
    rw [fi 1 (by omega), fi 4 (by omega), ti] at Ai
    by_cases b1 : wj
    · have kj : ¬ kpt F s r j wj := fun g => g.1 b1
      rw [if_neg kj, hn] at zj
      rw [hn] at zi
      have Bj := opx_W (F := opx s r i wi F) (i := j - 1) (wb := wj) hs hr zi8 b1
      rw [fj 1 (by omega), fj 4 (by omega), tj] at Bj
      rw [Ai, Bj, zj, zi, opx_W (F := F) hs hr hm8 b1, opx_W (F := F) hs hr hm8 a1, hn]
      simp only [Nat.add_sub_cancel]
      rw [lv_hi gW_id hs hr (by omega), lv_hi gW_id hs hr (by omega), hiM_c gWW]
      exact ((gLL hs hr hn8 hij hjn).hi gW_id hs hr).hi gW_id hs hr
    · by_cases b2 : F (fq s r j + 2) + nI 1 < F 4
      · have kj : kpt F s r j wj := ⟨b1, b2⟩
        rw [if_pos kj, hn] at zj
        rw [hn] at zi
        rw [Ai, zj, opx_K (F := opx s r i wi F) b1 (by rw [fj 2 (by omega), i4]; exact b2), opx_K (F := F) b1 b2, opx_W (F := F) hs hr hm8 a1, hn]
        simp only [Nat.add_sub_cancel, Nat.sub_zero]
        rw [ty_hi gW_id (by omega)]
        exact (gLT hs hr hn8 hij hjn).hi gW_id hs hr
      · have kj : ¬ kpt F s r j wj := fun g => b2 g.2
        rw [if_neg kj, hn] at zj
        rw [hn] at zi
        rw [Ai, zj, opx_L (F := opx s r i wi F) hs hr zi8 b1 (by rw [fj 2 (by omega), i4]; exact b2), zi, opx_L (F := F) hs hr hm8 b1 b2, opx_W (F := F) hs hr hm8 a1, hn]
        simp only [Nat.add_sub_cancel]
        rw [lv_hi gL_id hs hr (by omega), ty_hi gW_id (by omega), lv_hi gW_id hs hr (by omega), hiM_c (gWL hs)]
        refine Gq.hi (Gq.hi ?_ gW_id hs hr) gL_id hs hr
        exact (gLL hs hr hn8 hij hjn).tr ((gLT hs hr hn8 hij hjn).lv hs hr (by omega) (by rw [szq_lv hs hr hn8]; omega)) hs hr
  · by_cases a2 : F (fq s r i + 2) + nI 1 < F 4
    · have ki : kpt F s r i wi := ⟨a1, a2⟩
      rw [if_pos ki] at fj tj zi ⊢
      simp only [Nat.sub_zero] at fj tj zi ⊢
      have Ai := opx_K (F := opx s r j wj F) (s := s) (r := r) (i := i) (wb := wi) a1 (by rw [fi 2 (by omega), j4]; exact a2)
      by_cases b1 : wj
      · have Bj := opx_W (F := opx s r i wi F) (i := j) (wb := wj) hs hr zi8 b1
        rw [fj 1 (by omega), fj 4 (by omega), tj] at Bj
        rw [Ai, Bj, zi, opx_W (F := F) hs hr hm8 b1, opx_K (F := F) a1 a2, hn]
        simp only [Nat.add_sub_cancel]
        rw [ty_hi gW_id (by omega), TL hs hr hn8 hij hjn]
        exact Gq.rfl'
      · by_cases b2 : F (fq s r j + 2) + nI 1 < F 4
        · rw [Ai, opx_K (F := opx s r i wi F) b1 (by rw [fj 2 (by omega), i4]; exact b2), opx_K (F := F) b1 b2, opx_K (F := F) a1 a2, TT hij]
          exact Gq.rfl'
        · rw [Ai, opx_L (F := opx s r i wi F) hs hr zi8 b1 (by rw [fj 2 (by omega), i4]; exact b2), zi, opx_L (F := F) hs hr hm8 b1 b2, opx_K (F := F) a1 a2, hn]
          simp only [Nat.add_sub_cancel]
          rw [ty_hi gL_id (by omega), TL hs hr hn8 hij hjn, TT hij]
          exact Gq.rfl'
    · have ki : ¬ kpt F s r i wi := fun g => a2 g.2
      rw [if_neg ki] at fj tj zi ⊢
      have Ai := opx_L (F := opx s r j wj F) (i := i) (wb := wi) hs hr zj8 a1 (by rw [fi 2 (by omega), j4]; exact a2)
      by_cases b1 : wj
      · have kj : ¬ kpt F s r j wj := fun g => g.1 b1
        rw [if_neg kj, hn] at zj
        rw [hn] at zi
        have Bj := opx_W (F := opx s r i wi F) (i := j - 1) (wb := wj) hs hr zi8 b1
        rw [fj 1 (by omega), fj 4 (by omega), tj] at Bj
        rw [Ai, Bj, zj, zi, opx_W (F := F) hs hr hm8 b1, opx_L (F := F) hs hr hm8 a1 a2, hn]
        simp only [Nat.add_sub_cancel]
        rw [ty_hi gW_id (by omega), lv_hi gW_id hs hr (by omega), lv_hi gL_id hs hr (by omega), hiM_c (fun k v => (gWL hs k v).symm), TL hs hr hn8 hij hjn]
        exact ((gLL hs hr hn8 hij hjn).hi gL_id hs hr).hi gW_id hs hr
      · by_cases b2 : F (fq s r j + 2) + nI 1 < F 4
        · have kj : kpt F s r j wj := ⟨b1, b2⟩
          rw [if_pos kj, hn] at zj
          rw [hn] at zi
          rw [Ai, zj, opx_K (F := opx s r i wi F) b1 (by rw [fj 2 (by omega), i4]; exact b2), opx_K (F := F) b1 b2, opx_L (F := F) hs hr hm8 a1 a2, hn]
          simp only [Nat.add_sub_cancel, Nat.sub_zero]
          rw [ty_hi gL_id (by omega), TT hij]
          exact (gLT hs hr hn8 hij hjn).hi gL_id hs hr
        · have kj : ¬ kpt F s r j wj := fun g => b2 g.2
          rw [if_neg kj, hn] at zj
          rw [hn] at zi
          rw [Ai, zj, opx_L (F := opx s r i wi F) hs hr zi8 b1 (by rw [fj 2 (by omega), i4]; exact b2), zi, opx_L (F := F) hs hr hm8 b1 b2, opx_L (F := F) hs hr hm8 a1 a2, hn]
          simp only [Nat.add_sub_cancel]
          rw [ty_hi gL_id (by omega), lv_hi gL_id hs hr (by omega), ty_hi gL_id (by omega), lv_hi gL_id hs hr (by omega), TL hs hr hn8 hij hjn, TT hij]
          refine Gq.hi (Gq.hi ?_ gL_id hs hr) gL_id hs hr
          exact (gLL hs hr hn8 hij hjn).tr ((gLT hs hr hn8 hij hjn).lv hs hr (by omega) (by rw [szq_lv hs hr hn8]; omega)) hs hr
end DV

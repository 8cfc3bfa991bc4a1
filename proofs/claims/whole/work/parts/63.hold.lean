/-! The whole store: who holds which row; what is told -/
section HD
variable {M K s r i n m k a b : Nat} {σ τ σ' : mS} {C D N O W : Nat → Int32} {o : mO} {v w : Int32}
/-- air a's numbers are C's -/
def Hd (a : Nat) (σ : mS) (C : Nat → Int32) : Prop := wC a σ C = σ
theorem Hd.mk' : Hd a (wC a σ C) C := wC_wC
theorem Hd.rd (h : Hd a σ C) (hx : ixA a o i = some k) : σ.1 o i = C k := (congrArg (fun t : mS => t.1 o i) h).symm.trans (wC_rd hx)
theorem hd_ex (a : Nat) (σ : mS) : ∃ C, Hd a σ C := by
  refine ⟨fun m => @dite _ (∃ q : mO × Nat, ixA a q.1 q.2 = some m) (Classical.propDecidable _) (fun h => σ.1 (Classical.choose h).1 (Classical.choose h).2) (fun _ => 0), Prod.ext ?_ rfl⟩
  funext o i
  show (match ixA a o i with | some k => _ | none => σ.1 o i) = σ.1 o i
  cases hq : ixA a o i with
  | none => rfl
  | some k =>
    have hx : ∃ q : mO × Nat, ixA a q.1 q.2 = some k := ⟨(o, i), hq⟩
    show @dite _ (∃ q : mO × Nat, ixA a q.1 q.2 = some k) (Classical.propDecidable _) _ _ = _
    rw [dif_pos hx]
    have h2 := ixA_inj (Classical.choose_spec hx) hq
    rw [h2.1, h2.2]
theorem ixA_a (h : ixA a o i = some k) : o.2.1 = a := by
  unfold ixA at h
  split at h
  · assumption
  · cases h
theorem wC_comm (hab : a ≠ b) : wC a (wC b σ D) C = wC b (wC a σ C) D := by
  refine Prod.ext ?_ rfl
  funext o i
  simp only [wC]
  cases h1 : ixA a o i with
  | none => cases h2 : ixA b o i <;> rfl
  | some k1 =>
    cases h2 : ixA b o i with
    | none => rfl
    | some k2 => exact absurd ((ixA_a h1).symm.trans (ixA_a h2)) hab
theorem Hd.oth (h : Hd a σ C) (hab : a ≠ b) : Hd a (wC b σ D) C := by
  unfold Hd
  rw [wC_comm hab, h]
/-- kinds that an air is made of -/
def aK (k : Nat) : Prop := k < 4 ∨ k = 6 ∨ k = 8 ∨ k = 11 ∨ (14 ≤ k ∧ k < 20)
theorem ixA_k (h : ixA a o i = some k) : aK o.1 := by
  obtain ⟨k', b, s, r⟩ := o
  unfold ixA at h
  dsimp only at h
  split at h
  · unfold ixK at h
    unfold aK
    dsimp only
    split at h <;> first | omega | (cases h; done)
  · cases h
theorem wC_same (hk : ¬ (aK o.1 ∧ o.2.1 = a)) : (wC a σ C).1 o = σ.1 o := by
  funext i
  cases hq : ixA a o i with
  | none => exact wC_ot hq
  | some k => exact absurd ⟨ixA_k hq, ixA_a hq⟩ hk
theorem Hd.mono (h : Hd a σ C) (e : ∀ o : mO, o.2.1 = a → aK o.1 → σ'.1 o = σ.1 o) : Hd a σ' C := by
  refine Prod.ext ?_ rfl
  funext o i
  cases hq : ixA a o i with
  | none => exact wC_ot hq
  | some k =>
    rw [wC_rd hq, e o (ixA_a hq) (ixA_k hq)]
    exact (h.rd hq).symm
/-- the reference's numbers are what they are -/
theorem wM_self (σ : mS) : wM σ (σ.1 (30, 0, 0, 0)) (σ.1 (34, 0, 0, 0)) (σ.1 (35, 0, 0, 0)) (σ.1 (10, 0, 0, 0) 12) = σ := by
  refine Prod.ext ?_ rfl
  funext o i
  simp only [wM]
  split
  · rename_i h; rw [h]
  · split
    · rename_i h; rw [h]
    · split
      · rename_i h; rw [h]
      · split
        · rename_i h; rw [h.1, h.2]
        · rfl
theorem wM_same {bb : Int32} (h : o.1 ≠ 30 ∧ o.1 ≠ 34 ∧ o.1 ≠ 35 ∧ o.1 ≠ 10) : (wM σ N O W bb).1 o = σ.1 o := by
  funext i
  simp only [wM]
  rw [if_neg (fun e => h.1 (by rw [e])), if_neg (fun e => h.2.1 (by rw [e])), if_neg (fun e => h.2.2.1 (by rw [e])), if_neg (fun e => h.2.2.2 (by rw [e.1]))]
theorem wM_10 {bb : Int32} (h : i ≠ 12) : (wM σ N O W bb).1 (10, 0, 0, 0) i = σ.1 (10, 0, 0, 0) i := by
  simp only [wM]
  rw [if_neg (by decide), if_neg (by decide), if_neg (by decide), if_neg (fun e => h e.2)]
theorem wM_30 {bb : Int32} : (wM σ N O W bb).1 (30, 0, 0, 0) = N := by
  funext i
  exact wM_N
/-- numbers told: the class's, the reference's -/
def tC (σ : mS) (l : List Int64) : mS := (fun o i => if o = (4, 0, 0, 0) ∧ i = 1 then nI l.length else σ.1 o i, fun o i => if o = (24, 0, 0, 0) then (l[i]?).getD (σ.2 o i) else σ.2 o i)
def tM (σ : mS) (l : List Int64) : mS := (fun o i => if o = (10, 0, 0, 0) ∧ i = 4 then nI l.length else σ.1 o i, fun o i => if o = (32, 0, 0, 0) then (l[i]?).getD (σ.2 o i) else σ.2 o i)
theorem tC_len {l : List Int64} : (tC σ l).1 (4, 0, 0, 0) 1 = nI l.length := by
  show (if ((4, 0, 0, 0) : mO) = (4, 0, 0, 0) ∧ 1 = 1 then nI l.length else σ.1 (4, 0, 0, 0) 1) = nI l.length
  exact if_pos ⟨rfl, rfl⟩
theorem tM_len {l : List Int64} : (tM σ l).1 (10, 0, 0, 0) 4 = nI l.length := by
  show (if ((10, 0, 0, 0) : mO) = (10, 0, 0, 0) ∧ 4 = 4 then nI l.length else σ.1 (10, 0, 0, 0) 4) = nI l.length
  exact if_pos ⟨rfl, rfl⟩
theorem getD_snoc (l : List Int64) (x : Int64) (i : Nat) (d : Int64) : ((l ++ [x])[i]?).getD d = if i = l.length then x else (l[i]?).getD d := by
  by_cases h : i < l.length
  · rw [List.getElem?_append_left h, if_neg (by omega)]
  · rw [List.getElem?_append_right (by omega)]
    by_cases h2 : i = l.length
    · rw [if_pos h2, h2, Nat.sub_self]
      rfl
    · rw [if_neg h2, List.getElem?_eq_none (l := l) (by omega)]
      obtain ⟨d', hd⟩ : ∃ d', i - l.length = d' + 1 := ⟨i - l.length - 1, by omega⟩
      rw [hd]
      rfl
theorem k_forget : e_X4_forget σ = some (some none, tC σ []) := by
  rw [q_X4_forget]
  show some (some none, st σ (4, 0, 0, 0) 1 (nI 0)) = _
  congr 2
  refine Prod.ext ?_ ?_
  · funext o i
    rfl
  · funext o i
    show σ.2 o i = if o = (24, 0, 0, 0) then (([] : List Int64)[i]?).getD (σ.2 o i) else σ.2 o i
    split <;> rfl
theorem k_add {x : Int64} {l : List Int64} (h : l.length < 16) : e_X4_add x (tC σ l) = some (some none, tC σ (l ++ [x])) := by
  have e1 : (tC σ l).1 (4, 0, 0, 0) 1 = nI l.length := tC_len
  rw [q_X4_add, e1, if_pos (nI_lt h (by omega)), if_neg (nI_in (by omega) (by omega)), nI_clamp (by omega)]
  show some (some none, st (stL (tC σ l) (24, 0, 0, 0) l.length x) (4, 0, 0, 0) 1 ((tC σ l).1 (4, 0, 0, 0) 1 + nI 1)) = _
  rw [e1]
  congr 2
  refine Prod.ext ?_ ?_
  · funext o i
    show (if o = (4, 0, 0, 0) ∧ i = 1 then nI l.length + nI 1 else (tC σ l).1 o i) = if o = (4, 0, 0, 0) ∧ i = 1 then nI (l ++ [x]).length else σ.1 o i
    by_cases h1 : o = (4, 0, 0, 0) ∧ i = 1
    · rw [if_pos h1, if_pos h1, List.length_append]
      exact nI_add _ _
    · rw [if_neg h1, if_neg h1]
      exact if_neg h1
  · funext o i
    show (if o = (24, 0, 0, 0) ∧ i = l.length then x else (if o = (24, 0, 0, 0) then (l[i]?).getD (σ.2 o i) else σ.2 o i)) = (if o = (24, 0, 0, 0) then ((l ++ [x])[i]?).getD (σ.2 o i) else σ.2 o i)
    by_cases h1 : o = (24, 0, 0, 0)
    · rw [if_pos h1, if_pos h1, getD_snoc]
      by_cases h2 : i = l.length
      · rw [if_pos ⟨h1, h2⟩, if_pos h2]
      · rw [if_neg (fun e => h2 e.2), if_neg h2]
    · rw [if_neg (fun e => h1 e.1), if_neg h1, if_neg h1]
theorem k_one {x : Int64} : e_X4_tellOne x σ = some (some none, tC σ [x]) := by
  rw [q_X4_tellOne, k_forget]
  show bdV (e_X4_add x (tC σ [])) _ = _
  rw [k_add (Nat.le_of_ble_eq_true rfl)]
  rfl
theorem k_two {x y : Int64} : e_X4_tellTwo x y σ = some (some none, tC σ [x, y]) := by
  rw [q_X4_tellTwo, k_one]
  show bdV (e_X4_add y (tC σ [x])) _ = _
  rw [k_add (Nat.le_of_ble_eq_true rfl)]
  rfl
theorem k_three {x y z : Int64} : e_X4_tellThree x y z σ = some (some none, tC σ [x, y, z]) := by
  rw [q_X4_tellThree, k_two]
  show bdV (e_X4_add z (tC σ [x, y])) _ = _
  rw [k_add (Nat.le_of_ble_eq_true rfl)]
  rfl
theorem r_empty : st σ (10, 0, 0, 0) 4 (nI 0) = tM σ [] := by
  refine Prod.ext ?_ ?_
  · funext o i
    rfl
  · funext o i
    show σ.2 o i = if o = (32, 0, 0, 0) then (([] : List Int64)[i]?).getD (σ.2 o i) else σ.2 o i
    split <;> rfl
theorem r_tell {x : Int64} {l : List Int64} (h : l.length < 40) : e_X10_tell x (tM σ l) = some (some none, tM σ (l ++ [x])) := by
  have e1 : (tM σ l).1 (10, 0, 0, 0) 4 = nI l.length := tM_len
  rw [q_X10_tell, e1, if_neg (nI_in (by omega) (by omega)), nI_clamp (by omega)]
  show some (some none, st (stL (tM σ l) (32, 0, 0, 0) l.length x) (10, 0, 0, 0) 4 ((tM σ l).1 (10, 0, 0, 0) 4 + nI 1)) = _
  rw [e1]
  congr 2
  refine Prod.ext ?_ ?_
  · funext o i
    show (if o = (10, 0, 0, 0) ∧ i = 4 then nI l.length + nI 1 else (tM σ l).1 o i) = if o = (10, 0, 0, 0) ∧ i = 4 then nI (l ++ [x]).length else σ.1 o i
    by_cases h1 : o = (10, 0, 0, 0) ∧ i = 4
    · rw [if_pos h1, if_pos h1, List.length_append]
      exact nI_add _ _
    · rw [if_neg h1, if_neg h1]
      exact if_neg h1
  · funext o i
    show (if o = (32, 0, 0, 0) ∧ i = l.length then x else (if o = (32, 0, 0, 0) then (l[i]?).getD (σ.2 o i) else σ.2 o i)) = (if o = (32, 0, 0, 0) then ((l ++ [x])[i]?).getD (σ.2 o i) else σ.2 o i)
    by_cases h1 : o = (32, 0, 0, 0)
    · rw [if_pos h1, if_pos h1, getD_snoc]
      by_cases h2 : i = l.length
      · rw [if_pos ⟨h1, h2⟩, if_pos h2]
      · rw [if_neg (fun e => h2 e.2), if_neg h2]
    · rw [if_neg (fun e => h1 e.1), if_neg h1, if_neg h1]
theorem tC_same {l : List Int64} (h : o.1 ≠ 4) : (tC σ l).1 o = σ.1 o := by
  funext i
  simp only [tC]
  rw [if_neg (fun e => h (by rw [e.1]))]
theorem tM_same {l : List Int64} (h : o.1 ≠ 10) : (tM σ l).1 o = σ.1 o := by
  funext i
  simp only [tM]
  rw [if_neg (fun e => h (by rw [e.1]))]
theorem tM_10 {l : List Int64} (h : i ≠ 4) : (tM σ l).1 (10, 0, 0, 0) i = σ.1 (10, 0, 0, 0) i := by
  simp only [tM]
  rw [if_neg (fun e => h e.2)]
end HD

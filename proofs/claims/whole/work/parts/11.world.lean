/-! The world that the small machine's store speaks of: all objects by name, at addresses that stay -/
def kAr (k : Nat) : Nat × Nat × Nat := match k with
  | 0 => (10, 1, 1) | 1 => (11, 1, 1) | 2 => (10, 6, 1) | 3 => (10, 6, 1) | 4 => (1, 1, 1) | 5 => (1, 1, 1) | 6 => (10, 6, 4) | 7 => (1, 1, 1) | 8 => (10, 6, 1) | 9 => (1, 1, 1) | 10 => (1, 1, 1)
  | 11 => (10, 1, 1) | 12 => (10, 1, 1) | 13 => (10, 6, 1) | 14 => (10, 6, 4) | 15 => (10, 6, 1) | 16 => (10, 6, 1) | 17 => (10, 6, 1) | 18 => (10, 6, 1) | 19 => (10, 6, 1)
  | 20 => (1, 1, 1) | 21 => (1, 1, 1) | 22 => (1, 1, 1) | 23 => (1, 1, 1) | 24 => (1, 1, 1) | 25 => (1, 1, 1)
  | 30 => (1, 1, 1) | 31 => (1, 1, 1) | 32 => (1, 1, 1) | 33 => (1, 1, 1) | 34 => (1, 1, 1) | 35 => (1, 1, 1) | 36 => (1, 1, 1) | 37 => (1, 1, 1) | 38 => (1, 1, 1) | 39 => (1, 1, 1) | 40 => (1, 1, 1) | 41 => (1, 1, 1) | 45 => (1, 1, 1)
  | _ => (0, 0, 0)
def okO (o : mO) : Prop := o.1 < 46 ∧ o.2.1 < (kAr o.1).1 ∧ o.2.2.1 < (kAr o.1).2.1 ∧ o.2.2.2 < (kAr o.1).2.2
def allO : List mO := (List.range 46).flatMap fun k => (List.range (kAr k).1).flatMap fun a => (List.range (kAr k).2.1).flatMap fun s => (List.range (kAr k).2.2).map fun r => (k, a, s, r)
theorem mem_allO (o : mO) : o ∈ allO ↔ okO o := by
  obtain ⟨k, a, s, r⟩ := o
  simp only [allO, okO, List.mem_flatMap, List.mem_map, List.mem_range]
  constructor
  · rintro ⟨k', hk, a', ha, s', hs, r', hr, e⟩
    cases e
    exact ⟨hk, ha, hs, hr⟩
  · rintro ⟨hk, ha, hs, hr⟩
    exact ⟨k, hk, a, ha, s, hs, r, hr, rfl⟩
def codeO (o : mO) : Nat := ((o.1 * 16 + o.2.1) * 8 + o.2.2.1) * 8 + o.2.2.2
def incL : List Nat → Bool
  | [] => true
  | a :: l => (match l with | [] => true | b :: _ => Nat.blt a b) && incL l
theorem incL_lt : ∀ (l : List Nat) (a : Nat), incL (a :: l) = true → ∀ b ∈ l, a < b
  | [], _, _, b, h => by cases h
  | c :: l, a, h, b, hb => by
    simp only [incL, Bool.and_eq_true] at h
    have h1 : a < c := by have := h.1; simpa using this
    rcases List.mem_cons.mp hb with rfl | hb
    · exact h1
    · exact Nat.lt_trans h1 (incL_lt l c (by simpa [incL] using h.2) b hb)
theorem incL_inj : ∀ (l : List Nat), incL l = true → ∀ (i j a : Nat), l[i]? = some a → l[j]? = some a → i = j
  | [], _, i, j, a, h, _ => by simp at h
  | c :: l, hl, i, j, a, h1, h2 => by
    have hlt := incL_lt l c hl
    have hl' : incL l = true := by simp only [incL, Bool.and_eq_true] at hl; exact hl.2
    cases i with
    | zero =>
      cases j with
      | zero => rfl
      | succ j =>
        simp only [List.getElem?_cons_zero, List.getElem?_cons_succ] at h1 h2
        cases h1
        exact absurd (hlt c (List.mem_of_getElem? h2)) (Nat.lt_irrefl _)
    | succ i =>
      cases j with
      | zero =>
        simp only [List.getElem?_cons_zero, List.getElem?_cons_succ] at h1 h2
        cases h2
        exact absurd (hlt c (List.mem_of_getElem? h1)) (Nat.lt_irrefl _)
      | succ j =>
        simp only [List.getElem?_cons_succ] at h1 h2
        rw [incL_inj l hl' i j a h1 h2]
theorem allO_inc : incL (allO.map codeO) = true := by decide +kernel
theorem allO_inj {i j : Nat} {o : mO} (h1 : allO[i]? = some o) (h2 : allO[j]? = some o) : i = j :=
  incL_inj _ allO_inc i j (codeO o) (by rw [List.getElem?_map, h1]; rfl) (by rw [List.getElem?_map, h2]; rfl)
section WD
variable (cy : Nat → ClassId) (ad : mO → Nat)
def fCell (σ : mS) (o : mO) (f : Nat) : Value := match kFld f o with
  | some o' => .ref (ad o')
  | none => .int (σ.1 o f)
def mCell (σ : mS) (o : mO) : va_E := bif Nat.blt o.1 11 then .inr (o.1, (List.range (fN o.1)).map (fCell ad σ o)) else match (kRow o.1).1 with
  | 4 => .inl (cy 4, (kRow o.1).2, .inr (.inl (σ.2 o)))
  | 5 => .inl (cy o.1, (kRow o.1).2, .inr (.inr (.inr (.inr (fun i => (kEl i o).map ad)))))
  | t => .inl (cy t, (kRow o.1).2, .inl (σ.1 o))
def wsAll (σ : mS) : va_W := allO.map fun o => (ad o, mCell cy ad σ o)
def mTys : List (ClassId × FieldType) := [(cy 1, .int), (cy 2, .byte), (cy 3, .boolean), (cy 4, .long), (cy 12, .object "SharedAir$Station"), (cy 13, .object "SharedAir$Queue"), (cy 20, .object "SharedAir$Air"), (cy 21, .object "SharedAir$Air")]
def mA : Nat → Prop := fun q => ∃ o, okO o ∧ q = ad o
def adInj : Prop := ∀ o o', okO o → okO o' → ad o = ad o' → o = o'
variable {cy ad}
theorem ws_at {o : mO} (h : okO o) : ∃ q0 : Nat, allO[q0]? = some o ∧ ∀ σ, (wsAll cy ad σ)[q0]? = some (ad o, mCell cy ad σ o) := by
  obtain ⟨q0, hq⟩ := List.getElem?_of_mem ((mem_allO o).mpr h)
  exact ⟨q0, hq, fun σ => by unfold wsAll; rw [List.getElem?_map, hq]; rfl⟩
theorem ws_set {σ σ' : mS} {o : mO} {q0 : Nat} {e : va_E} (h : allO[q0]? = some o) (he : e = mCell cy ad σ' o) (hs : ∀ o', o' ≠ o → mCell cy ad σ' o' = mCell cy ad σ o') : (wsAll cy ad σ).set q0 (ad o, e) = wsAll cy ad σ' := by
  subst he
  apply List.ext_getElem?
  intro k
  have hl : q0 < (wsAll cy ad σ).length := by
    unfold wsAll; rw [List.length_map]; exact (List.getElem?_eq_some_iff.mp h).1
  by_cases hk : k = q0
  · subst hk
    rw [List.getElem?_set_self hl]
    unfold wsAll
    rw [List.getElem?_map, h]
    rfl
  · rw [List.getElem?_set_ne (Ne.symm hk)]
    unfold wsAll
    rw [List.getElem?_map, List.getElem?_map]
    cases ho : allO[k]? with
    | none => rfl
    | some o' =>
      have hne : o' ≠ o := fun e => hk (allO_inj (e ▸ ho) h)
      show some (ad o', mCell cy ad σ o') = some (ad o', mCell cy ad σ' o')
      rw [hs o' hne]
theorem ws_D (hinj : adInj ad) (σ : mS) : va_D (mA ad) (wsAll cy ad σ) := by
  have key : ∀ (i : Nat) (p : Nat × va_E), (wsAll cy ad σ)[i]? = some p → ∃ o, allO[i]? = some o ∧ p.1 = ad o ∧ okO o := by
    intro i p hp
    unfold wsAll at hp
    rw [List.getElem?_map] at hp
    cases ho : allO[i]? with
    | none => rw [ho] at hp; cases hp
    | some o =>
      rw [ho] at hp
      cases hp
      exact ⟨o, rfl, rfl, (mem_allO o).mp (List.mem_of_getElem? ho)⟩
  refine ⟨fun i j p q hi hj hpq => ?_, fun k q hk => ?_⟩
  · obtain ⟨o, h1, h2, h3⟩ := key i p hi
    obtain ⟨o', h4, h5, h6⟩ := key j q hj
    have e : o = o' := hinj o o' h3 h6 (by rw [← h2, ← h5, hpq])
    subst e
    exact allO_inj h1 h4
  · obtain ⟨o, h1, h2, h3⟩ := key k q hk
    exact ⟨o, h3, h2⟩
theorem st_ne {σ : mS} {o o' : mO} {i : Nat} {v : Int32} (h : o' ≠ o) : (st σ o i v).1 o' = σ.1 o' := by
  funext j
  simp [st, h]
theorem st_2 {σ : mS} {o : mO} {i : Nat} {v : Int32} : (st σ o i v).2 = σ.2 := rfl
theorem st_self {σ : mS} {o : mO} {i : Nat} {v : Int32} : (st σ o i v).1 o = upd (σ.1 o) i v := by
  funext j
  simp [st, upd]
theorem stL_1 {σ : mS} {o : mO} {i : Nat} {v : Int64} : (stL σ o i v).1 = σ.1 := rfl
theorem stL_ne {σ : mS} {o o' : mO} {i : Nat} {v : Int64} (h : o' ≠ o) : (stL σ o i v).2 o' = σ.2 o' := by
  funext j
  simp [stL, h]
theorem stL_self {σ : mS} {o : mO} {i : Nat} {v : Int64} : (stL σ o i v).2 o = vp_updL (σ.2 o) i v := by
  funext j
  simp [stL, vp_updL]
theorem stC_ne {σ : mS} {o1 o2 o' : mO} {p1 p2 n : Nat} (h : o' ≠ o2) : (stC σ o1 p1 o2 p2 n).1 o' = σ.1 o' := by
  funext j
  simp [stC, h]
theorem stC_self {σ : mS} {o1 o2 : mO} {p1 p2 n : Nat} : (stC σ o1 p1 o2 p2 n).1 o2 = va_cpy (σ.1 o1) (σ.1 o2) p1 p2 n := by
  funext j
  simp [stC, va_cpy]
theorem mCell_ne1 {σ σ' : mS} {o' : mO} (h1 : σ'.1 o' = σ.1 o') (h2 : σ'.2 o' = σ.2 o') : mCell cy ad σ' o' = mCell cy ad σ o' := by
  have hf : fCell ad σ' o' = fCell ad σ o' := by
    funext f
    unfold fCell
    rw [h1]
  unfold mCell
  rw [hf, h1, h2]
end WD
/-! values, locals -/
def toV (ad : mO → Nat) : mV → Value
  | .inl x => .int x
  | .inr (.inl y) => .long y
  | .inr (.inr o) => .ref (ad o)
def okR (o : mO) : Prop := okO o ∨ o = (46, 0, 0, 0) ∨ o = (51, 0, 0, 0)
def okV : mV → Prop
  | .inr (.inr o) => okR o
  | _ => True
def lpairs (ad : mO → Nat) : Nat → List (Option mV) → List (Nat × Value)
  | _, [] => []
  | k, none :: L => lpairs ad (k + 1) L
  | k, some v :: L => (k, toV ad v) :: lpairs ad (k + 1) L
theorem lpairs_mem {ad : mO → Nat} : ∀ (L : List (Option mV)) (k : Nat) (q : Nat × Value), q ∈ lpairs ad k L ↔ ∃ i v, lget L i = some v ∧ q = (k + i, toV ad v)
  | [], k, q => by simp [lpairs, lget]
  | none :: L, k, q => by
    rw [lpairs, lpairs_mem L (k + 1) q]
    constructor
    · rintro ⟨i, v, h, rfl⟩
      exact ⟨i + 1, v, h, by rw [show k + 1 + i = k + (i + 1) from by omega]⟩
    · rintro ⟨i, v, h, rfl⟩
      cases i with
      | zero => cases h
      | succ i => exact ⟨i, v, h, by rw [show k + 1 + i = k + (i + 1) from by omega]⟩
  | some w :: L, k, q => by
    rw [lpairs, List.mem_cons, lpairs_mem L (k + 1) q]
    constructor
    · rintro (rfl | ⟨i, v, h, rfl⟩)
      · exact ⟨0, w, rfl, rfl⟩
      · exact ⟨i + 1, v, h, by rw [show k + 1 + i = k + (i + 1) from by omega]⟩
    · rintro ⟨i, v, h, rfl⟩
      cases i with
      | zero => cases h; exact Or.inl rfl
      | succ i => exact Or.inr ⟨i, v, h, by rw [show k + 1 + i = k + (i + 1) from by omega]⟩
def LR (ad : mO → Nat) (ls : Array Slot) (nL : Nat) (L : List (Option mV)) : Prop := lv_has ls nL (lpairs ad 0 L)
theorem LR.get {ad : mO → Nat} {ls : Array Slot} {nL : Nat} {L : List (Option mV)} (h : LR ad ls nL L) {i : Nat} {v : mV} (hv : lget L i = some v) : ls[i]? = some (.val (toV ad v)) :=
  h.2.2 (i, toV ad v) ((lpairs_mem L 0 _).mpr ⟨i, v, hv, by rw [Nat.zero_add]⟩)
theorem LR.of {ad : mO → Nat} {ls : Array Slot} {nL : Nat} {l : List (Nat × Value)} {L : List (Option mV)} (h : lv_has ls nL l) (hL : ∀ i v, lget L i = some v → (i, toV ad v) ∈ l) : LR ad ls nL L := by
  refine ⟨h.1, h.2.1, fun q hq => ?_⟩
  obtain ⟨i, v, hv, rfl⟩ := (lpairs_mem L 0 q).mp hq
  rw [Nat.zero_add]
  exact h.2.2 _ (hL i v hv)
theorem lget_set : ∀ (L : List (Option mV)) (i j : Nat) (w : Option mV), lget (lset L i w) j = if j = i ∧ i < L.length then w else lget L j
  | [], i, j, w => by simp [lset, lget]
  | v :: L, 0, 0, w => by simp [lset, lget]
  | v :: L, 0, j + 1, w => by simp [lset, lget]
  | v :: L, i + 1, 0, w => by simp [lset, lget]
  | v :: L, i + 1, j + 1, w => by
    simp only [lset, lget, lget_set L i j w, List.length_cons]
    simp
theorem lget_wipe {L : List (Option mV)} {i j : Nat} {v : mV} (h : lget (lwipe L i) j = some v) : lget L j = some v ∧ ¬ (j = i ∧ ∃ y, v = .inr (.inl y)) := by
  unfold lwipe at h
  split at h
  · rename_i y hy
    rw [lget_set] at h
    by_cases hj : j = i ∧ i < L.length
    · rw [if_pos hj] at h; cases h
    · rw [if_neg hj] at h
      refine ⟨h, fun q => ?_⟩
      obtain ⟨rfl, y', rfl⟩ := q
      have : ∀ (L : List (Option mV)) (i : Nat) (v : mV), lget L i = some v → i < L.length := by
        intro L
        induction L with
        | nil => intro i v h; simp [lget] at h
        | cons a L ih =>
          intro i v h
          cases i with
          | zero => simp
          | succ i => simp only [lget] at h; have := ih i v h; simp; omega
      exact hj ⟨rfl, this _ _ _ h⟩
  · rename_i hy
    refine ⟨h, fun q => ?_⟩
    obtain ⟨rfl, y', rfl⟩ := q
    exact hy _ h
theorem lget_put {L : List (Option mV)} {i j : Nat} {v w : mV} (h : lget (lput L i v) j = some w) : (j = i ∧ w = v) ∨ (j ≠ i ∧ lget L j = some w ∧ ¬ (j + 1 = i ∧ ∃ y, w = .inr (.inl y))) := by
  cases i with
  | zero =>
    simp only [lput, lget_set] at h
    by_cases hj : j = 0 ∧ 0 < L.length
    · rw [if_pos hj] at h; exact Or.inl ⟨hj.1, (Option.some.inj h).symm⟩
    · rw [if_neg hj] at h
      refine Or.inr ⟨fun e => ?_, h, fun q => by omega⟩
      subst e
      cases L with
      | nil => simp [lget] at h
      | cons a L => exact hj ⟨rfl, by simp⟩
  | succ k =>
    simp only [lput, lget_set] at h
    by_cases hj : j = k + 1 ∧ k + 1 < (lwipe L k).length
    · rw [if_pos hj] at h; exact Or.inl ⟨hj.1, (Option.some.inj h).symm⟩
    · rw [if_neg hj] at h
      obtain ⟨h1, h2⟩ := lget_wipe h
      refine Or.inr ⟨fun e => ?_, h1, fun q => h2 ⟨by omega, q.2⟩⟩
      subst e
      have : ∀ (L : List (Option mV)) (i : Nat) (v : mV), lget L i = some v → i < L.length := by
        intro L
        induction L with
        | nil => intro i v h; simp [lget] at h
        | cons a L ih =>
          intro i v h
          cases i with
          | zero => simp
          | succ i => simp only [lget] at h; have := ih i v h; simp; omega
      exact hj ⟨rfl, this _ _ _ h⟩
theorem lget_mask : ∀ (M : List Nat) (L : List (Option mV)) (i : Nat) (v : mV), lget (lmask M L) i = some v → lget L i = some v
  | [], L, i, v, h => by cases L <;> simp [lmask, lget] at h
  | 0 :: M, [], i, v, h => by simp [lmask, lget] at h
  | (n + 1) :: M, [], i, v, h => by simp [lmask, lget] at h
  | 0 :: M, a :: L, 0, v, h => by simp [lmask, lget] at h
  | 0 :: M, a :: L, i + 1, v, h => by simp only [lmask, lget] at h ⊢; exact lget_mask M L i v h
  | (n + 1) :: M, a :: L, 0, v, h => by simpa [lmask, lget] using h
  | (n + 1) :: M, a :: L, i + 1, v, h => by simp only [lmask, lget] at h ⊢; exact lget_mask M L i v h
theorem toV_cat (ad : mO → Nat) (v : mV) : (toV ad v).category = 2 ↔ ∃ y, v = .inr (.inl y) := by
  rcases v with x | y | o <;> simp [toV, Value.category]
/-- storing a value of one slot -/
theorem LR.put {ad : mO → Nat} {nL : Nat} {L : List (Option mV)} {i : Nat} {v : mV} {ls' : Array Slot} (h' : lv_has ls' nL ((i, toV ad v) :: (lpairs ad 0 L).filter (fun q => !(q.1 == i) && !(q.1 + 1 == i && q.2.category == 2)))) : LR ad ls' nL (lput L i v) := by
  refine LR.of h' fun j w hw => ?_
  rcases lget_put hw with ⟨rfl, rfl⟩ | ⟨h1, h2, h3⟩
  · exact List.mem_cons_self
  · refine List.mem_cons_of_mem _ (List.mem_filter.mpr ⟨(lpairs_mem L 0 _).mpr ⟨j, w, h2, by rw [Nat.zero_add]⟩, ?_⟩)
    simp only [Bool.and_eq_true, Bool.not_eq_true', beq_eq_false_iff_ne, ne_eq, Bool.and_eq_false_iff]
    refine ⟨h1, ?_⟩
    by_cases q : j + 1 = i
    · right
      intro e
      exact h3 ⟨q, (toV_cat ad w).mp e⟩
    · left; exact q
theorem LR.putL {ad : mO → Nat} {nL : Nat} {L : List (Option mV)} {i : Nat} {v : mV} {ls' : Array Slot} (h' : lv_has ls' nL ((i, toV ad v) :: (lpairs ad 0 L).filter (fun q => !(q.1 == i) && (!(q.1 == i + 1) && !(q.1 + 1 == i && q.2.category == 2))))) : LR ad ls' nL (lputL L i v) := by
  refine LR.of h' fun j w hw => ?_
  unfold lputL at hw
  rw [lget_set] at hw
  have hl : ∀ (L : List (Option mV)) (i : Nat) (v : mV), lget L i = some v → i < L.length := by
    intro L
    induction L with
    | nil => intro i v h; simp [lget] at h
    | cons a L ih =>
      intro i v h
      cases i with
      | zero => simp
      | succ i => simp only [lget] at h; have := ih i v h; simp; omega
  by_cases hj : j = i + 1 ∧ i + 1 < (lput L i v).length
  · rw [if_pos hj] at hw; cases hw
  · rw [if_neg hj] at hw
    have hj1 : j ≠ i + 1 := fun e => hj ⟨e, e ▸ hl _ _ _ hw⟩
    rcases lget_put hw with ⟨rfl, rfl⟩ | ⟨h1, h2, h3⟩
    · exact List.mem_cons_self
    · refine List.mem_cons_of_mem _ (List.mem_filter.mpr ⟨(lpairs_mem L 0 _).mpr ⟨j, w, h2, by rw [Nat.zero_add]⟩, ?_⟩)
      simp only [Bool.and_eq_true, Bool.not_eq_true', beq_eq_false_iff_ne, ne_eq, Bool.and_eq_false_iff]
      refine ⟨h1, hj1, ?_⟩
      by_cases q : j + 1 = i
      · right
        intro e
        exact h3 ⟨q, (toV_cat ad w).mp e⟩
      · left; exact q

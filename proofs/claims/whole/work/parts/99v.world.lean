/-! The first world: all that was made, by name -/
def poolL (f : Nat → List mO) : Nat → List mO
  | 0 => []
  | k + 1 => poolL f k ++ f k
theorem poolL_mem {f : Nat → List mO} {i : Nat} {o : mO} : ∀ {k : Nat}, i < k → o ∈ f i → o ∈ poolL f k
  | 0, h, _ => absurd h (Nat.not_lt_zero _)
  | k + 1, h, ho => by
    unfold poolL
    by_cases e : i = k
    · subst e
      exact List.mem_append_right _ ho
    · exact List.mem_append_left _ (poolL_mem (by omega) ho)
def ceq (e e' : va_E) : Prop := ∀ (D : va_G) (H : Heap) (q : Nat), va_at D vwCl (q, e) H → va_at D vwCl (q, e') H
theorem ceq_rf {e : va_E} : ceq e e := fun _ _ _ h => h
theorem ceq_of {e e' : va_E} (h : e = e') : ceq e e' := fun _ _ _ z => h ▸ z
theorem ceq_refs {c : ClassId} {n : Nat} {f f' : Nat → Option Nat} (h : ∀ i, i < n → f i = f' i) : ceq (.inl (c, n, .inr (.inr (.inr (.inr f))))) (.inl (c, n, .inr (.inr (.inr (.inr f'))))) := by
  intro D H q hq
  have e : arrV c n (fun j => va_rf (f j)) = arrV c n (fun j => va_rf (f' j)) := by
    have e2 : (fun j : Fin n => va_rf (f j.val)) = (fun j : Fin n => va_rf (f' j.val)) := by
      funext j
      rw [h j.val j.isLt]
    unfold arrV
    rw [e2]
  show H[q]? = some (arrV c n (fun j => va_rf (f' j)))
  rw [← e]
  exact hq
section MT
variable {cy : Nat → ClassId} {ad : mO → Nat} {σ : mS}
def mt (cy : Nat → ClassId) (ad : mO → Nat) (σ : mS) : va_W → List mO → Prop
  | [], [] => True
  | p :: w, o :: os => (p.1 = ad o ∧ ceq p.2 (mCell cy ad σ o)) ∧ mt cy ad σ w os
  | _, _ => False
theorem mt_n : mt cy ad σ [] [] := trivial
theorem mt_c {p : Nat × va_E} {o : mO} {w : va_W} {os : List mO} (h1 : p.1 = ad o) (h2 : ceq p.2 (mCell cy ad σ o)) (h3 : mt cy ad σ w os) : mt cy ad σ (p :: w) (o :: os) := ⟨⟨h1, h2⟩, h3⟩
theorem mt_app : ∀ {w : va_W} {os : List mO} {w' : va_W} {os' : List mO}, mt cy ad σ w os → mt cy ad σ w' os' → mt cy ad σ (w ++ w') (os ++ os')
  | [], [], _, _, _, h => h
  | p :: w, o :: os, _, _, h, h' => ⟨h.1, mt_app h.2 h'⟩
  | [], _ :: _, _, _, h, _ => h.elim
  | _ :: _, [], _, _, h, _ => h.elim
theorem mt_pool {Sg : Type} {Wf : Sg → va_W} {gs : Nat → Sg} {f : Nat → List mO} : ∀ k, (∀ i, i < k → mt cy ad σ (Wf (gs i)) (f i)) → mt cy ad σ (poolW Wf gs k) (poolL f k)
  | 0, _ => trivial
  | k + 1, h => mt_app (mt_pool k (fun i hi => h i (by omega))) (h k (by omega))
theorem mt_at : ∀ {w : va_W} {os : List mO}, mt cy ad σ w os → ∀ (i : Nat) {o : mO}, os[i]? = some o → ∃ e, w[i]? = some (ad o, e) ∧ ceq e (mCell cy ad σ o)
  | [], [], _, i, o, hi => by simp at hi
  | p :: w, o' :: os, h, 0, o, hi => by
    have hi : o' = o := by simpa using hi
    subst hi
    exact ⟨p.2, by rw [← h.1.1]; rfl, h.1.2⟩
  | p :: w, o' :: os, h, i + 1, o, hi => by
    obtain ⟨e, h1, h2⟩ := mt_at h.2 i (o := o) (by simpa using hi)
    exact ⟨e, by simpa using h1, h2⟩
  | [], _ :: _, h, _, _, _ => h.elim
  | _ :: _, [], h, _, _, _ => h.elim
theorem mt_P {D : va_G} {H : Heap} {w : va_W} {os : List mO} (h : mt cy ad σ w os) (hos : ∀ o, okO o → o ∈ os) (hP : va_P D vwCl w H) : va_P D vwCl (wsAll cy ad σ) H := by
  intro k q hq
  unfold wsAll at hq
  rw [List.getElem?_map] at hq
  cases ho : allO[k]? with
  | none => rw [ho] at hq; cases hq
  | some o =>
    rw [ho] at hq
    cases hq
    obtain ⟨i, hi⟩ := List.getElem?_of_mem (hos o ((mem_allO o).mp (List.mem_of_getElem? ho)))
    obtain ⟨e, h1, h2⟩ := mt_at h i hi
    exact h2 D H _ (hP i _ h1)
theorem mt_inj {A : Nat → Prop} {w : va_W} {os : List mO} (h : mt cy ad σ w os) (hos : ∀ o, okO o → o ∈ os) (hD : va_D A w) : adInj ad ∧ ∀ q, mA ad q → A q := by
  refine ⟨fun o o' ho ho' e => ?_, fun q hq => ?_⟩
  · obtain ⟨i, hi⟩ := List.getElem?_of_mem (hos o ho)
    obtain ⟨j, hj⟩ := List.getElem?_of_mem (hos o' ho')
    obtain ⟨e1, h1, -⟩ := mt_at h i hi
    obtain ⟨e2, h2, -⟩ := mt_at h j hj
    have hij := hD.1 i j _ _ h1 h2 e
    subst hij
    exact Option.some.inj (hi.symm.trans hj)
  · obtain ⟨o, ho, rfl⟩ := hq
    obtain ⟨i, hi⟩ := List.getElem?_of_mem (hos o ho)
    obtain ⟨e1, h1, -⟩ := mt_at h i hi
    exact hD.2 i _ h1
end MT
/-! the names, in the order of the making -/
def osSt (a s : Nat) : List mO := [(8, a, s, 0), (13, a, s, 0), (2, a, s, 0), (3, a, s, 0), (15, a, s, 0), (16, a, s, 0), (17, a, s, 0), (18, a, s, 0), (19, a, s, 0)] ++ poolL (fun r => [(6, a, s, r), (14, a, s, r)]) 4
def osAir (a : Nat) : List mO := [(0, a, 0, 0), (11, a, 0, 0), (1, a, 0, 0), (12, a, 0, 0)] ++ poolL (fun s => osSt a s) 6
def osPast : List mO := [(5, 0, 0, 0), (20, 0, 0, 0)] ++ poolL (fun i => osAir (4 + i)) 6
def osSA : List mO := [(9, 0, 0, 0), (21, 0, 0, 0), (22, 0, 0, 0), (25, 0, 0, 0)] ++ ((((((([] ++ osAir 0) ++ osAir 1) ++ [(1, 10, 0, 0)]) ++ osPast) ++ [(7, 0, 0, 0), (23, 0, 0, 0)]) ++ [(4, 0, 0, 0), (24, 0, 0, 0)]) ++ poolL (fun i => osAir (2 + i)) 2)
def osM : List mO := [(10, 0, 0, 0), (30, 0, 0, 0), (31, 0, 0, 0), (32, 0, 0, 0), (33, 0, 0, 0), (34, 0, 0, 0), (35, 0, 0, 0), (36, 0, 0, 0), (37, 0, 0, 0), (38, 0, 0, 0), (39, 0, 0, 0), (40, 0, 0, 0), (41, 0, 0, 0)]
def osAll : List mO := [(45, 0, 0, 0)] ++ (osSA ++ osM)
def eqO (o o' : mO) : Bool := Nat.beq o.1 o'.1 && (Nat.beq o.2.1 o'.2.1 && (Nat.beq o.2.2.1 o'.2.2.1 && Nat.beq o.2.2.2 o'.2.2.2))
theorem eqO_eq {o o' : mO} (h : eqO o o' = true) : o = o' := by
  unfold eqO at h
  simp only [Bool.and_eq_true] at h
  obtain ⟨h1, h2, h3, h4⟩ := h
  exact Prod.ext (Nat.eq_of_beq_eq_true h1) (Prod.ext (Nat.eq_of_beq_eq_true h2) (Prod.ext (Nat.eq_of_beq_eq_true h3) (Nat.eq_of_beq_eq_true h4)))
def memO (o : mO) (l : List mO) : Bool := l.any (eqO o)
theorem memO_in {o : mO} {l : List mO} (h : memO o l = true) : o ∈ l := by
  obtain ⟨o', h1, h2⟩ := List.any_eq_true.mp h
  rw [eqO_eq h2]
  exact h1
def isA (o : mO) : Bool := (Nat.ble o.1 3 || (Nat.beq o.1 6 || (Nat.beq o.1 8 || (Nat.ble 11 o.1 && Nat.ble o.1 19)))) && Nat.blt o.2.1 10
def osRest : List mO := [(9, 0, 0, 0), (21, 0, 0, 0), (22, 0, 0, 0), (25, 0, 0, 0), (1, 10, 0, 0), (5, 0, 0, 0), (20, 0, 0, 0), (7, 0, 0, 0), (23, 0, 0, 0), (4, 0, 0, 0), (24, 0, 0, 0), (45, 0, 0, 0)] ++ osM
theorem os_chk : allO.all (fun o => bif isA o then memO o (osAir o.2.1) else memO o osRest) = true := by decide +kernel
theorem rest_chk : osRest.all (fun o => memO o osAll) = true := by decide +kernel
theorem air_mem {a : Nat} (ha : a < 10) {o : mO} (h : o ∈ osAir a) : o ∈ osSA := by
  unfold osSA
  rcases (by omega : a = 0 ∨ a = 1 ∨ (2 ≤ a ∧ a < 4) ∨ 4 ≤ a) with rfl | rfl | h2 | h4
  · simp only [List.mem_append, h, true_or, or_true]
  · simp only [List.mem_append, h, true_or, or_true]
  · have h3 : o ∈ poolL (fun i => osAir (2 + i)) 2 := poolL_mem (i := a - 2) (by omega) (by rw [show 2 + (a - 2) = a from by omega]; exact h)
    simp only [List.mem_append, h3, or_true]
  · have h3 : o ∈ osPast := List.mem_append_right _ (poolL_mem (i := a - 4) (by omega) (by rw [show 4 + (a - 4) = a from by omega]; exact h))
    simp only [List.mem_append, h3, true_or, or_true]
theorem os_all (o : mO) (ho : okO o) : o ∈ osAll := by
  have h := List.all_eq_true.mp os_chk o ((mem_allO o).mpr ho)
  cases hb : isA o
  · rw [hb] at h
    have h : memO o osRest = true := h
    exact memO_in (List.all_eq_true.mp rest_chk o (memO_in h))
  · rw [hb] at h
    have h : memO o (osAir o.2.1) = true := h
    unfold isA at hb
    have ha := ((Bool.and_eq_true _ _).mp hb).2
    have ha : o.2.1 < 10 := Nat.le_of_ble_eq_true ha
    exact List.mem_append_right _ (List.mem_append_left _ (air_mem ha (memO_in h)))
/-! the addresses -/
def gA (G : sY9) (a : Nat) : sY0 := if a < 4 then G.2.1 a else if a < 10 then G.2.2.2.1.2 (a - 4) else (fun _ => G.2.2.1, (G.2.1 0).2)
def adZ (G : sY9) (gm : sY10) (qo b t1 : Nat) (o : mO) : Nat := match o with
  | (0, a, _, _) => (gA G a).1 0
  | (1, a, _, _) => (gA G a).1 2
  | (2, a, s, _) => ((gA G a).2 s).1 2
  | (3, a, s, _) => ((gA G a).2 s).1 3
  | (4, _, _, _) => G.2.2.2.2.2.1
  | (5, _, _, _) => G.2.2.2.1.1.1
  | (6, a, s, r) => (((gA G a).2 s).2 r).1
  | (7, _, _, _) => G.2.2.2.2.1.1
  | (8, a, s, _) => ((gA G a).2 s).1 0
  | (9, _, _, _) => G.1 0
  | (10, _, _, _) => gm 0
  | (11, a, _, _) => (gA G a).1 1
  | (12, a, _, _) => (gA G a).1 3
  | (13, a, s, _) => ((gA G a).2 s).1 1
  | (14, a, s, r) => (((gA G a).2 s).2 r).2
  | (15, a, s, _) => ((gA G a).2 s).1 4
  | (16, a, s, _) => ((gA G a).2 s).1 5
  | (17, a, s, _) => ((gA G a).2 s).1 6
  | (18, a, s, _) => ((gA G a).2 s).1 7
  | (19, a, s, _) => ((gA G a).2 s).1 8
  | (20, _, _, _) => G.2.2.2.1.1.2
  | (21, _, _, _) => G.1 1
  | (22, _, _, _) => G.1 2
  | (23, _, _, _) => G.2.2.2.2.1.2
  | (24, _, _, _) => G.2.2.2.2.2.2
  | (25, _, _, _) => G.1 3
  | (30, _, _, _) => gm 1
  | (31, _, _, _) => gm 2
  | (32, _, _, _) => gm 3
  | (33, _, _, _) => gm 4
  | (34, _, _, _) => gm 5
  | (35, _, _, _) => gm 6
  | (36, _, _, _) => gm 7
  | (37, _, _, _) => gm 8
  | (38, _, _, _) => gm 9
  | (39, _, _, _) => gm 10
  | (40, _, _, _) => gm 11
  | (41, _, _, _) => gm 12
  | (45, _, _, _) => qo
  | (46, _, _, _) => b
  | (51, _, _, _) => t1
  | _ => 0
section AZ
variable {cy : Nat → ClassId} {G : sY9} {gm : sY10} {qo b t1 : Nat} {xs ys : Nat → Int32} {XL : Nat}
theorem gA_p {i : Nat} (h : i < 6) : gA G (4 + i) = G.2.2.2.1.2 i := by
  unfold gA
  rw [if_neg (by omega), if_pos (by omega), Nat.add_sub_cancel_left]
theorem gA_k {i : Nat} (h : i < 2) : gA G (2 + i) = G.2.1 (i + 2) := by
  unfold gA
  rw [if_pos (by omega), Nat.add_comm]
theorem cpy12 : va_cpy fst12 (fun _ => 0) 0 0 12 = fst12 := by
  funext i
  by_cases h : i < 12
  · rw [pk_cpy_in (by omega) (by omega), Nat.zero_add, Nat.sub_zero]
  · rw [pk_cpy_out (by omega)]
    obtain ⟨j, rfl⟩ : ∃ j, i = j + 12 := ⟨i - 12, by omega⟩
    rfl
theorem mt_st (a s : Nat) : mt cy (adZ G gm qo b t1) (stZ xs ys XL) (wY8 cy ((gA G a).2 s)) (osSt a s) :=
  mt_app (mt_c rfl ceq_rf (mt_c rfl (ceq_refs fun i hi => if_pos hi) (mt_c rfl ceq_rf (mt_c rfl ceq_rf (mt_c rfl ceq_rf (mt_c rfl ceq_rf (mt_c rfl ceq_rf (mt_c rfl ceq_rf (mt_c rfl ceq_rf mt_n)))))))))
    (mt_pool 4 fun r hr => mt_c rfl ceq_rf (mt_c rfl ceq_rf mt_n))
theorem mt_air {a : Nat} (ha : a < 10) : mt cy (adZ G gm qo b t1) (stZ xs ys XL) (wY0 cy (gA G a)) (osAir a) := by
  have e1 : (.inr (1, [.int (nI 1)]) : va_E) = mCell cy (adZ G gm qo b t1) (stZ xs ys XL) (1, a, 0, 0) := by
    rw [show mCell cy (adZ G gm qo b t1) (stZ xs ys XL) (1, a, 0, 0) = .inr (1, [.int (if a < 10 then nI 1 else 0)]) from rfl, if_pos ha]
  have e2 : (.inl (cy 1, 12, .inl (va_cpy fst12 (fun _ => 0) 0 0 12)) : va_E) = mCell cy (adZ G gm qo b t1) (stZ xs ys XL) (11, a, 0, 0) := by
    rw [cpy12]
    rfl
  exact mt_app (mt_c rfl ceq_rf (mt_c rfl (ceq_of e2) (mt_c rfl (ceq_of e1) (mt_c rfl (ceq_refs fun i hi => if_pos hi) mt_n)))) (mt_pool 6 fun s hs => mt_st a s)
theorem mt_past : mt cy (adZ G gm qo b t1) (stZ xs ys XL) (wY5 cy G.2.2.2.1) osPast := by
  refine mt_app (mt_c rfl ceq_rf (mt_c rfl (ceq_refs fun i hi => ?_) mt_n)) (mt_pool 6 fun i hi => ?_)
  · show refsT hs0 G.2.2.2.1.2 6 i = some ((gA G (4 + i)).1 0)
    rw [gA_p hi]
    exact if_pos hi
  · have h := mt_air (cy := cy) (G := G) (gm := gm) (qo := qo) (b := b) (t1 := t1) (xs := xs) (ys := ys) (XL := XL) (a := 4 + i) (by omega)
    rw [gA_p hi] at h
    exact h
theorem mt_SA : mt cy (adZ G gm qo b t1) (stZ xs ys XL) (wY9 cy G) osSA := by
  refine mt_app (mt_c rfl ceq_rf (mt_c rfl (ceq_refs fun i hi => ?_) (mt_c rfl ceq_rf (mt_c rfl ceq_rf mt_n)))) (mt_app (mt_app (mt_app (mt_app (mt_app (mt_app (mt_app mt_n ?_) ?_) (mt_c rfl ceq_rf mt_n)) mt_past) (mt_c rfl ceq_rf (mt_c rfl ceq_rf mt_n))) (mt_c rfl ceq_rf (mt_c rfl ceq_rf mt_n))) (mt_pool 2 fun i hi => ?_))
  · show refsT hs0 (fun i => G.2.1 (i + 2)) 2 i = some ((gA G (2 + i)).1 0)
    rw [gA_k hi]
    exact if_pos hi
  · exact mt_air (a := 0) (by omega)
  · exact mt_air (a := 1) (by omega)
  · have h := mt_air (cy := cy) (G := G) (gm := gm) (qo := qo) (b := b) (t1 := t1) (xs := xs) (ys := ys) (XL := XL) (a := 2 + i) (by omega)
    rw [gA_k hi] at h
    exact h
theorem mt_M : mt cy (adZ G gm qo b t1) (stZ xs ys XL) (wY10 cy gm) osM :=
  mt_c rfl ceq_rf (mt_c rfl ceq_rf (mt_c rfl ceq_rf (mt_c rfl ceq_rf (mt_c rfl ceq_rf (mt_c rfl ceq_rf (mt_c rfl ceq_rf (mt_c rfl ceq_rf (mt_c rfl ceq_rf (mt_c rfl ceq_rf (mt_c rfl ceq_rf (mt_c rfl ceq_rf (mt_c rfl ceq_rf mt_n))))))))))))
theorem world_Z {D : va_G} {H : Heap} {A : Nat → Prop} (hP : va_P D vwCl ([(qo, .inl (cy 4, 1, .inr (.inl (fun _ => 0))))] ++ (wY9 cy G ++ wY10 cy gm)) H) (hD : va_D A ([(qo, .inl (cy 4, 1, .inr (.inl (fun _ => 0))))] ++ (wY9 cy G ++ wY10 cy gm))) :
    va_P D vwCl (wsAll cy (adZ G gm qo b t1) (stZ xs ys XL)) H ∧ adInj (adZ G gm qo b t1) ∧ ∀ q, mA (adZ G gm qo b t1) q → A q := by
  have h : mt cy (adZ G gm qo b t1) (stZ xs ys XL) ([(qo, .inl (cy 4, 1, .inr (.inl (fun _ => 0))))] ++ (wY9 cy G ++ wY10 cy gm)) osAll := mt_app (mt_c rfl ceq_rf mt_n) (mt_app mt_SA mt_M)
  exact ⟨mt_P h os_all hP, mt_inj h os_all hD⟩
end AZ

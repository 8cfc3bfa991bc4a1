/-! Calls and ends; the whole of it -/
section SD
variable {l : Launch} {D : va_G} {cy : Nat → ClassId} {ad : mO → Nat} {xs ys : Nat → Int32} {XL : Nat} {A : Nat → Prop} {b : Nat} {j : Nat}
def mW (jc : Nat) : List Cond := Cond.code (mrow jc).1 (mrow jc).2.1 (mrow jc).2.2.1 (mrow jc).2.2.2.1 :: mBig
def mRm (jc : Nat) : Room := { frames := (mrow jc).2.2.2.2.2.1, cells := 0, slots := 0, locals := (mrow jc).2.2.2.2.2.2 }
def mQc (D : va_G) (cy : Nat → ClassId) (ad : mO → Nat) (xs ys : Nat → Int32) (XL : Nat) (rv : Option mV) (σ' : mS) : Array Value → State → Outcome → State → Prop := match rv with
  | none => va_Qv (fun _ : Unit => True) (fun _ t => mRel D cy ad xs ys XL σ' t.heap) (mA ad)
  | some (.inl x) => va_Qi (fun (r : Int32) (_ : Unit) => r = x) (fun _ t => mRel D cy ad xs ys XL σ' t.heap) (mA ad)
  | some (.inr (.inl y)) => va_Ql (fun (r : Int64) (_ : Unit) => r = y) (fun _ t => mRel D cy ad xs ys XL σ' t.heap) (mA ad)
  | _ => fun _ _ _ _ => False
def MetJ (l : Launch) (D : va_G) (cy : Nat → ClassId) (ad : mO → Nat) (xs ys : Nat → Int32) (XL : Nat) (jc : Nat) (acc : List mV) (σ : mS) (rv : Option mV) (σ' : mS) : Prop :=
  Met l (mrow jc).1 (mW jc) (mRm jc) (va_Pc (acc.map (toV ad)) (fun U => mRel D cy ad xs ys XL σ U.heap ∧ mKS D cy U ∧ mHS ad xs ys XL (mA ad) U U.heap)) (mQc D cy ad xs ys XL rv σ') 0 0 (mA ad)
theorem cn_plain : ∀ k, plainName (cn k) = true
  | 0 => by decide +kernel | 1 => by decide +kernel | 2 => by decide +kernel | 3 => by decide +kernel | 4 => by decide +kernel | 5 => by decide +kernel | 6 => by decide +kernel | 7 => by decide +kernel | 8 => by decide +kernel | 9 => by decide +kernel | 10 => by decide +kernel | 11 => by decide +kernel
  | n + 12 => (by decide +kernel : plainName RJ6 = true)
theorem largs_pairs : ∀ (n : Nat) (A : List mV) (k i : Nat) (v : mV), lget (largs n A) i = some v → (k + i, toV ad v) ∈ lv_args k (A.map (toV ad))
  | 0, A, k, i, v, h => by simp [largs, lget] at h
  | n + 1, [], k, i, v, h => by
    have : ∀ (n i : Nat), lget (largs n []) i = none := by
      intro n
      induction n with
      | zero => intro i; rfl
      | succ n ih => intro i; cases i with
        | zero => rfl
        | succ i => exact ih i
    rw [this] at h
    cases h
  | n + 1, .inl x :: A, k, 0, v, h => by
    simp only [largs, lget] at h
    cases h
    exact List.mem_cons_self
  | n + 1, .inl x :: A, k, i + 1, v, h => by
    simp only [largs, lget] at h
    have := largs_pairs n A (k + 1) i v h
    rw [show k + (i + 1) = k + 1 + i from by omega]
    exact List.mem_cons_of_mem _ this
  | n + 1, .inr (.inr o) :: A, k, 0, v, h => by
    simp only [largs, lget] at h
    cases h
    exact List.mem_cons_self
  | n + 1, .inr (.inr o) :: A, k, i + 1, v, h => by
    simp only [largs, lget] at h
    have := largs_pairs n A (k + 1) i v h
    rw [show k + (i + 1) = k + 1 + i from by omega]
    exact List.mem_cons_of_mem _ this
  | 1, .inr (.inl x) :: A, k, i, v, h => by
    cases i <;> simp [largs, lget] at h
  | n + 2, .inr (.inl x) :: A, k, 0, v, h => by
    simp only [largs, lget] at h
    cases h
    exact List.mem_cons_self
  | n + 2, .inr (.inl x) :: A, k, 1, v, h => by
    simp [largs, lget] at h
  | n + 2, .inr (.inl x) :: A, k, i + 2, v, h => by
    simp only [largs, lget] at h
    have := largs_pairs n A (k + 2) i v h
    rw [show k + (i + 2) = k + 2 + i from by omega]
    exact List.mem_cons_of_mem _ this
theorem largs_ok {n : Nat} {A : List mV} (h : okS A) : okL (largs n A) := by
  intro i v hv
  have key : ∀ (n : Nat) (A : List mV) (i : Nat) (v : mV), lget (largs n A) i = some v → v ∈ A := by
    intro n
    induction n using Nat.strongRecOn with
    | _ n ih =>
      intro A i v hv
      match n, A, i, hv with
      | 0, A, i, hv => simp [largs, lget] at hv
      | n + 1, [], i, hv =>
        cases i with
        | zero => simp [largs, lget] at hv
        | succ i => simp only [largs, lget] at hv; exact ih n (by omega) [] i v hv
      | n + 1, .inl x :: A, 0, hv => simp only [largs, lget] at hv; cases hv; exact List.mem_cons_self
      | n + 1, .inl x :: A, i + 1, hv => simp only [largs, lget] at hv; exact List.mem_cons_of_mem _ (ih n (by omega) A i v hv)
      | n + 1, .inr (.inr o) :: A, 0, hv => simp only [largs, lget] at hv; cases hv; exact List.mem_cons_self
      | n + 1, .inr (.inr o) :: A, i + 1, hv => simp only [largs, lget] at hv; exact List.mem_cons_of_mem _ (ih n (by omega) A i v hv)
      | 1, .inr (.inl x) :: A, i, hv => cases i <;> simp [largs, lget] at hv
      | n + 2, .inr (.inl x) :: A, 0, hv => simp only [largs, lget] at hv; cases hv; exact List.mem_cons_self
      | n + 2, .inr (.inl x) :: A, 1, hv => simp [largs, lget] at hv
      | n + 2, .inr (.inl x) :: A, i + 2, hv => simp only [largs, lget] at hv; exact List.mem_cons_of_mem _ (ih n (by omega) A i v hv)
  exact h v (key n A i v hv)
theorem lg_words (ad : mO → Nat) : ∀ A : List mV, (lg_sl (A.map (toV ad))).length = swords A
  | [] => rfl
  | .inl x :: A => by
    have := lg_words ad A
    simp only [lg_sl, List.map_cons, List.flatMap_cons, List.length_append, swords, toV, Value.category] at this ⊢
    simp only [show ¬ (1 : Nat) = 2 from by decide, if_false, List.length_cons, List.length_nil]
    omega
  | .inr (.inl y) :: A => by
    have := lg_words ad A
    simp only [lg_sl, List.map_cons, List.flatMap_cons, List.length_append, swords, toV, Value.category] at this ⊢
    simp only [if_true, List.length_cons, List.length_nil]
    omega
  | .inr (.inr o) :: A => by
    have := lg_words ad A
    simp only [lg_sl, List.map_cons, List.flatMap_cons, List.length_append, swords, toV, Value.category] at this ⊢
    simp only [show ¬ (1 : Nat) = 2 from by decide, if_false, List.length_cons, List.length_nil]
    omega
/-- a method's contract out of its first block -/
theorem met_of {jc : Nat} (hj : jc ≠ 226) {acc : List mV} {σ : mS} {rv : Option mV} {σ' : mS} (h : SndB l D cy ad xs ys XL (mA ad) 0 (jc, 0, largs (mrow jc).2.2.1 acc, [], σ) (some rv, σ')) (hcl : (mrow jc).1.cls = cn (mrow jc).2.2.2.2.1) (hok : okS acc) (hw : swords acc ≤ (mrow jc).2.2.1) : MetJ l D cy ad xs ys XL jc acc σ rv σ' := by
  refine Met.ofW (cc := (mrow jc).2.1) (maxL := (mrow jc).2.2.1) (ret := (mrow jc).2.2.2.1) (by rw [hcl]; exact cn_plain _) rfl ?_
  intro p e s m args below meth c s₁ B hml hv
  obtain ⟨rfl, hRel, hKS, hHS⟩ := hv
  have hx := B.exec
  have hb := B.bytes
  have hr := B.returns
  have hts0 := atoms_spec (ws := mW jc) B.pre
  have hts : ∀ w ∈ mBig, w.before (acc.map (toV ad)).toArray s = true := fun w hw => hts0 w (List.mem_cons_of_mem _ hw)
  have hown : s.vm.findClass (cn (mrow jc).2.2.2.2.1) = some m.cls := by rw [← hcl]; exact findClass_of_methodNamed B.named
  have hlocks := B.notSynchronized
  have hl := lv_entry (acc.map (toV ad)) (n := (mrow jc).2.2.1) (by rw [lg_words]; exact hw)
  rw [lg_entry_eq]
  generalize (lg_sl (acc.map (toV ad)) ++ List.replicate ((mrow jc).2.2.1 - (lg_sl (acc.map (toV ad))).length) Slot.unset).toArray = ls at hl ⊢
  have hLR : LR ad ls (mrow jc).2.2.1 (largs (mrow jc).2.2.1 acc) := LR.of hl fun i v hv => by
    have := largs_pairs (ad := ad) _ _ 0 i v hv
    rwa [Nat.zero_add] at this
  refine h.go (Q := MQ below (mQc D cy ad xs ys XL rv σ') (acc.map (toV ad)).toArray s 0 0 (mA ad)) ⟨hx, hb, hml, hown, hts, hKS, hHS, fun z => absurd z hj⟩ (Nat.le_refl _) (Nat.le_refl _) (Nat.zero_le _) (Nat.zero_le _) hRel va_S.rf hLR (largs_ok hok) (fun w hw => absurd hw List.not_mem_nil) ?_
  intro H' locs' cells' slots' ls' pc' S' hc0 hs0 hRel' hSS' hsz hend
  have hc0 : cells' = 0 := by omega
  have hs0 : slots' = 0 := by omega
  subst hc0
  subst hs0
  match rv, hend with
  | none, hend =>
    obtain ⟨hd, rfl, hret⟩ := hend
    exact W.vret hx hb (by rw [hr, hret]) (fun t ht hW => ⟨⟨(), rfl, trivial, by dsimp only; rw [ht]; exact hRel'⟩, hSS'.F ht⟩) hSS'.2.2 hd
  | some (.inl x), hend =>
    obtain ⟨hd, rfl, hret⟩ := hend
    rcases hret with hret | ⟨hret, hx01⟩
    · exact W.zret (ty := .int) hx hb (by rw [hr, hret]) rfl (fun t ht hW => ⟨⟨x, (), rfl, rfl, by dsimp only; rw [ht]; exact hRel'⟩, hSS'.F ht⟩) hSS'.2.2 hd
    · exact W.zret (ty := .boolean) hx hb (by rw [hr, hret]) (by rcases hx01 with rfl | rfl <;> rfl) (fun t ht hW => ⟨⟨x, (), rfl, rfl, by dsimp only; rw [ht]; exact hRel'⟩, hSS'.F ht⟩) hSS'.2.2 hd
  | some (.inr (.inl y)), hend =>
    obtain ⟨hd, rfl, hret⟩ := hend
    exact W.lret hx hb (by rw [hr, hret]) (fun t ht hW => ⟨⟨y, (), rfl, rfl, by dsimp only; rw [ht]; exact hRel'⟩, hSS'.F ht⟩) hSS'.2.2 hd
  | some (.inr (.inr o)), hend => exact absurd hend id
theorem mcall_inv {Rf : mQ → Option mR} {K : mK} {rest : List mE} {info : List Nat} {L : List (Option mV)} {σ : mS} {kr : Nat} : ∀ (n : Nat) (acc S : List mV) (r : mR), mcall Rf K rest info L σ kr n acc S = some r → ∃ bs S', S = bs ++ S' ∧ bs.length = n ∧ mcall Rf K rest info L σ kr 0 (bs.reverse ++ acc) S' = some r
  | 0, acc, S, r, h => ⟨[], S, rfl, rfl, h⟩
  | n + 1, acc, [], r, h => by unfold mcall at h; cases h
  | n + 1, acc, v :: S, r, h => by
    unfold mcall at h
    obtain ⟨bs, S', h1, h2, h3⟩ := mcall_inv n (v :: acc) S r h
    exact ⟨v :: bs, S', by rw [h1]; rfl, by simp [h2], by simpa using h3⟩
/-- the world at a callee's start -/
theorem pre_of (hF : mFix ad XL A) {s U : State} {σ : mS} {H : Heap} {locs : List Loc} (hU : U.heap = H) (hW : s.WarmedH U.vm) (hRel : mRel D cy ad xs ys XL σ H) (hKS : mKS D cy s) (hHS : mHS ad xs ys XL A s s.heap) (hSS : va_S A s.heap H locs) : mRel D cy ad xs ys XL σ U.heap ∧ mKS D cy U ∧ mHS ad xs ys XL (mA ad) U U.heap := by
  have hal := hW.alike
  refine ⟨by rw [hU]; exact hRel, ⟨va_K.moved hal hKS.1, fun w hw hn => nest_warm hn hW (hKS.2 w hw hn)⟩, ?_, ?_, ?_⟩
  · refine va_X.moved hal (hHS.1.kept ?_)
    rw [hU]; exact hSS.2.1 _ hHS.1.lt hF.2.1
  · refine va_X.moved hal (hHS.2.1.kept ?_)
    rw [hU]; exact hSS.2.1 _ hHS.2.1.lt hF.2.2.1
  · refine (va_Z.moved hal (hHS.2.2.kept fun a h1 h2 => ?_)).narrow hF.2.2.2.2
    rw [hU]; exact hSS.2.1 _ h1 h2
theorem blind_of {σ : mS} {As : List Value} : FrameBlind (va_Pc As (fun U => mRel D cy ad xs ys XL σ U.heap ∧ mKS D cy U ∧ mHS ad xs ys XL (mA ad) U U.heap)) := by
  intro a U g mk q
  obtain ⟨q0, q1, q2, q3⟩ := q
  have hal : U.vm.Alike (U.calling g mk a).vm := Vm.Alike.refl U.vm
  refine ⟨q0, q1, ⟨va_K.moved (u := U) (U := U.calling g mk a) hal q2.1, fun w hw hn => va_Nw.same (by cases w <;> first | (simp [isNestW] at hn; done) | rfl) (u := U) (U := U.calling g mk a) rfl (q2.2 w hw hn)⟩, va_X.moved (u := U) (U := U.calling g mk a) hal q3.1, va_X.moved (u := U) (U := U.calling g mk a) hal q3.2.1, va_Z.moved (u := U) (U := U.calling g mk a) hal q3.2.2⟩
end SD

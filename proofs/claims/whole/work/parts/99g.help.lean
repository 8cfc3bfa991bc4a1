/-! The law's helpers: what stands behind the call -/
section HP
variable {l : Launch} {D : va_G} {cy : Nat → ClassId} {ad : mO → Nat} {xs ys : Nat → Int32} {XL : Nat} {A : Nat → Prop} {b : Nat} {j : Nat}
/-- a road to the end with no block and no call -/
theorem tail0 (hF : mFix ad XL A) {n : Nat} {e : mE} {rest : List mE} {L : List (Option mV)} {S : List mV} {σ : mS} {r : mR} (hc : cOk j (e :: rest) = true) (h : stepN (fun _ => none) j n (e :: rest) L S σ = some r) : SndB l D cy ad xs ys XL A b (j, e.1, L, S, σ) r := by
  obtain ⟨e', rest', he, hS⟩ := (stepN_ok (l := l) (D := D) (cy := cy) (ad := ad) (xs := xs) (ys := ys) (XL := XL) (A := A) (b := b) hF (Rf := fun _ => none) (fun q r h _ => by cases h) (fun jc acc σ rv σ' h => by cases h) n).2 _ L S σ r hc h
  cases he
  exact hS
def mWh (j : Nat) (hh : List (Nat × Nat × Nat × Nat)) : List Cond := Cond.codeWith (mrow j).1 (mrow j).2.1 (mrow j).2.2.1 (mrow j).2.2.2.1 hh :: mBig
def MetHp (l : Launch) (D : va_G) (cy : Nat → ClassId) (ad : mO → Nat) (xs ys : Nat → Int32) (XL : Nat) (j : Nat) (hh : List (Nat × Nat × Nat × Nat)) (acc : List mV) (σ : mS) (k : Int32) (σ' : mS) : Prop :=
  vx_Met l (mrow j).1 (mWh j hh) (mRmT j) (va_Pc (acc.map (toV ad)) (fun U => mRel D cy ad xs ys XL σ U.heap ∧ mKS D cy U ∧ mHS ad xs ys XL (mA ad) U U.heap ∧ mTh (mA ad) U U.heap)) (mQc D cy ad xs ys XL (some (.inl k)) σ') (fun _ _ _ => False) 1 6 (mA ad)
/-- a helper's end, at an int -/
theorem help_end {r : mR} {k : Int32} {σ' : mS} (hr : r = (some (some (.inl k)), σ')) (hi : (mrow j).2.2.2.1 = some .int) {p : Program} {e : Env} {R : Room} {s : State} {m : MethodId} {args : Array Value} {below : List Frame} {meth : Method} {c : Code} (C : mCtx D cy ad xs ys XL (mA ad) j p s m args c) (hret : meth.sig.returnType = (mrow j).2.2.2.1) (hlocks : meth.locks = false) (hfr : (mrow j).2.2.2.2.2.1 ≤ R.frames) (hlo : (mrow j).2.2.2.2.2.2 ≤ R.locals)
    {pc : Nat} {L : List (Option mV)} {S : List mV} {σ : mS} (hS : SndB l D cy ad xs ys XL (mA ad) 0 (j, pc, L, S, σ) r) {H : Heap} {locs : List Loc} {cells slots : Nat} {ls : Array Slot} (hc : cells ≤ R.cells) (hs : slots ≤ R.slots) (hc1 : cells ≤ 1) (hs6 : slots ≤ 6) (hRel : mRel D cy ad xs ys XL σ H) (hSS : va_S (mA ad) s.heap H locs) (hLR : LR ad ls (mrow j).2.2.1 L) (hokL : okL L) (hokS : okS S) :
    W p l e R s m args below meth c H locs cells slots (vx_MQ below (mQc D cy ad xs ys XL (some (.inl k)) σ') (fun _ _ _ => False) args s 1 6 (mA ad)) (F0 m pc ls (S.map (toV ad))) := by
  subst hr
  refine hS.go C hfr hlo hc hs hRel hSS hLR hokL hokS ?_
  intro H' locs' cells' slots' ls' pc' S' hc0 hs0 hRel' hSS' hsz hend
  obtain ⟨hx, hb, -⟩ := id C
  obtain ⟨hd, rfl, hrt⟩ := hend
  have wd : ∀ {g : JFrame}, W p l e R s m args below meth c H' locs' 1 6 (MQ below (mQc D cy ad xs ys XL (some (.inl k)) σ') args s 1 6 (mA ad)) g → W p l e R s m args below meth c H' locs' cells' slots' (vx_MQ below (mQc D cy ad xs ys XL (some (.inl k)) σ') (fun _ _ _ => False) args s 1 6 (mA ad)) g := fun kk => vx_ret (fun T hT X => kk T hT (stand_widen X (by omega) (by omega)))
  exact wd (W.zret (ty := .int) hx hb (by rw [hret, hi]) rfl (fun t ht hW => ⟨⟨k, (), rfl, rfl, by dsimp only; rw [ht]; exact hRel'⟩, hSS'.F ht⟩) hSS'.2.2 hd)
end HP

/-! Calls of the six that throw -/
section CT
variable {l : Launch} {D : va_G} {cy : Nat → ClassId} {ad : mO → Nat} {xs ys : Nat → Int32} {XL : Nat} {A : Nat → Prop} {b : Nat} {j : Nat}
def isDC (w : Cond) : Bool := match w with
  | .declares _ => true
  | .castable _ _ => true
  | _ => false
theorem tW_dc : tW.all (fun w => goodWord w || isDC w) = true := by decide +kernel
theorem dc_warm {w : Cond} (hw : isDC w = true) {s U : State} (hW : s.WarmedH U.vm) (h : va_Nw w s) : va_Nw w U := by
  cases w <;> first | (simp [isDC] at hw; done) | exact va_Nw.warmD hW h | exact va_Nw.warmC hW h
theorem dc_same {w : Cond} (hw : w.onTables = true) {u U : State} (h : u.vm = U.vm) (hZ : va_Nw w u) : va_Nw w U := va_Nw.same hw h hZ
theorem tW_isDC {w : Cond} (hw : w ∈ tW) (hg : goodWord w = false) : isDC w = true := by
  have h := List.all_eq_true.mp tW_dc w hw
  simp only [hg, Bool.false_or] at h
  exact h
theorem pre_ofT (hF : mFix ad XL A) {s U : State} {H : Heap} {locs : List Loc} (hU : U.heap = H) (hW : s.WarmedH U.vm) (hTh : mTh A s s.heap) (hSS : va_S A s.heap H locs) : mTh (mA ad) U U.heap := by
  have hal := hW.alike
  refine ⟨fun w hw hg => dc_warm (tW_isDC hw hg) hW (hTh.1 w hw hg), ?_, ?_⟩
  · refine (vx_Zq.moved hal (hTh.2.1.kept fun a h1 h2 => ?_)).narrow hF.2.2.2.2
    rw [hU]; exact hSS.2.1 _ h1 h2
  · refine (vx_Zq.moved hal (hTh.2.2.kept fun a h1 h2 => ?_)).narrow hF.2.2.2.2
    rw [hU]; exact hSS.2.1 _ h1 h2
theorem blind_ofT {σ : mS} {As : List Value} : FrameBlind (va_Pc As (fun U => mRel D cy ad xs ys XL σ U.heap ∧ mKS D cy U ∧ mHS ad xs ys XL (mA ad) U U.heap ∧ mTh (mA ad) U U.heap)) := by
  intro a U g mk q
  obtain ⟨q0, q1, q2, q3, q4⟩ := q
  have hal : U.vm.Alike (U.calling g mk a).vm := Vm.Alike.refl U.vm
  refine ⟨q0, q1, ⟨va_K.moved (u := U) (U := U.calling g mk a) hal q2.1, fun w hw hn => va_Nw.same (by cases w <;> first | (simp [isNestW] at hn; done) | rfl) (u := U) (U := U.calling g mk a) rfl (q2.2 w hw hn)⟩, ⟨va_X.moved (u := U) (U := U.calling g mk a) hal q3.1, va_X.moved (u := U) (U := U.calling g mk a) hal q3.2.1, va_Z.moved (u := U) (U := U.calling g mk a) hal q3.2.2⟩, ⟨fun w hw hg => va_Nw.same (List.all_eq_true.mp tW_tab w hw) (u := U) (U := U.calling g mk a) rfl (q4.1 w hw hg), vx_Zq.moved (u := U) (U := U.calling g mk a) hal q4.2.1, vx_Zq.moved (u := U) (U := U.calling g mk a) hal q4.2.2⟩⟩
theorem run_virtT (hF : mFix ad XL A) {pc idx jc n : Nat} {acc S : List mV} {o : mO} {σ : mS} {r : mR} (hML : MLok ((mrow j).2.2.2.2.1, idx, jc, 0, n)) (hfr0 : (mrow jc).2.2.2.2.2.1 + 1 ≤ (mrow j).2.2.2.2.2.1) (hlo0 : 8 + ((mrow jc).2.2.1 + 11) + (mrow jc).2.2.2.2.2.2 ≤ (mrow j).2.2.2.2.2.2) (hkr : (mrow jc).2.2.2.2.1 < 11) (ho : o.1 = (mrow jc).2.2.2.2.1) (hn : acc.length + 1 = n) (hwS : swords S ≤ 8) (hok : okR o)
    (hM : MetT l D cy ad xs ys XL jc (.inr (.inr o) :: acc) σ r) (hd : decode (mrow j).2.1 pc = .ok (.invokevirtual idx, 3))
    {p : Program} {e : Env} {R : Room} {s : State} {m : MethodId} {args : Array Value} {below : List Frame} {meth : Method} {c : Code} {H : Heap} {locs : List Loc} {cells slots : Nat} {ls : Array Slot} (C : mCtx D cy ad xs ys XL A j p s m args c) (hTh : mTh A s s.heap) (hfr : (mrow j).2.2.2.2.2.1 ≤ R.frames) (hlo : (mrow j).2.2.2.2.2.2 ≤ R.locals) (hc : cells + 1 ≤ R.cells) (hs : slots + 6 ≤ R.slots) (hRel : mRel D cy ad xs ys XL σ H) (hSS : va_S A s.heap H locs) (hsz : ls.size = (mrow j).2.2.1) :
    vx_Run p l e R s m args below meth c H locs cells slots 1 6 (F0 m pc ls ((acc.map (toV ad)).reverse ++ .ref (ad o) :: S.map (toV ad))) (S.map (toV ad)) (mQt D cy ad xs ys XL r ((Value.ref (ad o) :: acc.map (toV ad)).toArray)) (mXt D cy ad xs ys XL r) (mA ad) := by
  obtain ⟨hx, hb, hml, hown, hts, hKS, hHS, hT0⟩ := id C
  obtain ⟨m1, m2, m3, m4, ⟨m5, m6, m7⟩, m8, m9⟩ := hML
  dsimp only at m1 m2 m3 m4 m5 m6 m7 m8 m9
  have hoO : okO o := okR_ok hok (by omega)
  obtain ⟨q0, hq, hw⟩ := ws_at (cy := cy) (ad := ad) hoO
  have he := hw σ
  rw [mCell_obj (by omega), ho] at he
  have hdesc : (parseMethodDescriptor (mrow jc).1.desc).map (fun d => d.parameters.length) = some acc.length := by
    cases hq2 : parseMethodDescriptor (mrow jc).1.desc with
    | none => rw [hq2] at m7; cases m7
    | some d =>
      rw [hq2] at m7
      have := Option.some.inj m7
      show some d.parameters.length = some acc.length
      congr 1
      have h3 : d.parameters.length + 1 = n := this
      omega
  have hsum := swords_sum ad S
  refine vx_runV (As := acc.map (toV ad)) (rest := S.map (toV ad)) (n := acc.length) (C := cn (mrow jc).2.2.2.2.1) ⟨hx, hb, hml, hown, hts⟩ hM ⟨callB_of acc.length hts (good_mW m8) rfl rfl rfl (hts _ m4) (hts _ m1) ⟨m5, m6, hdesc⟩ ⟨Nat.le_trans hfr0 hfr, Nat.le_trans hlo0 hlo⟩, hts _ m2, by rw [← m9]; exact hts _ m3⟩ ⟨blind_ofT, va_recv hKS.1 hRel.1 (fCl _ hkr) he, fun U hU hW => ⟨rfl, ?_⟩⟩ rfl (by simp) hsz rfl (by show 2 * 0 + _ ≤ 8; omega) hd ⟨hc, hs⟩
  obtain ⟨a1, a2, a3⟩ := pre_of hF hU hW hRel hKS hHS hSS
  exact ⟨a1, a2, a3, pre_ofT hF hU hW hTh hSS⟩
end CT

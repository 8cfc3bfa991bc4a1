/-! The law calls a helper -/
section RH6
variable {l : Launch} {D : va_G} {cy : Nat → ClassId} {ad : mO → Nat} {xs ys : Nat → Int32} {XL : Nat} {A : Nat → Prop} {b : Nat} {j : Nat}
theorem run_help (hF : mFix ad XL A) {pc idx jc n : Nat} {hh : List (Nat × Nat × Nat × Nat)} {acc S : List mV} {σ σ' : mS} {k : Int32} (hG : GoodIn mBig (va_wsS (cn (mrow j).2.2.2.2.1) idx (mrow jc).1 (mWh jc hh))) (hd7 : (mrow jc).1.cls ≠ "java/lang/invoke/MethodHandle" ∧ (mrow jc).1.cls ≠ "java/lang/invoke/VarHandle" ∧ (parseMethodDescriptor (mrow jc).1.desc).map (fun d => d.parameters.length) = some n) (hfr0 : (mrow jc).2.2.2.2.2.1 + 1 ≤ (mrow j).2.2.2.2.2.1) (hlo0 : 8 + ((mrow jc).2.2.1 + 11) + (mrow jc).2.2.2.2.2.2 ≤ (mrow j).2.2.2.2.2.2) (hn : acc.length = n) (hwS : swords S ≤ 8)
    (hM : MetHp l D cy ad xs ys XL jc hh acc σ k σ') (hd : decode (mrow j).2.1 pc = .ok (.invokestatic idx, 3))
    {p : Program} {e : Env} {R : Room} {s : State} {m : MethodId} {args : Array Value} {below : List Frame} {meth : Method} {c : Code} {H : Heap} {locs : List Loc} {cells slots : Nat} {ls : Array Slot} (C : mCtx D cy ad xs ys XL A j p s m args c) (hTh : mTh A s s.heap) (hfr : (mrow j).2.2.2.2.2.1 ≤ R.frames) (hlo : (mrow j).2.2.2.2.2.2 ≤ R.locals) (hc : cells + 1 ≤ R.cells) (hs : slots + 6 ≤ R.slots) (hRel : mRel D cy ad xs ys XL σ H) (hSS : va_S A s.heap H locs) (hsz : ls.size = (mrow j).2.2.1) :
    vx_Run p l e R s m args below meth c H locs cells slots 1 6 (F0 m pc ls ((acc.map (toV ad)).reverse ++ S.map (toV ad))) (S.map (toV ad)) (mQc D cy ad xs ys XL (some (.inl k)) σ' ((acc.map (toV ad)).toArray)) (fun _ _ _ => False) (mA ad) := by
  obtain ⟨hx, hb, hml, hown, hts, hKS, hHS, hT0⟩ := id C
  have hsum := swords_sum ad S
  refine vx_runSX (As := acc.map (toV ad)) (rest := S.map (toV ad)) (n := n) (hh := hh) ⟨hx, hb, hml, hown, hts⟩ hM (vx_cwSW n hts hG rfl rfl rfl hd7 ⟨Nat.le_trans hfr0 hfr, Nat.le_trans hlo0 hlo⟩) ⟨blind_ofT, fun U hU hW => ⟨rfl, ?_⟩⟩ rfl (by simp [hn]) hsz rfl (by show 2 * 0 + _ ≤ 8; omega) hd ⟨hc, hs⟩
  obtain ⟨a1, a2, a3⟩ := pre_of hF hU hW hRel hKS hHS hSS
  exact ⟨a1, a2, a3, pre_ofT hF hU hW hTh hSS⟩
end RH6

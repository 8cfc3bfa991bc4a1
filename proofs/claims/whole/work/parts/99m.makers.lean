/-! Makers: what all constructors have in common -/
section MK1
variable {l : Launch} {D : va_G} {cy : Nat → ClassId} {t0 : Nat × Nat}
def fst12 (j : Nat) : Int32 := match j with
  | 0 => nI 5 | 1 => nI 2 | 2 => nI 4 | 3 => nI 2 | 4 => nI 2 | 5 => nI 3 | 6 => nI 6 | 7 => nI 3 | 8 => nI 7 | 9 => nI 15 | 10 => nI 15 | 11 => nI 31
  | _ => 0
def fst13 (j : Nat) : Int32 := if j = 12 then nI 1 else fst12 j
def cPre (D : va_G) (cy : Nat → ClassId) (t0 : Nat × Nat) (A : Nat → Prop) (U : State) (H : Heap) : Prop := mKS D cy U ∧ (va_AO RX8 U ∧ va_AO RX6 U ∧ va_AO RX0 U) ∧ va_T .int t0.1 12 (fun j => .int (fst12 j)) A U H ∧ va_Z RX9 "SETTING_AT_FIRST" "[I" (.ref t0.1) A U H ∧ va_T .int t0.2 13 (fun j => .int (fst13 j)) A U H ∧ va_Z RX10 "AT_FIRST" "[I" (.ref t0.2) A U H
theorem cPre.moves {A B : Nat → Prop} {s U : State} {H : Heap} {locs : List Loc} (h : cPre D cy t0 A s s.heap) (hU : U.heap = H) (hW : s.WarmedH U.vm) (hSS : va_S A s.heap H locs) (hAB : ∀ q, B q → A q) : cPre D cy t0 B U U.heap := by
  have hal := hW.alike
  obtain ⟨h1, ⟨a1, a2, a3⟩, h3, h4, h5, h6⟩ := h
  refine ⟨⟨va_K.moved hal h1.1, fun w hw hn => nest_warm hn hW (h1.2 w hw hn)⟩, ⟨va_AO.moved hal a1, va_AO.moved hal a2, va_AO.moved hal a3⟩, ?_, ?_, ?_, ?_⟩
  · rw [hU]; exact (va_T.moved hal (h3.kept fun a x y => hSS.2.1 a x y)).narrow hAB
  · rw [hU]; exact (va_Z.moved hal (h4.kept fun a x y => hSS.2.1 a x y)).narrow hAB
  · rw [hU]; exact (va_T.moved hal (h5.kept fun a x y => hSS.2.1 a x y)).narrow hAB
  · rw [hU]; exact (va_Z.moved hal (h6.kept fun a x y => hSS.2.1 a x y)).narrow hAB
theorem cPre.blind {A : Nat → Prop} {U : State} {g : JFrame} {mk : MethodId} {a : Array Value} (h : cPre D cy t0 A U U.heap) : cPre D cy t0 A (U.calling g mk a) (U.calling g mk a).heap := by
  have hal : U.vm.Alike (U.calling g mk a).vm := Vm.Alike.refl U.vm
  obtain ⟨h1, ⟨a1, a2, a3⟩, h3, h4, h5, h6⟩ := h
  refine ⟨⟨va_K.moved hal h1.1, fun w hw hn => va_Nw.same (by cases w <;> first | (simp [isNestW] at hn; done) | rfl) (u := U) (U := U.calling g mk a) rfl (h1.2 w hw hn)⟩, ⟨va_AO.moved hal a1, va_AO.moved hal a2, va_AO.moved hal a3⟩, va_T.moved (u := U) (U := U.calling g mk a) hal h3, va_Z.moved (u := U) (U := U.calling g mk a) hal h4, va_T.moved (u := U) (U := U.calling g mk a) hal h5, va_Z.moved (u := U) (U := U.calling g mk a) hal h6⟩
def CMet {Sg : Type} (hdS : Sg → Nat) (l : Launch) (D : va_G) (cy : Nat → ClassId) (t0 : Nat × Nat) (ci : Nat) (y : MethodName) (bytes : ByteArray) (maxL : Nat) (fs : List Value) (Wf : Sg → va_W) (fr lo mc ms : Nat) : Prop :=
  ∀ h0 sz : Nat, Met l y (.code y bytes maxL none :: mBig) { frames := fr, cells := mc, slots := ms, locals := lo }
    (va_Pc [.ref h0] (fun U => U.heap.size = sz ∧ va_P D vwCl [(h0, .inr (ci, fs))] U.heap ∧ cPre D cy t0 (va_A [(h0, .inr (ci, fs))] sz) U U.heap))
    (va_Qv (fun g : Sg => hdS g = h0) (fun g u => va_P D vwCl (Wf g) u.heap ∧ va_D (va_A [(h0, .inr (ci, fs))] sz) (Wf g)) (va_A [(h0, .inr (ci, fs))] sz)) mc ms (va_A [(h0, .inr (ci, fs))] sz)
theorem good_cM {y : MethodName} {bytes : ByteArray} {maxL : Nat} (h : Cond.code y bytes maxL none ∈ mBig) : GoodIn mBig (.code y bytes maxL none :: mBig) := fun w hw => by
  have hm : w ∈ mBig := by
    rcases List.mem_cons.mp hw with rfl | hw
    · exact h
    · exact hw
  exact ⟨hm, good_of_word (List.mem_filter.mp hm).2⟩
theorem p_swp {X pl w : va_W} {H : Heap} (h : va_P D vwCl ((X ++ pl) ++ w) H) : va_P D vwCl ((X ++ w) ++ pl) H := va_P.swap h
theorem ct_make {Sg : Type} {hdS : Sg → Nat} {A : Nat → Prop} {ci : Nat} {y : MethodName} {bytes : ByteArray} {maxL : Nat} {fs : List Value} {Wf : Sg → va_W} {fr lo mc ms : Nat} (hM : CMet hdS l D cy t0 ci y bytes maxL fs Wf fr lo mc ms) (hci : ci < 11) (hyc : y.cls = cn ci) (hyn : y.name = "<init>") (hyd : y.cls ≠ "java/lang/invoke/MethodHandle" ∧ y.cls ≠ "java/lang/invoke/VarHandle" ∧ (parseMethodDescriptor y.desc).map (fun d => d.parameters.length) = some 0)
    (hcode : Cond.code y bytes maxL none ∈ mBig) (hinm : Cond.instanceMethod y ∈ mBig) (hini : Cond.initialized (cn ci) ∈ mBig) (hinst : Cond.instantiable (cn ci) (fN ci) ∈ mBig) (hfs : ∀ j, j < fN ci → defaultValue (fY ci j) = vp_V fs j)
    {own : String} {idx idx2 : Nat} (hcl : Cond.classLink own idx (cn ci) ∈ mBig) (hlk : Cond.methodLink own idx2 y ∈ mBig ∨ ∃ host, Cond.methodLinkNest own idx2 y host ∈ tables_1)
    {cc : ByteArray} {pc : Nat} (hd1 : decode cc pc = .ok (.new idx, 3)) (hd2 : decode cc (pc + 3) = .ok (.dup, 1)) (hd3 : decode cc (pc + 4) = .ok (.invokespecial idx2, 3))
    {p : Program} {e : Env} {R : Room} {s : State} {m : MethodId} {args : Array Value} {below : List Frame} {meth : Method} {c : Code} {H : Heap} {locs : List Loc} {cells slots nL : Nat} {Q : State → Prop} {ls : Array Slot} {rest : List Value} {X pl : va_W}
    (S : CallFix p m c cc nL s args mBig own) (hsz : ls.size = nL) (hK : cPre D cy t0 A s s.heap) (hP : va_P D vwCl (X ++ pl) H) (hD : va_D A (X ++ pl)) (hS : va_S A s.heap H locs) (hA : ∀ q : Nat, s.heap.size ≤ q → A q)
    (hroom : fr + 1 ≤ R.frames ∧ 8 + (maxL + 11) + lo ≤ R.locals) (hc : cells + 1 + mc ≤ R.cells) (hs : slots + fN ci + ms ≤ R.slots) (hw : 1 + (rest.map fun v => v.category).sum ≤ 8)
    (kk : ∀ (g : Sg) (H1 : Heap) (locs1 : List Loc), va_P D vwCl (X ++ (pl ++ Wf g)) H1 → va_D A (X ++ (pl ++ Wf g)) → va_S A s.heap H1 locs1 → W p l e R s m args below meth c H1 locs1 (cells + 1 + mc) (slots + fN ci + ms) Q (F0 m (pc + 7) ls (.ref (hdS g) :: rest))) :
    W p l e R s m args below meth c H locs cells slots Q (F0 m pc ls rest) := by
  obtain ⟨hx, hb, hml, hown, hts⟩ := id S
  refine va_new (ci := ci) (fs := fs) (C := cn ci) (T := fT ci) (N := fN ci) (Ts := mBig) hx hb hts (fLay ci hci) (fY ci) (fTy ci hci) hown (hts _ hcl) (hts _ hinst) (hts _ hini) hK.1.1 hP hD hS hA (fCl ci hci) hfs (by omega) (by omega) hd1 (fun q H1 hP1 hD1 hS1 => ?_)
  refine lv_dup hx hb hd2 rfl ?_
  have hP2 : va_P D vwCl ([(q, .inr (ci, fs))] ++ (X ++ pl)) H1 := by
    have h : va_P D vwCl (([] ++ (X ++ pl)) ++ [(q, .inr (ci, fs))]) H1 := hP1
    exact h.swap
  have hD2 : va_D A ([(q, .inr (ci, fs))] ++ (X ++ pl)) := by
    have h : va_D A (([] ++ (X ++ pl)) ++ [(q, .inr (ci, fs))]) := hD1
    exact h.swap
  have hPc : va_P D vwCl [(q, .inr (ci, fs))] H1 := hP2.sub [0] rfl
  have hFc : ∀ z, va_A [(q, .inr (ci, fs))] H1.size z → A z := va_free (wc := [(q, .inr (ci, fs))]) hD2 hS1 hA [0] rfl
  have hrun : va_Run p l e R s m args below meth c H1 locs (cells + 1) (slots + fN ci) mc ms (F0 m (pc + 4) ls (.ref q :: .ref q :: rest)) (.ref q :: rest) (va_Qv (fun g : Sg => hdS g = q) (fun g u => va_P D vwCl (Wf g) u.heap ∧ va_D (va_A [(q, .inr (ci, fs))] H1.size) (Wf g)) (va_A [(q, .inr (ci, fs))] H1.size) (Value.ref q :: []).toArray) (va_A [(q, .inr (ci, fs))] H1.size) := by
    have hpre : PreS s H1 (va_Pc [.ref q] (fun U => U.heap.size = H1.size ∧ va_P D vwCl [(q, .inr (ci, fs))] U.heap ∧ cPre D cy t0 (va_A [(q, .inr (ci, fs))] H1.size) U U.heap)) [.ref q] :=
      ⟨fun a U g mk h => ⟨h.1, h.2.1, h.2.2.1, h.2.2.2.blind⟩, fun U hU hW => ⟨rfl, by rw [hU], by rw [hU]; exact hPc, hK.moves hU hW hS1 hFc⟩⟩
    have hcat : 2 * (F0 m (pc + 4) ls (.ref q :: .ref q :: rest)).monitorRoom + ((Value.ref q :: rest).map fun v => v.category).sum ≤ 8 := by
      show 2 * 0 + (1 + (rest.map fun v => v.category).sum) ≤ 8
      omega
    rcases hlk with hlk | ⟨host, hlk⟩
    · exact va_runI (As := []) (rest := .ref q :: rest) ⟨hx, hb, hml, hown, hts⟩ (hM q H1.size) (cwI 0 hts (good_cM hcode) rfl rfl rfl (by rw [hyc]; exact hts _ hini) (hts _ hlk) (hts _ hinm) hyn hyd hroom) hpre rfl rfl hsz rfl hcat hd3 ⟨hc, hs⟩
    · exact va_runIN (As := []) (rest := .ref q :: rest) (host := host) ⟨hx, hb, hml, hown, hts⟩ (hM q H1.size) ⟨va_cnB 0 hts (good_cM hcode) rfl rfl rfl (hK.1.2 _ hlk rfl) (by rw [hyc]; exact hts _ hini) hyd hroom, hyn, hts _ hinm⟩ hpre rfl rfl hsz rfl hcat hd3 ⟨hc, hs⟩
  refine va_callv hrun hS1 (fun z _ h => hFc z h) hFc (fun g t H2 locs2 ht hvm h5 hB hz1 hk1 hS2 => ?_)
  obtain ⟨hP3, hD3⟩ := hB
  rw [ht] at hP3
  obtain ⟨hP4, hD4⟩ := va_joinQ (X := [(q, .inr (ci, fs))]) (cx := [(q, .inr (ci, fs))]) (wr := []) (pl := X ++ pl) hP2 hD2 [0] [] rfl rfl rfl (fun i h => absurd h List.not_mem_nil) hk1 hFc hP3 hD3
  have hP5 : va_P D vwCl (X ++ (pl ++ Wf g)) H2 := by
    have h := va_P.swap hP4
    rw [← List.append_assoc]
    exact h
  have hD5 : va_D A (X ++ (pl ++ Wf g)) := by
    have h := va_D.swap hD4
    rw [← List.append_assoc]
    exact h
  have h6 := kk g H2 locs2 hP5 hD5 hS2
  rw [h5] at h6
  exact h6
end MK1

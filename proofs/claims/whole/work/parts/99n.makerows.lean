/-! Makers: rows, fields, the loop that fills a row of references -/
section MK2
variable {l : Launch} {D : va_G} {cy : Nat → ClassId} {t0 : Nat × Nat}
theorem pl_at {X pl : va_W} {q : Nat} {v : Nat × va_E} (h : X[q]? = some v) : (X ++ pl)[q]? = some v := by
  rw [List.getElem?_append_left (List.getElem?_eq_some_iff.mp h).1]; exact h
theorem pl_st {X pl : va_W} {q : Nat} {v w : Nat × va_E} (h : X[q]? = some v) : (X ++ pl).set q w = X.set q w ++ pl := List.set_append_left _ _ (List.getElem?_eq_some_iff.mp h).1
section MKr
variable {A : Nat → Prop} {p : Program} {e : Env} {R : Room} {s : State} {m : MethodId} {args : Array Value} {below : List Frame} {meth : Method} {c : Code} {H : Heap} {locs : List Loc} {cells slots nL : Nat} {Q : State → Prop} {ls : Array Slot} {rest : List Value} {X pl : va_W} {cc : ByteArray} {pc : Nat} {own : String}
theorem ct_newa (S : CallFix p m c cc nL s args mBig own) {atype : ArrayType} {ty : FieldType} (hty : newarray.typeOf atype = ty) (harr : Cond.arrayClass ty ∈ mBig) {k t1 : Nat} (ht1 : (mTys cy)[t1]? = some (cy k, ty)) (hra : ∀ (U : State) (cA : ClassId), va_RA U cA ty → U.vm.findClass ("[" ++ ty.toString) = some cA)
    {n : Int32} {N : Nat} {a0 : vp_A} (ha : ∀ cA : ClassId, vp_cell cA a0 = arrV cA N (fun _ => defaultValue ty)) (hn : ¬ n < 0) (hN : n.toNatClampNeg = N) (hbytes : N * componentBytes ty ≤ 536870912) (hd : decode cc pc = .ok (.newarray atype, 2))
    (hK : cPre D cy t0 A s s.heap) (hP : va_P D vwCl (X ++ pl) H) (hD : va_D A (X ++ pl)) (hS : va_S A s.heap H locs) (hA : ∀ q : Nat, s.heap.size ≤ q → A q) (hc : cells + 1 ≤ R.cells) (hs : slots + N ≤ R.slots)
    (kk : ∀ (q : Nat) (H1 : Heap), va_P D vwCl ((X ++ [(q, .inl (cy k, a0))]) ++ pl) H1 → va_D A ((X ++ [(q, .inl (cy k, a0))]) ++ pl) → va_S A s.heap H1 locs → W p l e R s m args below meth c H1 locs (cells + 1) (slots + N) Q (F0 m (pc + 2) ls (.ref q :: rest))) :
    W p l e R s m args below meth c H locs cells slots Q (F0 m pc ls (.int n :: rest)) := by
  obtain ⟨hx, hb, hml, hown, hts⟩ := id S
  subst hty
  refine va_newa (atype := atype) hx hb (hts _ harr) rfl hK.1.1 hP hD hS hA ha hn hN hbytes hc hs hd (fun q cA H1 hK1 hP1 hD1 hS1 => ?_)
  have e1 := hra s _ ((hK.1.1.2 t1 _ ht1).2)
  have e2 := hra s cA ((hK1.2 (mTys cy).length (cA, newarray.typeOf atype) (by rw [List.getElem?_append_right (Nat.le_refl _), Nat.sub_self]; rfl)).2)
  have e3 : cA = cy k := Option.some.inj (e2.symm.trans e1)
  subst e3
  exact kk q H1 hP1.swap hD1.swap hS1
theorem ct_newq (S : CallFix p m c cc nL s args mBig own) {C : String} (hao : va_AO C s) {idx : Nat} (hcl : Cond.classLink own idx C ∈ mBig) {k t1 : Nat} (ht1 : (mTys cy)[t1]? = some (cy k, .object C))
    {n : Int32} {N : Nat} (hn : ¬ n < 0) (hN : n.toNatClampNeg = N) (hbytes : N * 4 ≤ 536870912) (hd : decode cc pc = .ok (.anewarray idx, 3))
    (hK : cPre D cy t0 A s s.heap) (hP : va_P D vwCl (X ++ pl) H) (hD : va_D A (X ++ pl)) (hS : va_S A s.heap H locs) (hA : ∀ q : Nat, s.heap.size ≤ q → A q) (hc : cells + 1 ≤ R.cells) (hs : slots + N ≤ R.slots)
    (kk : ∀ (q : Nat) (H1 : Heap), va_P D vwCl ((X ++ [(q, .inl (cy k, N, .inr (.inr (.inr (.inr (fun _ => none))))))]) ++ pl) H1 → va_D A ((X ++ [(q, .inl (cy k, N, .inr (.inr (.inr (.inr (fun _ => none))))))]) ++ pl) → va_S A s.heap H1 locs → W p l e R s m args below meth c H1 locs (cells + 1) (slots + N) Q (F0 m (pc + 3) ls (.ref q :: rest))) :
    W p l e R s m args below meth c H locs cells slots Q (F0 m pc ls (.int n :: rest)) := by
  obtain ⟨hx, hb, hml, hown, hts⟩ := id S
  refine va_newq (C := C) hx hb hown (hts _ hcl) hao hK.1.1 hP hD hS hA hn hN hbytes hc hs hd (fun q cA H1 hK1 hP1 hD1 hS1 => ?_)
  obtain ⟨_, _, _, _, _, e1⟩ := (hK.1.1.2 t1 _ ht1).2
  obtain ⟨_, _, _, _, _, e2⟩ := (hK1.2 (mTys cy).length (cA, .object C) (by rw [List.getElem?_append_right (Nat.le_refl _), Nat.sub_self]; rfl)).2
  have e3 : cA = cy k := Option.some.inj (e2.symm.trans e1)
  subst e3
  exact kk q H1 hP1.swap hD1.swap hS1
theorem ct_putF (S : CallFix p m c cc nL s args mBig own) {idx ci f : Nat} (hk : Cond.fieldLink (cn ci) idx (cn ci) (fT ci f).2.1 (fT ci f).2.2.1 ∈ mBig) (hci : ci < 11) (hfn : f < fN ci) (hown2 : own = cn ci) (hfin : (fT ci f).2.2.2 = true) (hin : meth.name = "<init>") {ty : FieldType} (hty : fY ci f = ty) {a : Nat} {v : Value} (hnr : narrow ty v = v) (hfit : fits ty v = true) {q0 : Nat} {fs : List Value} (he : X[q0]? = some (a, .inr (ci, fs))) (hl : f < fs.length) (hd : decode cc pc = .ok (.putfield idx, 3))
    (hK : cPre D cy t0 A s s.heap) (hP : va_P D vwCl (X ++ pl) H) (hD : va_D A (X ++ pl)) (hS : va_S A s.heap H locs)
    (kk : ∀ (H1 : Heap) (locs1 : List Loc), va_P D vwCl (X.set q0 (a, .inr (ci, fs.set f v)) ++ pl) H1 → va_D A (X.set q0 (a, .inr (ci, fs.set f v)) ++ pl) → va_S A s.heap H1 locs1 → W p l e R s m args below meth c H1 locs1 cells slots Q (F0 m (pc + 3) ls rest)) :
    W p l e R s m args below meth c H locs cells slots Q (F0 m pc ls (v :: .ref a :: rest)) := by
  obtain ⟨hx, hb, hml, hown, hts⟩ := id S
  subst hown2
  refine va_putF (ref := cn ci) hx hb hts (fLay ci hci) (fY ci) (fTy ci hci) (fNm ci hci) hown hK.1.1 hP hD hS q0 (pl_at he) (fCl ci hci) f hfn (hts _ hk) (fun _ h => by rw [← fDc ci hci f hfn]; exact h) hfin hin (fDc ci hci f hfn) (ty := ty) (by rw [fTy ci hci f hfn, hty]) hnr hfit hl hd (fun H1 locs1 h1 h2 h3 => ?_)
  rw [pl_st he] at h1 h2
  exact kk H1 locs1 h1 h2 h3
theorem ct_putI (S : CallFix p m c cc nL s args mBig own) {o idx ci f : Nat} (hlk : FLok (o, idx, ci, f)) (hown2 : own = cn o) (hfin : (fT ci f).2.2.2 = false) {ty : FieldType} (hty : fY ci f = ty) {a : Nat} {v : Value} (hnr : narrow ty v = v) (hfit : fits ty v = true) {q0 : Nat} {fs : List Value} (he : X[q0]? = some (a, .inr (ci, fs))) (hl : f < fs.length) (hd : decode cc pc = .ok (.putfield idx, 3))
    (hK : cPre D cy t0 A s s.heap) (hP : va_P D vwCl (X ++ pl) H) (hD : va_D A (X ++ pl)) (hS : va_S A s.heap H locs)
    (kk : ∀ (H1 : Heap) (locs1 : List Loc), va_P D vwCl (X.set q0 (a, .inr (ci, fs.set f v)) ++ pl) H1 → va_D A (X.set q0 (a, .inr (ci, fs.set f v)) ++ pl) → va_S A s.heap H1 locs1 → W p l e R s m args below meth c H1 locs1 cells slots Q (F0 m (pc + 3) ls rest)) :
    W p l e R s m args below meth c H locs cells slots Q (F0 m pc ls (v :: .ref a :: rest)) := by
  obtain ⟨hx, hb, hml, hown, hts⟩ := id S
  obtain ⟨hk, hci, hfn⟩ := hlk
  dsimp only at hk hci hfn
  subst hown2
  have key : ∀ (H1 : Heap) (locs1 : List Loc), va_P D vwCl ((X ++ pl).set q0 (a, .inr (ci, fs.set f v))) H1 → va_D A ((X ++ pl).set q0 (a, .inr (ci, fs.set f v))) → va_S A s.heap H1 locs1 → W p l e R s m args below meth c H1 locs1 cells slots Q (F0 m (pc + 3) ls rest) := fun H1 locs1 h1 h2 h3 => by
    rw [pl_st he] at h1 h2
    exact kk H1 locs1 h1 h2 h3
  rcases hk with hk | hk
  · exact va_put (ref := cn ci) hx hb hts (fLay ci hci) (fY ci) (fTy ci hci) (fNm ci hci) hown hK.1.1 hP hD hS q0 (pl_at he) (fCl ci hci) f hfn (hts _ hk) (fun _ h => by rw [← fDc ci hci f hfn]; exact h) hfin (ty := ty) (by rw [fTy ci hci f hfn, hty]) hnr hfit hl hd key
  · exact va_putN (ref := cn ci) hx hb hts (fLay ci hci) (fY ci) (fTy ci hci) (fNm ci hci) hown hK.1.1 hP hD hS q0 (pl_at he) (fCl ci hci) f hfn (va_Nw.use rfl (hK.1.2 _ hk rfl)) (fun _ h => by rw [← fDc ci hci f hfn]; exact h) hfin (ty := ty) (by rw [fTy ci hci f hfn, hty]) hnr hfit hl hd key
theorem ct_get (S : CallFix p m c cc nL s args mBig own) {o idx ci f : Nat} (hlk : FLok (o, idx, ci, f)) (hown2 : own = cn o) {a : Nat} {v : Value} {q0 : Nat} {fs : List Value} (he : X[q0]? = some (a, .inr (ci, fs))) (hv : fs[f]? = some v) (hd : decode cc pc = .ok (.getfield idx, 3)) (hK : cPre D cy t0 A s s.heap) (hP : va_P D vwCl (X ++ pl) H)
    (kk : W p l e R s m args below meth c H locs cells slots Q (F0 m (pc + 3) ls (v :: rest))) :
    W p l e R s m args below meth c H locs cells slots Q (F0 m pc ls (.ref a :: rest)) := by
  obtain ⟨hx, hb, hml, hown, hts⟩ := id S
  obtain ⟨hk, hci, hfn⟩ := hlk
  dsimp only at hk hci hfn
  subst hown2
  rcases hk with hk | hk
  · exact va_get (ref := cn ci) hx hb hts (fLay ci hci) hown hK.1.1 hP q0 (pl_at he) (fCl ci hci) f hfn (hts _ hk) (fun _ h => by rw [← fDc ci hci f hfn]; exact h) hv hd kk
  · exact va_getN (ref := cn ci) hx hb hts (fLay ci hci) hown hK.1.1 hP q0 (pl_at he) (fCl ci hci) f hfn (va_Nw.use rfl (hK.1.2 _ hk rfl)) (fun _ h => by rw [← fDc ci hci f hfn]; exact h) hv hd kk
end MKr
/-- objects of one kind, one behind the other -/
def poolW {Sg : Type} (Wf : Sg → va_W) (gs : Nat → Sg) : Nat → va_W
  | 0 => []
  | k + 1 => poolW Wf gs k ++ Wf (gs k)
theorem poolW_congr {Sg : Type} {Wf : Sg → va_W} {gs gs' : Nat → Sg} : ∀ k : Nat, (∀ i, i < k → gs i = gs' i) → poolW Wf gs k = poolW Wf gs' k
  | 0, _ => rfl
  | k + 1, h => by
    unfold poolW
    rw [poolW_congr k (fun i hi => h i (by omega)), h k (by omega)]
def refsT {Sg : Type} (hdS : Sg → Nat) (gs : Nat → Sg) (k : Nat) : Nat → Option Nat := fun i => if i < k then some (hdS (gs i)) else none
theorem ct_loop {Sg : Type} {hdS : Sg → Nat} {A : Nat → Prop} {ci : Nat} {y : MethodName} {bytes : ByteArray} {maxL : Nat} {fs : List Value} {Wf : Sg → va_W} {fr lo mc ms : Nat} (hM : CMet hdS l D cy t0 ci y bytes maxL fs Wf fr lo mc ms) (hci : ci < 11) (hyc : y.cls = cn ci) (hyn : y.name = "<init>") (hyd : y.cls ≠ "java/lang/invoke/MethodHandle" ∧ y.cls ≠ "java/lang/invoke/VarHandle" ∧ (parseMethodDescriptor y.desc).map (fun d => d.parameters.length) = some 0)
    (hcode : Cond.code y bytes maxL none ∈ mBig) (hinm : Cond.instanceMethod y ∈ mBig) (hini : Cond.initialized (cn ci) ∈ mBig) (hinst : Cond.instantiable (cn ci) (fN ci) ∈ mBig) (hfs : ∀ j, j < fN ci → defaultValue (fY ci j) = vp_V fs j)
    {fs2 : Sg → List Value} (hW0 : ∀ g, (Wf g)[0]? = some (hdS g, .inr (ci, fs2 g)))
    {own : String} {idx idx2 idx3 : Nat} (hcl : Cond.classLink own idx (cn ci) ∈ mBig) (hlk : Cond.methodLink own idx2 y ∈ mBig ∨ ∃ host, Cond.methodLinkNest own idx2 y host ∈ tables_1)
    {cc : ByteArray} {hd B n : Nat} {o co f0 t1 ka : Nat} (hn : n < 100) (hfl : FLok (o, idx3, co, f0)) (hown2 : own = cn o) (ht1 : (mTys cy)[t1]? = some (cy ka, .object (cn ci)))
    (d0 : decode cc hd = .ok (.iload_n 1, 1)) (d2 : decode cc B = .ok (.if_icmp .ge 22, 3)) (d3 : decode cc (B + 3) = .ok (.aload_n 0, 1)) (d4 : decode cc (B + 4) = .ok (.getfield idx3, 3)) (d5 : decode cc (B + 7) = .ok (.iload_n 1, 1)) (d6 : decode cc (B + 8) = .ok (.new idx, 3)) (d7 : decode cc (B + 11) = .ok (.dup, 1)) (d8 : decode cc (B + 12) = .ok (.invokespecial idx2, 3)) (d9 : decode cc (B + 15) = .ok (.aastore, 1)) (d10 : decode cc (B + 16) = .ok (.iinc 1 1, 3)) {back : Int} (d11 : decode cc (B + 19) = .ok (.goto back, 3)) (hback : ((B + 19 : Nat) : Int) + back = (hd : Int))
    {p : Program} {e : Env} {R : Room} {s : State} {m : MethodId} {args : Array Value} {below : List Frame} {meth : Method} {c : Code} {Q : State → Prop} {h0 a : Nat}
    (S : CallFix p m c cc 2 s args mBig own) (hK : cPre D cy t0 A s s.heap) (hA : ∀ q : Nat, s.heap.size ≤ q → A q)
    (hpush : ∀ {H : Heap} {locs : List Loc} {cells slots : Nat} {ls : Array Slot} {rest : List Value}, W p l e R s m args below meth c H locs cells slots Q (F0 m B ls (.int (nI n) :: rest)) → W p l e R s m args below meth c H locs cells slots Q (F0 m (hd + 1) ls rest))
    (hroom : fr + 1 ≤ R.frames ∧ 8 + (maxL + 11) + lo ≤ R.locals)
    {X : (Nat → Option Nat) → va_W} {q0 qa : Nat} {fo : List Value} (hX0 : ∀ f, (X f)[q0]? = some (h0, .inr (co, fo))) (hfo : fo[f0]? = some (.ref a)) (hXa : ∀ f, (X f)[qa]? = some (a, .inl (cy ka, n, .inr (.inr (.inr (.inr f)))))) (hXs : ∀ f f', (X f).set qa (a, .inl (cy ka, n, .inr (.inr (.inr (.inr f'))))) = X f') {pl : va_W} :
    ∀ (d k : Nat) (gs : Nat → Sg) {H : Heap} {locs : List Loc} {cells slots : Nat} {ls : Array Slot}, k + d = n → lv_has ls 2 [(1, .int (nI k)), (0, .ref h0)] → va_P D vwCl (X (refsT hdS gs k) ++ (pl ++ poolW Wf gs k)) H → va_D A (X (refsT hdS gs k) ++ (pl ++ poolW Wf gs k)) → va_S A s.heap H locs → cells + d * (1 + mc) ≤ R.cells → slots + d * (fN ci + ms) ≤ R.slots →
      (∀ (gs : Nat → Sg) (H1 : Heap) (locs1 : List Loc) (ls1 : Array Slot), lv_has ls1 2 [(1, .int (nI n)), (0, .ref h0)] → va_P D vwCl (X (refsT hdS gs n) ++ (pl ++ poolW Wf gs n)) H1 → va_D A (X (refsT hdS gs n) ++ (pl ++ poolW Wf gs n)) → va_S A s.heap H1 locs1 → W p l e R s m args below meth c H1 locs1 (cells + d * (1 + mc)) (slots + d * (fN ci + ms)) Q (F0 m (B + 22) ls1 [])) →
      W p l e R s m args below meth c H locs cells slots Q (F0 m hd ls [])
  | 0, k, gs, H, locs, cells, slots, ls, hkd, hl, hP, hD, hS, hc, hs, hq => by
    obtain ⟨hx, hb, hml, hown, hts⟩ := id S
    have hkn : k = n := by omega
    subst hkn
    refine lv_iload_n hx hb d0 rfl (lv_at hl 0 rfl) ?_
    refine hpush ?_
    refine lv_icmp_ge hx hb d2 (tgt := B + 22) (by omega) (fun _ => ?_) (fun h => absurd (Int32.le_refl _) h)
    have h6 := hq gs H locs ls hl hP hD hS
    rw [Nat.zero_mul, Nat.zero_mul] at h6
    exact h6
  | d + 1, k, gs, H, locs, cells, slots, ls, hkd, hl, hP, hD, hS, hc, hs, hq => by
    obtain ⟨hx, hb, hml, hown, hts⟩ := id S
    have e1 : (d + 1) * (1 + mc) = (1 + mc) + d * (1 + mc) := by rw [Nat.add_mul, Nat.one_mul, Nat.add_comm]
    have e2 : (d + 1) * (fN ci + ms) = (fN ci + ms) + d * (fN ci + ms) := by rw [Nat.add_mul, Nat.one_mul, Nat.add_comm]
    rw [e1] at hc hq
    rw [e2] at hs hq
    refine lv_iload_n hx hb d0 rfl (lv_at hl 0 rfl) ?_
    refine hpush ?_
    refine lv_icmp_ge hx hb d2 (tgt := B + 22) (by omega) (fun h => ?_) (fun _ => ?_)
    · exact absurd h (Int32.not_le.mpr (nI_lt (by omega) (by omega)))
    refine lv_aload_n hx hb d3 rfl (lv_at hl 1 rfl) ?_
    refine ct_get (X := X (refsT hdS gs k)) S hfl hown2 (hX0 _) hfo d4 hK hP ?_
    refine lv_iload_n hx hb d5 rfl (lv_at hl 0 rfl) ?_
    refine ct_make hM hci hyc hyn hyd hcode hinm hini hinst hfs hcl hlk d6 d7 d8 S hl.1 hK hP hD hS hA hroom (by omega) (by omega) (by show 1 + (1 + (1 + 0)) ≤ 8; omega) (fun g H1 locs1 hP1 hD1 hS1 => ?_)
    have hin : vp_in (nI k) n := vp_in_nI (by omega) (by omega)
    have hqk : (X (refsT hdS gs k) ++ ((pl ++ poolW Wf gs k) ++ Wf g))[((X (refsT hdS gs k)).length + (pl ++ poolW Wf gs k).length)]? = some (hdS g, .inr (ci, fs2 g)) := by
      rw [List.getElem?_append_right (by omega), List.getElem?_append_right (by omega), show (X (refsT hdS gs k)).length + (pl ++ poolW Wf gs k).length - (X (refsT hdS gs k)).length - (pl ++ poolW Wf gs k).length = 0 from by omega]
      exact hW0 g
    refine va_astq (r := (cn ci, fT ci, fN ci)) hx hb hK.1.1 hP1 hD1 hS1 qa t1 ((X (refsT hdS gs k)).length + (pl ++ poolW Wf gs k).length) ci (pl_at (hXa _)) ht1 hqk (fCl ci hci) hin d9 (fun H2 locs2 hP2 hD2 hS2 => ?_)
    rw [nI_clamp (by omega), pl_st (hXa _), hXs] at hP2 hD2
    refine lv_iinc hx hb d10 hl (k := 0) rfl (v := nI (k + 1)) (by rw [nI_succ]; rfl) (by omega) (lv' := [(1, .int (nI (k + 1))), (0, .ref h0)]) rfl (fun ls1 hl1 => ?_)
    refine lv_goto hx hb d11 hback ?_
    have hgs : ∀ i, i < k → gs i = (fun i => if i = k then g else gs i) i := fun i hi => by
      show gs i = if i = k then g else gs i
      rw [if_neg (by omega)]
    have e3 : va_up (refsT hdS gs k) k (some (hdS g)) = refsT hdS (fun i => if i = k then g else gs i) (k + 1) := by
      funext i
      unfold va_up refsT
      by_cases h1 : i = k
      · subst h1
        simp
      · by_cases h2 : i < k
        · rw [if_neg h1, if_pos h2, if_pos (by omega)]
          show some (hdS (gs i)) = some (hdS (if i = k then g else gs i))
          rw [if_neg h1]
        · rw [if_neg h1, if_neg h2, if_neg (by omega)]
    have e4 : (pl ++ poolW Wf gs k) ++ Wf g = pl ++ poolW Wf (fun i => if i = k then g else gs i) (k + 1) := by
      rw [List.append_assoc, poolW_congr k hgs]
      show _ = pl ++ (poolW Wf _ k ++ Wf ((fun i => if i = k then g else gs i) k))
      simp
    rw [e3, e4] at hP2 hD2
    refine ct_loop hM hci hyc hyn hyd hcode hinm hini hinst hfs hW0 hcl hlk hn hfl hown2 ht1 d0 d2 d3 d4 d5 d6 d7 d8 d9 d10 d11 hback S hK hA hpush hroom hX0 hfo hXa hXs d (k + 1) (fun i => if i = k then g else gs i) (by omega) hl1 hP2 hD2 hS2 (by omega) (by omega) (fun gs1 H3 locs3 ls3 a1 a2 a3 a4 => ?_)
    have h6 := hq gs1 H3 locs3 ls3 a1 a2 a3 a4
    rw [← Nat.add_assoc, ← Nat.add_assoc, ← Nat.add_assoc, ← Nat.add_assoc] at h6
    exact h6
end MK2

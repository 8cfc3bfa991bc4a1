/-! Makers: a static row of ints comes into a new row -/
section MK3
variable {l : Launch} {D : va_G} {cy : Nat → ClassId} {t0 : Nat × Nat} {A : Nat → Prop} {p : Program} {e : Env} {R : Room} {s : State} {m : MethodId} {args : Array Value} {below : List Frame} {meth : Method} {c : Code} {H : Heap} {locs : List Loc} {cells slots nL : Nat} {Q : State → Prop} {ls : Array Slot} {X pl : va_W} {cc : ByteArray} {pc : Nat} {own : String}
theorem ct_copy (S : CallFix p m c cc nL s args mBig own) (hsz : ls.size = nL) {idx : Nat} (hlk : Cond.methodLink own idx arraycopyName ∈ mBig) (hnat : Cond.native arraycopyName ∈ mBig) (hstat : Cond.static arraycopyName ∈ mBig) (hini : Cond.initialized "java/lang/System" ∈ mBig)
    {t N : Nat} {F : Nat → Int32} (hT : va_T .int t N (fun j => .int (F j)) A s s.heap) (hK : cPre D cy t0 A s s.heap) (hP : va_P D vwCl (X ++ pl) H) (hD : va_D A (X ++ pl)) (hS : va_S A s.heap H locs)
    {q1 a : Nat} {g : Nat → Int32} (ha : X[q1]? = some (a, .inl (cy 1, N, .inl g))) (hN : N < 2 ^ 31) (hfr : 1 ≤ R.frames) (hlo : nativeFrameWords "java/lang/System" "arraycopy" 5 + 11 ≤ R.locals) (hd : decode cc pc = .ok (.invokestatic idx, 3))
    (kk : ∀ (H1 : Heap) (locs1 : List Loc), va_P D vwCl (X.set q1 (a, .inl (cy 1, N, .inl (va_cpy F g 0 0 N))) ++ pl) H1 → va_D A (X.set q1 (a, .inl (cy 1, N, .inl (va_cpy F g 0 0 N))) ++ pl) → va_S A s.heap H1 locs1 → W p l e R s m args below meth c H1 locs1 cells slots Q (F0 m (pc + 3) ls [])) :
    W p l e R s m args below meth c H locs cells slots Q (F0 m pc ls [.int (nI N), .int (nI 0), .ref a, .int (nI 0), .ref t]) := by
  obtain ⟨hx, hb, hml, hown, hts⟩ := id S
  obtain ⟨src, k1, ⟨k2, kS, k3, cS, k4⟩, k5, k6, -, k7, k8⟩ := hT
  have ha2 := pl_at (pl := pl) ha
  have z0 : (nI 0).toNatClampNeg = 0 := nI_clamp (by omega)
  have zN : (nI N).toNatClampNeg = N := nI_clamp hN
  have n0 : ¬ nI 0 < 0 := Int32.not_lt.mpr (Int32.le_refl _)
  have nN : ¬ nI N < 0 := Int32.not_lt.mpr (nI_le (a := 0) (by omega) hN)
  have g0 : H[t]? = some src := by rw [hS.2.1 t (Array.getElem?_eq_some_iff.mp k1).1 k8]; exact k1
  have g1 : H[a]? = some (vp_cell (cy 1) (N, .inl g)) := hP q1 _ ha2
  obtain ⟨-, kD, d3, cD, d4⟩ := (hK.1.1.2 0 _ rfl).1 N (fun j => .int (g j))
  have hcp : copied src (vp_cell (cy 1) (N, .inl g)) (nI 0) (nI 0) (nI N) = vp_cell (cy 1) (N, .inl (va_cpy F g 0 0 N)) := by
    have h : copied src (vp_cell (cy 1) (N, .inl g)) (nI 0) (nI 0) (nI N) = vp_cell (cy 1) (N, .inl (va_cpy F g (nI 0).toNatClampNeg (nI 0).toNatClampNeg (nI N).toNatClampNeg)) := va_copiedX (fun z => .int z) src (cy 1) F g k7 (by rw [z0, zN]; omega)
    rw [z0, zN] at h
    exact h
  intro T hTH X0
  obtain ⟨vm', X1, step⟩ := X0.arraycopy hx hown (hts _ hlk) (hts _ hnat) (hts _ hstat) (hts _ hini) (src := t) (dst := a) (cs := src) (cd := vp_cell (cy 1) (N, .inl g)) (srcPos := nI 0) (destPos := nI 0) (n := nI N) (by rw [hTH]; exact g0) (by rw [hTH]; exact g1)
    k2 (fun _ h => by cases h) k5 (fun h => by cases h) k3 d3 k4 d4 (by simp [refKind]) n0 n0 nN
    (by rw [nI_toInt (by omega), nI_toInt hN]; omega)
    (by rw [nI_toInt (by omega), nI_toInt hN]; show ¬ _ > ((arrV (cy 1) N (fun j => .int (g j))).slots.size : Int); rw [arrV_size]; omega)
    (fun vm₁ _ i hi => by
      have e1 : src.slots.getD ((nI 0).toNatClampNeg + i) .null = .int (F i) := by
        rw [z0, Nat.zero_add, Array.getD_eq_getD_getElem?, k7 _ (by omega)]
        rfl
      rw [e1]
      exact ⟨rfl, trivial⟩)
    (g := F0 m pc ls [.int (nI N), .int (nI 0), .ref a, .int (nI 0), .ref t]) rfl (by rw [hsz, hml]) (rest := []) rfl (by rw [hb]; exact hd) hfr (by show 2 * 0 + 0 + _ ≤ _; omega)
  rw [hcp] at X1 step
  have hl : a < H.size := (Array.getElem?_eq_some_iff.mp g1).1
  have hheap : ((T.setVm vm').setCell a (vp_cell (cy 1) (N, .inl (va_cpy F g 0 0 N)))).heap = H.setIfInBounds a (vp_cell (cy 1) (N, .inl (va_cpy F g 0 0 N))) := by rw [← hTH]; rfl
  have oq : ∀ q : Nat, q ≠ a → (H.setIfInBounds a (vp_cell (cy 1) (N, .inl (va_cpy F g 0 0 N))))[q]? = H[q]? := fun q hq => by simp [Array.getElem?_setIfInBounds, Ne.symm hq]
  have hP1 := hP.set (e := .inl (cy 1, N, .inl (va_cpy F g 0 0 N))) (H1 := H.setIfInBounds a (vp_cell (cy 1) (N, .inl (va_cpy F g 0 0 N)))) hD ha2 (show (H.setIfInBounds a (vp_cell (cy 1) (N, .inl (va_cpy F g 0 0 N))))[a]? = some (vp_cell (cy 1) (N, .inl (va_cpy F g 0 0 N))) by simp [Array.getElem?_setIfInBounds, hl]) oq
  have hD1 := hD.set (e := .inl (cy 1, N, .inl (va_cpy F g 0 0 N))) ha2
  rw [pl_st ha] at hP1 hD1
  obtain ⟨r, a1, b1⟩ := kk _ _ hP1 hD1 ⟨by simp; exact hS.1, fun q u1 u2 => by
      rw [oq q (fun z => u2 (by rw [z]; exact hD.2 q1 _ ha2))]
      exact hS.2.1 q u1 u2, fun q hq => by
      rcases List.mem_append.mp hq with h | h
      · exact hS.2.2 q h
      · obtain ⟨z, -, hz⟩ := List.mem_map.mp h
        rw [← hz]
        exact hD.2 q1 _ ha2⟩ _ hheap X1
  exact ⟨r, step r a1, b1⟩
end MK3

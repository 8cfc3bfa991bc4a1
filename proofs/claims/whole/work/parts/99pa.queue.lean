/-! Makers (by program: gen/writeCtor.py) -/
abbrev sY6 : Type := Nat × Nat
abbrev hs6 : sY6 → Nat := fun g => g.1
def wY6 (cy : Nat → ClassId) (g : sY6) : va_W := [(g.1, .inr (6, [.ref g.2, .int 0, .int 0, .int 0])), (g.2, .inl (cy 1, 40, .inl (fun _ => 0)))]
def sD6 : sY6 := (0, 0)
theorem ws6 : Cond.code yX6_init cX6_init 1 none ∈ mBig := (mB (mt1 (List.mem_of_getElem? (i := 183) rfl)) rfl)
theorem wi6 : Cond.instanceMethod yX6_init ∈ mBig := (mB (mt1 (List.mem_of_getElem? (i := 182) (by decide +kernel))) rfl)
theorem wn6 : Cond.initialized (cn 6) ∈ mBig := (mB (mt1 (List.mem_of_getElem? (i := 8) (by decide +kernel))) rfl)
theorem wt6 : Cond.instantiable (cn 6) (fN 6) ∈ mBig := (mB (mt1 (List.mem_of_getElem? (i := 180) (by decide +kernel))) rfl)
theorem wf6 : ∀ j, j < fN 6 → defaultValue (fY 6 j) = vp_V [.null, .int 0, .int 0, .int 0] j := by decide +kernel
theorem dk6_0 : decode cX6_init 0 = .ok (.aload_n 0, 1) := by decide +kernel
theorem dk6_1 : decode cX6_init 1 = .ok (.invokespecial 3, 3) := by decide +kernel
theorem dk6_4 : decode cX6_init 4 = .ok (.aload_n 0, 1) := by decide +kernel
theorem dk6_5 : decode cX6_init 5 = .ok (.bipush 40, 2) := by decide +kernel
theorem dk6_7 : decode cX6_init 7 = .ok (.newarray .int, 2) := by decide +kernel
theorem dk6_9 : decode cX6_init 9 = .ok (.putfield 9, 3) := by decide +kernel
theorem dk6_12 : decode cX6_init 12 = .ok (.return_, 1) := by decide +kernel
set_option maxHeartbeats 4000000 in
set_option maxRecDepth 100000 in
theorem mk_6 (l : Launch) {D : va_G} {cy : Nat → ClassId} {t0 : Nat × Nat} : CMet hs6 l D cy t0 6 yX6_init cX6_init 1 [.null, .int 0, .int 0, .int 0] (wY6 cy) 1 12 1 40 := by
  intro h0 sz
  refine Met.ofW (cc := cX6_init) (maxL := 1) (ret := none) (cn_plain 6) rfl ?_
  intro p e s m args below meth c s₁ B hml hv
  obtain ⟨rfl, hsz, hP0, hK⟩ := hv
  have hx := B.exec
  have hb := B.bytes
  have hr := B.returns
  have hts0 := atoms_spec (ws := .code yX6_init cX6_init 1 none :: mBig) B.pre
  have hts : ∀ w ∈ mBig, w.before ([.ref h0] : List Value).toArray s = true := fun w hw => hts0 w (List.mem_cons_of_mem _ hw)
  have hown : s.vm.findClass RX6 = some m.cls := findClass_of_methodNamed B.named
  have hlocks := B.notSynchronized
  have hin : meth.name = "<init>" := (name_of_methodNamed B.named B.method).1
  subst hsz
  have hD0 : va_D (fun _ => True) [(h0, (.inr (6, [.null, .int 0, .int 0, .int 0]) : va_E))] := d_one
  have hD := hD0.self (sz := s.heap.size)
  generalize hAe : va_A [(h0, (.inr (6, [.null, .int 0, .int 0, .int 0]) : va_E))] s.heap.size = A at hD hK ⊢
  have hA : ∀ q : Nat, s.heap.size ≤ q → A q := fun q h => by rw [← hAe]; exact Or.inr h
  have hS : va_S A s.heap s.heap [] := va_S.rf
  have S : CallFix p m c cX6_init 1 s ([.ref h0] : List Value).toArray mBig RX6 := ⟨hx, hb, hml, hown, hts⟩
  have hP : va_P D vwCl ([(h0, .inr (6, [.null, .int 0, .int 0, .int 0]))] ++ []) s.heap := hP0
  have hD : va_D A ([(h0, .inr (6, [.null, .int 0, .int 0, .int 0]))] ++ []) := hD
  have hl := lv_entry ([.ref h0]) (n := 1) (Nat.le_of_ble_eq_true rfl)
  rw [lg_entry_eq]
  generalize (lg_sl ([.ref h0]) ++ List.replicate (1 - (lg_sl ([.ref h0])).length) Slot.unset).toArray = ls at hl ⊢
  have hl : lv_has ls 1 [(0, .ref h0)] := hl
  refine lv_aload_n hx hb dk6_0 rfl (lv_at hl 0 rfl) ?_
  refine W.objInit hx hb hown (hts _ (mB (mt1 (List.mem_of_getElem? (i := 184) (by decide +kernel))) rfl)) (hts _ ob_i) (hts _ ob_c) rfl (by rw [hml]; exact hl.1) rfl dk6_1 (Nat.le_of_ble_eq_true rfl) (Nat.le_of_ble_eq_true rfl) ?_
  refine W.eq (g2 := F0 m 4 ls []) rfl ?_
  refine lv_aload_n hx hb dk6_4 rfl (lv_at hl 0 rfl) ?_
  refine lv_bipush hx hb dk6_5 (show (Int8.ofInt 40).toInt32 = nI 40 by decide) ?_
  refine ct_newa (cy := cy) (X := [(h0, .inr (6, [.null, .int 0, .int 0, .int 0]))]) (pl := []) S (atype := .int) (ty := .int) rfl (mB (mt1 (List.mem_of_getElem? (i := 45) (by decide +kernel))) rfl) (k := 1) (t1 := 0) rfl (fun _ _ h => h) (n := nI 40) (N := 40) (a0 := (40, .inl (fun _ => 0))) (fun _ => by first | rfl) (nI_nn (by omega)) (nI_clamp (by omega)) (Nat.le_of_ble_eq_true rfl) dk6_7 hK hP hD hS hA (Nat.le_of_ble_eq_true rfl) (Nat.le_of_ble_eq_true rfl) (fun q7 H hP hD hS => ?_)
  have hP : va_P D vwCl ([(h0, .inr (6, [.null, .int 0, .int 0, .int 0])), (q7, .inl (cy 1, 40, .inl (fun _ => 0)))] ++ []) H := hP
  have hD : va_D A ([(h0, .inr (6, [.null, .int 0, .int 0, .int 0])), (q7, .inl (cy 1, 40, .inl (fun _ => 0)))] ++ []) := hD
  refine ct_putF (X := [(h0, .inr (6, [.null, .int 0, .int 0, .int 0])), (q7, .inl (cy 1, 40, .inl (fun _ => 0)))]) (pl := []) S (idx := 9) (ci := 6) (f := 0) (mB (mt1 (List.mem_of_getElem? (i := 185) (by decide +kernel))) rfl) (by decide) (by decide) rfl rfl hin (ty := (.array .int)) rfl rfl rfl (q0 := 0) rfl (Nat.le_of_ble_eq_true rfl) dk6_9 hK hP hD hS (fun H locs hP hD hS => ?_)
  have hP : va_P D vwCl ([(h0, .inr (6, [.ref q7, .int 0, .int 0, .int 0])), (q7, .inl (cy 1, 40, .inl (fun _ => 0)))] ++ []) H := hP
  have hD : va_D A ([(h0, .inr (6, [.ref q7, .int 0, .int 0, .int 0])), (q7, .inl (cy 1, 40, .inl (fun _ => 0)))] ++ []) := hD
  refine W.widen (k := 1) (n := 40) (Nat.le_of_ble_eq_true rfl) (Nat.le_of_ble_eq_true rfl) ?_
  have hP9 : va_P D vwCl (wY6 cy (h0, q7)) H := hP
  have hD9 : va_D A (wY6 cy (h0, q7)) := hD
  exact W.vret hx hb hr (fun t ht hW => ⟨⟨(h0, q7), rfl, rfl, by rw [ht]; exact hP9, hD9⟩, hS.F ht⟩) hS.2.2 dk6_12

/-! Makers (by program: gen/writeCtor.py) -/
abbrev sY0 : Type := (Nat → Nat) × (Nat → sY8)
abbrev hs0 : sY0 → Nat := fun g => g.1 0
def wY0 (cy : Nat → ClassId) (g : sY0) : va_W := [(g.1 0, .inr (0, [.ref (g.1 1), .ref (g.1 2), .ref (g.1 3), .int 0, .int 0, .int 0, .int 0, .int 0, .int 0, .int 0, .int 0, .int 0, .int 0])), (g.1 1, .inl (cy 1, 12, .inl (va_cpy fst12 (fun _ => 0) 0 0 12))), (g.1 2, .inr (1, [.int (nI 1)])), (g.1 3, .inl (cy 12, 6, .inr (.inr (.inr (.inr (refsT hs8 g.2 6))))))] ++ poolW (wY8 cy) g.2 6
def sD0 : sY0 := (fun _ => 0, fun _ => sD8)
theorem ws0 : Cond.code yX0_init cX0_init 2 none ∈ mBig := (mB (mt1 (List.mem_of_getElem? (i := 31) rfl)) rfl)
theorem wi0 : Cond.instanceMethod yX0_init ∈ mBig := (mB (mt1 (List.mem_of_getElem? (i := 30) (by decide +kernel))) rfl)
theorem wn0 : Cond.initialized (cn 0) ∈ mBig := (mB (mt1 (List.mem_of_getElem? (i := 2) (by decide +kernel))) rfl)
theorem wt0 : Cond.instantiable (cn 0) (fN 0) ∈ mBig := (mB (mt1 (List.mem_of_getElem? (i := 28) (by decide +kernel))) rfl)
theorem wf0 : ∀ j, j < fN 0 → defaultValue (fY 0 j) = vp_V [.null, .null, .null, .int 0, .int 0, .int 0, .int 0, .int 0, .int 0, .int 0, .int 0, .int 0, .int 0] j := by decide +kernel
theorem dk0_0 : decode cX0_init 0 = .ok (.aload_n 0, 1) := by decide +kernel
theorem dk0_1 : decode cX0_init 1 = .ok (.invokespecial 3, 3) := by decide +kernel
theorem dk0_4 : decode cX0_init 4 = .ok (.aload_n 0, 1) := by decide +kernel
theorem dk0_5 : decode cX0_init 5 = .ok (.bipush 12, 2) := by decide +kernel
theorem dk0_7 : decode cX0_init 7 = .ok (.newarray .int, 2) := by decide +kernel
theorem dk0_9 : decode cX0_init 9 = .ok (.putfield 9, 3) := by decide +kernel
theorem dk0_12 : decode cX0_init 12 = .ok (.aload_n 0, 1) := by decide +kernel
theorem dk0_13 : decode cX0_init 13 = .ok (.new 15, 3) := by decide +kernel
theorem dk0_16 : decode cX0_init 16 = .ok (.dup, 1) := by decide +kernel
theorem dk0_17 : decode cX0_init 17 = .ok (.invokespecial 17, 3) := by decide +kernel
theorem dk0_20 : decode cX0_init 20 = .ok (.putfield 18, 3) := by decide +kernel
theorem dk0_23 : decode cX0_init 23 = .ok (.aload_n 0, 1) := by decide +kernel
theorem dk0_24 : decode cX0_init 24 = .ok (.bipush 6, 2) := by decide +kernel
theorem dk0_26 : decode cX0_init 26 = .ok (.anewarray 22, 3) := by decide +kernel
theorem dk0_29 : decode cX0_init 29 = .ok (.putfield 24, 3) := by decide +kernel
theorem dk0_32 : decode cX0_init 32 = .ok (.getstatic 28, 3) := by decide +kernel
theorem dk0_35 : decode cX0_init 35 = .ok (.iconst 0, 1) := by decide +kernel
theorem dk0_36 : decode cX0_init 36 = .ok (.aload_n 0, 1) := by decide +kernel
theorem dk0_37 : decode cX0_init 37 = .ok (.getfield 9, 3) := by decide +kernel
theorem dk0_40 : decode cX0_init 40 = .ok (.iconst 0, 1) := by decide +kernel
theorem dk0_41 : decode cX0_init 41 = .ok (.bipush 12, 2) := by decide +kernel
theorem dk0_43 : decode cX0_init 43 = .ok (.invokestatic 31, 3) := by decide +kernel
theorem dk0_46 : decode cX0_init 46 = .ok (.aload_n 0, 1) := by decide +kernel
theorem dk0_47 : decode cX0_init 47 = .ok (.getfield 18, 3) := by decide +kernel
theorem dk0_50 : decode cX0_init 50 = .ok (.iconst 1, 1) := by decide +kernel
theorem dk0_51 : decode cX0_init 51 = .ok (.putfield 37, 3) := by decide +kernel
theorem dk0_54 : decode cX0_init 54 = .ok (.iconst 0, 1) := by decide +kernel
theorem dk0_55 : decode cX0_init 55 = .ok (.istore_n 1, 1) := by decide +kernel
theorem dk0_56 : decode cX0_init 56 = .ok (.iload_n 1, 1) := by decide +kernel
theorem dk0_57 : decode cX0_init 57 = .ok (.bipush 6, 2) := by decide +kernel
theorem dk0_59 : decode cX0_init 59 = .ok (.if_icmp .ge 22, 3) := by decide +kernel
theorem dk0_62 : decode cX0_init 62 = .ok (.aload_n 0, 1) := by decide +kernel
theorem dk0_63 : decode cX0_init 63 = .ok (.getfield 24, 3) := by decide +kernel
theorem dk0_66 : decode cX0_init 66 = .ok (.iload_n 1, 1) := by decide +kernel
theorem dk0_67 : decode cX0_init 67 = .ok (.new 22, 3) := by decide +kernel
theorem dk0_70 : decode cX0_init 70 = .ok (.dup, 1) := by decide +kernel
theorem dk0_71 : decode cX0_init 71 = .ok (.invokespecial 41, 3) := by decide +kernel
theorem dk0_74 : decode cX0_init 74 = .ok (.aastore, 1) := by decide +kernel
theorem dk0_75 : decode cX0_init 75 = .ok (.iinc 1 1, 3) := by decide +kernel
theorem dk0_78 : decode cX0_init 78 = .ok (.goto (-22), 3) := by decide +kernel
theorem dk0_81 : decode cX0_init 81 = .ok (.return_, 1) := by decide +kernel
set_option maxHeartbeats 4000000 in
set_option maxRecDepth 100000 in
theorem mk_0 (l : Launch) {D : va_G} {cy : Nat → ClassId} {t0 : Nat × Nat} : CMet hs0 l D cy t0 0 yX0_init cX0_init 2 [.null, .null, .null, .int 0, .int 0, .int 0, .int 0, .int 0, .int 0, .int 0, .int 0, .int 0, .int 0] (wY0 cy) 3 60 105 1507 := by
  intro h0 sz
  refine Met.ofW (cc := cX0_init) (maxL := 2) (ret := none) (cn_plain 0) rfl ?_
  intro p e s m args below meth c s₁ B hml hv
  obtain ⟨rfl, hsz, hP0, hK⟩ := hv
  have hx := B.exec
  have hb := B.bytes
  have hr := B.returns
  have hts0 := atoms_spec (ws := .code yX0_init cX0_init 2 none :: mBig) B.pre
  have hts : ∀ w ∈ mBig, w.before ([.ref h0] : List Value).toArray s = true := fun w hw => hts0 w (List.mem_cons_of_mem _ hw)
  have hown : s.vm.findClass RX0 = some m.cls := findClass_of_methodNamed B.named
  have hlocks := B.notSynchronized
  have hin : meth.name = "<init>" := (name_of_methodNamed B.named B.method).1
  subst hsz
  have hD0 : va_D (fun _ => True) [(h0, (.inr (0, [.null, .null, .null, .int 0, .int 0, .int 0, .int 0, .int 0, .int 0, .int 0, .int 0, .int 0, .int 0]) : va_E))] := d_one
  have hD := hD0.self (sz := s.heap.size)
  generalize hAe : va_A [(h0, (.inr (0, [.null, .null, .null, .int 0, .int 0, .int 0, .int 0, .int 0, .int 0, .int 0, .int 0, .int 0, .int 0]) : va_E))] s.heap.size = A at hD hK ⊢
  have hA : ∀ q : Nat, s.heap.size ≤ q → A q := fun q h => by rw [← hAe]; exact Or.inr h
  have hS : va_S A s.heap s.heap [] := va_S.rf
  have S : CallFix p m c cX0_init 2 s ([.ref h0] : List Value).toArray mBig RX0 := ⟨hx, hb, hml, hown, hts⟩
  have hP : va_P D vwCl ([(h0, .inr (0, [.null, .null, .null, .int 0, .int 0, .int 0, .int 0, .int 0, .int 0, .int 0, .int 0, .int 0, .int 0]))] ++ []) s.heap := hP0
  have hD : va_D A ([(h0, .inr (0, [.null, .null, .null, .int 0, .int 0, .int 0, .int 0, .int 0, .int 0, .int 0, .int 0, .int 0, .int 0]))] ++ []) := hD
  have hl := lv_entry ([.ref h0]) (n := 2) (Nat.le_of_ble_eq_true rfl)
  rw [lg_entry_eq]
  generalize (lg_sl ([.ref h0]) ++ List.replicate (2 - (lg_sl ([.ref h0])).length) Slot.unset).toArray = ls at hl ⊢
  have hl : lv_has ls 2 [(0, .ref h0)] := hl
  refine lv_aload_n hx hb dk0_0 rfl (lv_at hl 0 rfl) ?_
  refine W.objInit hx hb hown (hts _ (mB (mt1 (List.mem_of_getElem? (i := 32) (by decide +kernel))) rfl)) (hts _ ob_i) (hts _ ob_c) rfl (by rw [hml]; exact hl.1) rfl dk0_1 (Nat.le_of_ble_eq_true rfl) (Nat.le_of_ble_eq_true rfl) ?_
  refine W.eq (g2 := F0 m 4 ls []) rfl ?_
  refine lv_aload_n hx hb dk0_4 rfl (lv_at hl 0 rfl) ?_
  refine lv_bipush hx hb dk0_5 (show (Int8.ofInt 12).toInt32 = nI 12 by decide) ?_
  refine ct_newa (cy := cy) (X := [(h0, .inr (0, [.null, .null, .null, .int 0, .int 0, .int 0, .int 0, .int 0, .int 0, .int 0, .int 0, .int 0, .int 0]))]) (pl := []) S (atype := .int) (ty := .int) rfl (mB (mt1 (List.mem_of_getElem? (i := 45) (by decide +kernel))) rfl) (k := 1) (t1 := 0) rfl (fun _ _ h => h) (n := nI 12) (N := 12) (a0 := (12, .inl (fun _ => 0))) (fun _ => by first | rfl) (nI_nn (by omega)) (nI_clamp (by omega)) (Nat.le_of_ble_eq_true rfl) dk0_7 hK hP hD hS hA (Nat.le_of_ble_eq_true rfl) (Nat.le_of_ble_eq_true rfl) (fun q7 H hP hD hS => ?_)
  have hP : va_P D vwCl ([(h0, .inr (0, [.null, .null, .null, .int 0, .int 0, .int 0, .int 0, .int 0, .int 0, .int 0, .int 0, .int 0, .int 0])), (q7, .inl (cy 1, 12, .inl (fun _ => 0)))] ++ []) H := hP
  have hD : va_D A ([(h0, .inr (0, [.null, .null, .null, .int 0, .int 0, .int 0, .int 0, .int 0, .int 0, .int 0, .int 0, .int 0, .int 0])), (q7, .inl (cy 1, 12, .inl (fun _ => 0)))] ++ []) := hD
  refine ct_putF (X := [(h0, .inr (0, [.null, .null, .null, .int 0, .int 0, .int 0, .int 0, .int 0, .int 0, .int 0, .int 0, .int 0, .int 0])), (q7, .inl (cy 1, 12, .inl (fun _ => 0)))]) (pl := []) S (idx := 9) (ci := 0) (f := 0) (mB (mt2 (List.mem_of_getElem? (i := 32) (by decide +kernel))) rfl) (by decide) (by decide) rfl rfl hin (ty := (.array .int)) rfl rfl rfl (q0 := 0) rfl (Nat.le_of_ble_eq_true rfl) dk0_9 hK hP hD hS (fun H locs hP hD hS => ?_)
  have hP : va_P D vwCl ([(h0, .inr (0, [.ref q7, .null, .null, .int 0, .int 0, .int 0, .int 0, .int 0, .int 0, .int 0, .int 0, .int 0, .int 0])), (q7, .inl (cy 1, 12, .inl (fun _ => 0)))] ++ []) H := hP
  have hD : va_D A ([(h0, .inr (0, [.ref q7, .null, .null, .int 0, .int 0, .int 0, .int 0, .int 0, .int 0, .int 0, .int 0, .int 0, .int 0])), (q7, .inl (cy 1, 12, .inl (fun _ => 0)))] ++ []) := hD
  refine lv_aload_n hx hb dk0_12 rfl (lv_at hl 0 rfl) ?_
  refine ct_make (hdS := hs1) (X := [(h0, .inr (0, [.ref q7, .null, .null, .int 0, .int 0, .int 0, .int 0, .int 0, .int 0, .int 0, .int 0, .int 0, .int 0])), (q7, .inl (cy 1, 12, .inl (fun _ => 0)))]) (pl := []) (mk_1 l) (by decide) rfl rfl ⟨by decide +kernel, by decide +kernel, by decide +kernel⟩ ws1 wi1 wn1 wt1 wf1 (own := RX0) (idx := 15) (idx2 := 17) (mB (mt1 (List.mem_of_getElem? (i := 33) (by decide +kernel))) rfl) (Or.inr ⟨"SharedAir", (mu1 (List.mem_of_getElem? (i := 35) (by decide +kernel)))⟩) dk0_13 dk0_16 dk0_17 S hl.1 hK hP hD hS hA ⟨(Nat.le_of_ble_eq_true rfl), (Nat.le_of_ble_eq_true rfl)⟩ (Nat.le_of_ble_eq_true rfl) (Nat.le_of_ble_eq_true rfl) (Nat.le_of_ble_eq_true rfl) (fun g13 H locs hP hD hS => ?_)
  have hP : va_P D vwCl ([(h0, .inr (0, [.ref q7, .null, .null, .int 0, .int 0, .int 0, .int 0, .int 0, .int 0, .int 0, .int 0, .int 0, .int 0])), (q7, .inl (cy 1, 12, .inl (fun _ => 0))), (g13, .inr (1, [.int 0]))] ++ []) H := hP
  have hD : va_D A ([(h0, .inr (0, [.ref q7, .null, .null, .int 0, .int 0, .int 0, .int 0, .int 0, .int 0, .int 0, .int 0, .int 0, .int 0])), (q7, .inl (cy 1, 12, .inl (fun _ => 0))), (g13, .inr (1, [.int 0]))] ++ []) := hD
  refine ct_putF (X := [(h0, .inr (0, [.ref q7, .null, .null, .int 0, .int 0, .int 0, .int 0, .int 0, .int 0, .int 0, .int 0, .int 0, .int 0])), (q7, .inl (cy 1, 12, .inl (fun _ => 0))), (g13, .inr (1, [.int 0]))]) (pl := []) S (idx := 18) (ci := 0) (f := 1) (mB (mt2 (List.mem_of_getElem? (i := 34) (by decide +kernel))) rfl) (by decide) (by decide) rfl rfl hin (ty := (.object "SharedAir$Dice")) rfl rfl rfl (q0 := 0) rfl (Nat.le_of_ble_eq_true rfl) dk0_20 hK hP hD hS (fun H locs hP hD hS => ?_)
  have hP : va_P D vwCl ([(h0, .inr (0, [.ref q7, .ref (hs1 g13), .null, .int 0, .int 0, .int 0, .int 0, .int 0, .int 0, .int 0, .int 0, .int 0, .int 0])), (q7, .inl (cy 1, 12, .inl (fun _ => 0))), (g13, .inr (1, [.int 0]))] ++ []) H := hP
  have hD : va_D A ([(h0, .inr (0, [.ref q7, .ref (hs1 g13), .null, .int 0, .int 0, .int 0, .int 0, .int 0, .int 0, .int 0, .int 0, .int 0, .int 0])), (q7, .inl (cy 1, 12, .inl (fun _ => 0))), (g13, .inr (1, [.int 0]))] ++ []) := hD
  refine lv_aload_n hx hb dk0_23 rfl (lv_at hl 0 rfl) ?_
  refine lv_bipush hx hb dk0_24 (show (Int8.ofInt 6).toInt32 = nI 6 by decide) ?_
  refine ct_newq (cy := cy) (X := [(h0, .inr (0, [.ref q7, .ref (hs1 g13), .null, .int 0, .int 0, .int 0, .int 0, .int 0, .int 0, .int 0, .int 0, .int 0, .int 0])), (q7, .inl (cy 1, 12, .inl (fun _ => 0))), (g13, .inr (1, [.int 0]))]) (pl := []) S (C := RX8) hK.2.1.1 (mB (mt1 (List.mem_of_getElem? (i := 46) (by decide +kernel))) rfl) (k := 12) (t1 := 4) rfl (n := nI 6) (N := 6) (nI_nn (by omega)) (nI_clamp (by omega)) (Nat.le_of_ble_eq_true rfl) dk0_26 hK hP hD hS hA (Nat.le_of_ble_eq_true rfl) (Nat.le_of_ble_eq_true rfl) (fun q26 H hP hD hS => ?_)
  have hP : va_P D vwCl ([(h0, .inr (0, [.ref q7, .ref (hs1 g13), .null, .int 0, .int 0, .int 0, .int 0, .int 0, .int 0, .int 0, .int 0, .int 0, .int 0])), (q7, .inl (cy 1, 12, .inl (fun _ => 0))), (g13, .inr (1, [.int 0])), (q26, .inl (cy 12, 6, .inr (.inr (.inr (.inr (fun _ => none))))))] ++ []) H := hP
  have hD : va_D A ([(h0, .inr (0, [.ref q7, .ref (hs1 g13), .null, .int 0, .int 0, .int 0, .int 0, .int 0, .int 0, .int 0, .int 0, .int 0, .int 0])), (q7, .inl (cy 1, 12, .inl (fun _ => 0))), (g13, .inr (1, [.int 0])), (q26, .inl (cy 12, 6, .inr (.inr (.inr (.inr (fun _ => none))))))] ++ []) := hD
  refine ct_putF (X := [(h0, .inr (0, [.ref q7, .ref (hs1 g13), .null, .int 0, .int 0, .int 0, .int 0, .int 0, .int 0, .int 0, .int 0, .int 0, .int 0])), (q7, .inl (cy 1, 12, .inl (fun _ => 0))), (g13, .inr (1, [.int 0])), (q26, .inl (cy 12, 6, .inr (.inr (.inr (.inr (fun _ => none))))))]) (pl := []) S (idx := 24) (ci := 0) (f := 2) (mB (mt2 (List.mem_of_getElem? (i := 36) (by decide +kernel))) rfl) (by decide) (by decide) rfl rfl hin (ty := (.array (.object "SharedAir$Station"))) rfl rfl rfl (q0 := 0) rfl (Nat.le_of_ble_eq_true rfl) dk0_29 hK hP hD hS (fun H locs hP hD hS => ?_)
  have hP : va_P D vwCl ([(h0, .inr (0, [.ref q7, .ref (hs1 g13), .ref q26, .int 0, .int 0, .int 0, .int 0, .int 0, .int 0, .int 0, .int 0, .int 0, .int 0])), (q7, .inl (cy 1, 12, .inl (fun _ => 0))), (g13, .inr (1, [.int 0])), (q26, .inl (cy 12, 6, .inr (.inr (.inr (.inr (fun _ => none))))))] ++ []) H := hP
  have hD : va_D A ([(h0, .inr (0, [.ref q7, .ref (hs1 g13), .ref q26, .int 0, .int 0, .int 0, .int 0, .int 0, .int 0, .int 0, .int 0, .int 0, .int 0])), (q7, .inl (cy 1, 12, .inl (fun _ => 0))), (g13, .inr (1, [.int 0])), (q26, .inl (cy 12, 6, .inr (.inr (.inr (.inr (fun _ => none))))))] ++ []) := hD
  refine va_getsN (own := RX0) (ref := RX9) (host := "SharedAir") hx hb hK.2.2.2.1 hS hown (va_Nw.use rfl (hK.1.2 _ (mu1 (List.mem_of_getElem? (i := 48) (by decide +kernel))) rfl)) (fun _ h => h) dk0_32 ?_
  refine lv_iconst hx hb dk0_35 (show Int32.ofInt 0 = nI 0 by decide) ?_
  refine lv_aload_n hx hb dk0_36 rfl (lv_at hl 0 rfl) ?_
  refine ct_get (X := [(h0, .inr (0, [.ref q7, .ref (hs1 g13), .ref q26, .int 0, .int 0, .int 0, .int 0, .int 0, .int 0, .int 0, .int 0, .int 0, .int 0])), (q7, .inl (cy 1, 12, .inl (fun _ => 0))), (g13, .inr (1, [.int 0])), (q26, .inl (cy 12, 6, .inr (.inr (.inr (.inr (fun _ => none))))))]) (pl := []) S (o := 0) (idx := 9) (ci := 0) (f := 0) fl_0 rfl (q0 := 0) (v := .ref q7) rfl rfl dk0_37 hK hP ?_
  refine lv_iconst hx hb dk0_40 (show Int32.ofInt 0 = nI 0 by decide) ?_
  refine lv_bipush hx hb dk0_41 (show (Int8.ofInt 12).toInt32 = nI 12 by decide) ?_
  refine ct_copy (X := [(h0, .inr (0, [.ref q7, .ref (hs1 g13), .ref q26, .int 0, .int 0, .int 0, .int 0, .int 0, .int 0, .int 0, .int 0, .int 0, .int 0])), (q7, .inl (cy 1, 12, .inl (fun _ => 0))), (g13, .inr (1, [.int 0])), (q26, .inl (cy 12, 6, .inr (.inr (.inr (.inr (fun _ => none))))))]) (pl := []) S hl.1 (mB (mt1 (List.mem_of_getElem? (i := 50) (by decide +kernel))) rfl) (mB (mt1 (List.mem_of_getElem? (i := 52) (by decide +kernel))) rfl) (mB (mt1 (List.mem_of_getElem? (i := 51) (by decide +kernel))) rfl) (mB (mt1 (List.mem_of_getElem? (i := 4) (by decide +kernel))) rfl) (t := t0.1) (N := 12) (F := fst12) hK.2.2.1 hK hP hD hS (q1 := 1) rfl (by omega) (Nat.le_of_ble_eq_true rfl) (by decide +kernel) dk0_43 (fun H locs hP hD hS => ?_)
  have hP : va_P D vwCl ([(h0, .inr (0, [.ref q7, .ref (hs1 g13), .ref q26, .int 0, .int 0, .int 0, .int 0, .int 0, .int 0, .int 0, .int 0, .int 0, .int 0])), (q7, .inl (cy 1, 12, .inl (va_cpy fst12 (fun _ => 0) 0 0 12))), (g13, .inr (1, [.int 0])), (q26, .inl (cy 12, 6, .inr (.inr (.inr (.inr (fun _ => none))))))] ++ []) H := hP
  have hD : va_D A ([(h0, .inr (0, [.ref q7, .ref (hs1 g13), .ref q26, .int 0, .int 0, .int 0, .int 0, .int 0, .int 0, .int 0, .int 0, .int 0, .int 0])), (q7, .inl (cy 1, 12, .inl (va_cpy fst12 (fun _ => 0) 0 0 12))), (g13, .inr (1, [.int 0])), (q26, .inl (cy 12, 6, .inr (.inr (.inr (.inr (fun _ => none))))))] ++ []) := hD
  refine lv_aload_n hx hb dk0_46 rfl (lv_at hl 0 rfl) ?_
  refine ct_get (X := [(h0, .inr (0, [.ref q7, .ref (hs1 g13), .ref q26, .int 0, .int 0, .int 0, .int 0, .int 0, .int 0, .int 0, .int 0, .int 0, .int 0])), (q7, .inl (cy 1, 12, .inl (va_cpy fst12 (fun _ => 0) 0 0 12))), (g13, .inr (1, [.int 0])), (q26, .inl (cy 12, 6, .inr (.inr (.inr (.inr (fun _ => none))))))]) (pl := []) S (o := 0) (idx := 18) (ci := 0) (f := 1) fl_1 rfl (q0 := 0) (v := .ref (hs1 g13)) rfl rfl dk0_47 hK hP ?_
  refine lv_iconst hx hb dk0_50 (show Int32.ofInt 1 = nI 1 by decide) ?_
  refine ct_putI (X := [(h0, .inr (0, [.ref q7, .ref (hs1 g13), .ref q26, .int 0, .int 0, .int 0, .int 0, .int 0, .int 0, .int 0, .int 0, .int 0, .int 0])), (q7, .inl (cy 1, 12, .inl (va_cpy fst12 (fun _ => 0) 0 0 12))), (g13, .inr (1, [.int 0])), (q26, .inl (cy 12, 6, .inr (.inr (.inr (.inr (fun _ => none))))))]) (pl := []) S (o := 0) (idx := 37) (ci := 1) (f := 0) fl_3 rfl rfl (ty := .int) rfl (rfl) rfl (q0 := 2) rfl (Nat.le_of_ble_eq_true rfl) dk0_51 hK hP hD hS (fun H locs hP hD hS => ?_)
  have hP : va_P D vwCl ([(h0, .inr (0, [.ref q7, .ref (hs1 g13), .ref q26, .int 0, .int 0, .int 0, .int 0, .int 0, .int 0, .int 0, .int 0, .int 0, .int 0])), (q7, .inl (cy 1, 12, .inl (va_cpy fst12 (fun _ => 0) 0 0 12))), (g13, .inr (1, [.int (nI 1)])), (q26, .inl (cy 12, 6, .inr (.inr (.inr (.inr (fun _ => none))))))] ++ []) H := hP
  have hD : va_D A ([(h0, .inr (0, [.ref q7, .ref (hs1 g13), .ref q26, .int 0, .int 0, .int 0, .int 0, .int 0, .int 0, .int 0, .int 0, .int 0, .int 0])), (q7, .inl (cy 1, 12, .inl (va_cpy fst12 (fun _ => 0) 0 0 12))), (g13, .inr (1, [.int (nI 1)])), (q26, .inl (cy 12, 6, .inr (.inr (.inr (.inr (fun _ => none))))))] ++ []) := hD
  refine lv_iconst hx hb dk0_54 (show Int32.ofInt 0 = nI 0 by decide) ?_
  refine lv_istore_n hx hb dk0_55 rfl hl (Nat.le_of_ble_eq_true rfl) (lv' := [(1, .int (nI 0)), (0, .ref h0)]) rfl (fun ls hl => ?_)
  have hP : va_P D vwCl ([(h0, .inr (0, [.ref q7, .ref (hs1 g13), .ref q26, .int 0, .int 0, .int 0, .int 0, .int 0, .int 0, .int 0, .int 0, .int 0, .int 0])), (q7, .inl (cy 1, 12, .inl (va_cpy fst12 (fun _ => 0) 0 0 12))), (g13, .inr (1, [.int (nI 1)])), (q26, .inl (cy 12, 6, .inr (.inr (.inr (.inr (refsT hs8 (fun _ => sD8) 0))))))] ++ ([] ++ poolW (wY8 cy) (fun _ => sD8) 0)) H := by rw [refsT_0]; exact hP
  have hD : va_D A ([(h0, .inr (0, [.ref q7, .ref (hs1 g13), .ref q26, .int 0, .int 0, .int 0, .int 0, .int 0, .int 0, .int 0, .int 0, .int 0, .int 0])), (q7, .inl (cy 1, 12, .inl (va_cpy fst12 (fun _ => 0) 0 0 12))), (g13, .inr (1, [.int (nI 1)])), (q26, .inl (cy 12, 6, .inr (.inr (.inr (.inr (refsT hs8 (fun _ => sD8) 0))))))] ++ ([] ++ poolW (wY8 cy) (fun _ => sD8) 0)) := by rw [refsT_0]; exact hD
  refine ct_loop (A := A) (hdS := hs8) (mk_8 l) (by decide) rfl rfl ⟨by decide +kernel, by decide +kernel, by decide +kernel⟩ ws8 wi8 wn8 wt8 wf8 (fs2 := fun g => [.ref (g.1 1), .ref (g.1 2), .ref (g.1 3), .ref (g.1 6), .ref (g.1 7), .ref (g.1 8), .int 0, .int 0, .int 0, .int 0, .int 0, .int (-1), .int 0]) (fun _ => rfl) (own := RX0) (idx := 22) (idx2 := 41) (mB (mt1 (List.mem_of_getElem? (i := 46) (by decide +kernel))) rfl) (Or.inl (mB (mt1 (List.mem_of_getElem? (i := 54) (by decide +kernel))) rfl)) (hd := 56) (B := 59) (n := 6) (o := 0) (co := 0) (f0 := 2) (t1 := 4) (ka := 12) (by omega) fl_2 rfl rfl dk0_56 dk0_59 dk0_62 dk0_63 dk0_66 dk0_67 dk0_70 dk0_71 dk0_74 dk0_75 (back := (-22)) dk0_78 (by decide) S hK hA (fun k' => lv_bipush hx hb dk0_57 (show (Int8.ofInt 6).toInt32 = nI 6 by decide) k') ⟨(Nat.le_of_ble_eq_true rfl), (Nat.le_of_ble_eq_true rfl)⟩ (X := fun f => [(h0, .inr (0, [.ref q7, .ref (hs1 g13), .ref q26, .int 0, .int 0, .int 0, .int 0, .int 0, .int 0, .int 0, .int 0, .int 0, .int 0])), (q7, .inl (cy 1, 12, .inl (va_cpy fst12 (fun _ => 0) 0 0 12))), (g13, .inr (1, [.int (nI 1)])), (q26, .inl (cy 12, 6, .inr (.inr (.inr (.inr (f))))))]) (q0 := 0) (qa := 3) (fun _ => rfl) rfl (fun _ => rfl) (fun _ _ => rfl) (pl := []) 6 0 (fun _ => sD8) rfl hl hP hD hS (Nat.le_of_ble_eq_true rfl) (Nat.le_of_ble_eq_true rfl) (fun gs H locs ls hl hP hD hS => ?_)
  have hP : va_P D vwCl ([(h0, .inr (0, [.ref q7, .ref (hs1 g13), .ref q26, .int 0, .int 0, .int 0, .int 0, .int 0, .int 0, .int 0, .int 0, .int 0, .int 0])), (q7, .inl (cy 1, 12, .inl (va_cpy fst12 (fun _ => 0) 0 0 12))), (g13, .inr (1, [.int (nI 1)])), (q26, .inl (cy 12, 6, .inr (.inr (.inr (.inr (refsT hs8 gs 6))))))] ++ ([] ++ poolW (wY8 cy) gs 6)) H := hP
  have hD : va_D A ([(h0, .inr (0, [.ref q7, .ref (hs1 g13), .ref q26, .int 0, .int 0, .int 0, .int 0, .int 0, .int 0, .int 0, .int 0, .int 0, .int 0])), (q7, .inl (cy 1, 12, .inl (va_cpy fst12 (fun _ => 0) 0 0 12))), (g13, .inr (1, [.int (nI 1)])), (q26, .inl (cy 12, 6, .inr (.inr (.inr (.inr (refsT hs8 gs 6))))))] ++ ([] ++ poolW (wY8 cy) gs 6)) := hD
  refine W.widen (k := 105) (n := 1507) (Nat.le_of_ble_eq_true rfl) (Nat.le_of_ble_eq_true rfl) ?_
  have hP9 : va_P D vwCl (wY0 cy ((fun i => match i with | 0 => h0 | 1 => q7 | 2 => g13 | _ => q26), gs)) H := hP
  have hD9 : va_D A (wY0 cy ((fun i => match i with | 0 => h0 | 1 => q7 | 2 => g13 | _ => q26), gs)) := hD
  exact W.vret hx hb hr (fun t ht hW => ⟨⟨((fun i => match i with | 0 => h0 | 1 => q7 | 2 => g13 | _ => q26), gs), rfl, rfl, by rw [ht]; exact hP9, hD9⟩, hS.F ht⟩) hS.2.2 dk0_81

/-! Makers (by program: gen/writeCtor.py) -/
abbrev sY9 : Type := (Nat → Nat) × (Nat → sY0) × Nat × sY5 × sY7 × sY4
abbrev hs9 : sY9 → Nat := fun g => g.1 0
def wY9 (cy : Nat → ClassId) (g : sY9) : va_W := [(g.1 0, .inr (9, [.ref (hs0 (g.2.1 0)), .ref (hs0 (g.2.1 1)), .ref g.2.2.1, .ref (hs5 g.2.2.2.1), .ref (g.1 1), .ref (g.1 2), .ref (hs7 g.2.2.2.2.1), .ref (hs4 g.2.2.2.2.2), .ref (g.1 3)])), (g.1 1, .inl (cy 21, 2, .inr (.inr (.inr (.inr (refsT hs0 (fun i => g.2.1 (i + 2)) 2)))))), (g.1 2, .inl (cy 3, 2, .inl (fun _ => 0))), (g.1 3, .inl (cy 1, 36, .inl (fun _ => 0)))] ++ ((((((([] ++ wY0 cy (g.2.1 0)) ++ wY0 cy (g.2.1 1)) ++ wY1 cy g.2.2.1) ++ wY5 cy g.2.2.2.1) ++ wY7 cy g.2.2.2.2.1) ++ wY4 cy g.2.2.2.2.2) ++ poolW (wY0 cy) (fun i => g.2.1 (i + 2)) 2)
theorem ws9 : Cond.code yX9_init cX9_init 2 none ∈ mBig := (mB (mt1 (List.mem_of_getElem? (i := 23) rfl)) rfl)
theorem wi9 : Cond.instanceMethod yX9_init ∈ mBig := (mB (mt1 (List.mem_of_getElem? (i := 22) (by decide +kernel))) rfl)
theorem wn9 : Cond.initialized (cn 9) ∈ mBig := (mB (mt1 (List.mem_of_getElem? (i := 1) (by decide +kernel))) rfl)
theorem wt9 : Cond.instantiable (cn 9) (fN 9) ∈ mBig := (mB (mt1 (List.mem_of_getElem? (i := 20) (by decide +kernel))) rfl)
theorem wf9 : ∀ j, j < fN 9 → defaultValue (fY 9 j) = vp_V [.null, .null, .null, .null, .null, .null, .null, .null, .null] j := by decide +kernel
theorem dk9_0 : decode cX9_init 0 = .ok (.aload_n 0, 1) := by decide +kernel
theorem dk9_1 : decode cX9_init 1 = .ok (.invokespecial 1, 3) := by decide +kernel
theorem dk9_4 : decode cX9_init 4 = .ok (.aload_n 0, 1) := by decide +kernel
theorem dk9_5 : decode cX9_init 5 = .ok (.new 7, 3) := by decide +kernel
theorem dk9_8 : decode cX9_init 8 = .ok (.dup, 1) := by decide +kernel
theorem dk9_9 : decode cX9_init 9 = .ok (.invokespecial 9, 3) := by decide +kernel
theorem dk9_12 : decode cX9_init 12 = .ok (.putfield 10, 3) := by decide +kernel
theorem dk9_15 : decode cX9_init 15 = .ok (.aload_n 0, 1) := by decide +kernel
theorem dk9_16 : decode cX9_init 16 = .ok (.new 7, 3) := by decide +kernel
theorem dk9_19 : decode cX9_init 19 = .ok (.dup, 1) := by decide +kernel
theorem dk9_20 : decode cX9_init 20 = .ok (.invokespecial 9, 3) := by decide +kernel
theorem dk9_23 : decode cX9_init 23 = .ok (.putfield 16, 3) := by decide +kernel
theorem dk9_26 : decode cX9_init 26 = .ok (.aload_n 0, 1) := by decide +kernel
theorem dk9_27 : decode cX9_init 27 = .ok (.new 19, 3) := by decide +kernel
theorem dk9_30 : decode cX9_init 30 = .ok (.dup, 1) := by decide +kernel
theorem dk9_31 : decode cX9_init 31 = .ok (.invokespecial 21, 3) := by decide +kernel
theorem dk9_34 : decode cX9_init 34 = .ok (.putfield 22, 3) := by decide +kernel
theorem dk9_37 : decode cX9_init 37 = .ok (.aload_n 0, 1) := by decide +kernel
theorem dk9_38 : decode cX9_init 38 = .ok (.new 26, 3) := by decide +kernel
theorem dk9_41 : decode cX9_init 41 = .ok (.dup, 1) := by decide +kernel
theorem dk9_42 : decode cX9_init 42 = .ok (.invokespecial 28, 3) := by decide +kernel
theorem dk9_45 : decode cX9_init 45 = .ok (.putfield 29, 3) := by decide +kernel
theorem dk9_48 : decode cX9_init 48 = .ok (.aload_n 0, 1) := by decide +kernel
theorem dk9_49 : decode cX9_init 49 = .ok (.iconst 2, 1) := by decide +kernel
theorem dk9_50 : decode cX9_init 50 = .ok (.anewarray 7, 3) := by decide +kernel
theorem dk9_53 : decode cX9_init 53 = .ok (.putfield 33, 3) := by decide +kernel
theorem dk9_56 : decode cX9_init 56 = .ok (.aload_n 0, 1) := by decide +kernel
theorem dk9_57 : decode cX9_init 57 = .ok (.iconst 2, 1) := by decide +kernel
theorem dk9_58 : decode cX9_init 58 = .ok (.newarray .boolean, 2) := by decide +kernel
theorem dk9_60 : decode cX9_init 60 = .ok (.putfield 37, 3) := by decide +kernel
theorem dk9_63 : decode cX9_init 63 = .ok (.aload_n 0, 1) := by decide +kernel
theorem dk9_64 : decode cX9_init 64 = .ok (.new 41, 3) := by decide +kernel
theorem dk9_67 : decode cX9_init 67 = .ok (.dup, 1) := by decide +kernel
theorem dk9_68 : decode cX9_init 68 = .ok (.invokespecial 43, 3) := by decide +kernel
theorem dk9_71 : decode cX9_init 71 = .ok (.putfield 44, 3) := by decide +kernel
theorem dk9_74 : decode cX9_init 74 = .ok (.aload_n 0, 1) := by decide +kernel
theorem dk9_75 : decode cX9_init 75 = .ok (.new 48, 3) := by decide +kernel
theorem dk9_78 : decode cX9_init 78 = .ok (.dup, 1) := by decide +kernel
theorem dk9_79 : decode cX9_init 79 = .ok (.invokespecial 50, 3) := by decide +kernel
theorem dk9_82 : decode cX9_init 82 = .ok (.putfield 51, 3) := by decide +kernel
theorem dk9_85 : decode cX9_init 85 = .ok (.aload_n 0, 1) := by decide +kernel
theorem dk9_86 : decode cX9_init 86 = .ok (.bipush 36, 2) := by decide +kernel
theorem dk9_88 : decode cX9_init 88 = .ok (.newarray .int, 2) := by decide +kernel
theorem dk9_90 : decode cX9_init 90 = .ok (.putfield 55, 3) := by decide +kernel
theorem dk9_93 : decode cX9_init 93 = .ok (.iconst 0, 1) := by decide +kernel
theorem dk9_94 : decode cX9_init 94 = .ok (.istore_n 1, 1) := by decide +kernel
theorem dk9_95 : decode cX9_init 95 = .ok (.iload_n 1, 1) := by decide +kernel
theorem dk9_96 : decode cX9_init 96 = .ok (.iconst 2, 1) := by decide +kernel
theorem dk9_97 : decode cX9_init 97 = .ok (.if_icmp .ge 22, 3) := by decide +kernel
theorem dk9_100 : decode cX9_init 100 = .ok (.aload_n 0, 1) := by decide +kernel
theorem dk9_101 : decode cX9_init 101 = .ok (.getfield 33, 3) := by decide +kernel
theorem dk9_104 : decode cX9_init 104 = .ok (.iload_n 1, 1) := by decide +kernel
theorem dk9_105 : decode cX9_init 105 = .ok (.new 7, 3) := by decide +kernel
theorem dk9_108 : decode cX9_init 108 = .ok (.dup, 1) := by decide +kernel
theorem dk9_109 : decode cX9_init 109 = .ok (.invokespecial 9, 3) := by decide +kernel
theorem dk9_112 : decode cX9_init 112 = .ok (.aastore, 1) := by decide +kernel
theorem dk9_113 : decode cX9_init 113 = .ok (.iinc 1 1, 3) := by decide +kernel
theorem dk9_116 : decode cX9_init 116 = .ok (.goto (-21), 3) := by decide +kernel
theorem dk9_119 : decode cX9_init 119 = .ok (.return_, 1) := by decide +kernel
set_option maxHeartbeats 4000000 in
set_option maxRecDepth 100000 in
theorem mk_9 (l : Launch) {D : va_G} {cy : Nat → ClassId} {t0 : Nat × Nat} : CMet hs9 l D cy t0 9 yX9_init cX9_init 2 [.null, .null, .null, .null, .null, .null, .null, .null, .null] (wY9 cy) 5 102 1070 15350 := by
  intro h0 sz
  refine Met.ofW (cc := cX9_init) (maxL := 2) (ret := none) (cn_plain 9) rfl ?_
  intro p e s m args below meth c s₁ B hml hv
  obtain ⟨rfl, hsz, hP0, hK⟩ := hv
  have hx := B.exec
  have hb := B.bytes
  have hr := B.returns
  have hts0 := atoms_spec (ws := .code yX9_init cX9_init 2 none :: mBig) B.pre
  have hts : ∀ w ∈ mBig, w.before ([.ref h0] : List Value).toArray s = true := fun w hw => hts0 w (List.mem_cons_of_mem _ hw)
  have hown : s.vm.findClass RX9 = some m.cls := findClass_of_methodNamed B.named
  have hlocks := B.notSynchronized
  have hin : meth.name = "<init>" := (name_of_methodNamed B.named B.method).1
  subst hsz
  have hD0 : va_D (fun _ => True) [(h0, (.inr (9, [.null, .null, .null, .null, .null, .null, .null, .null, .null]) : va_E))] := d_one
  have hD := hD0.self (sz := s.heap.size)
  generalize hAe : va_A [(h0, (.inr (9, [.null, .null, .null, .null, .null, .null, .null, .null, .null]) : va_E))] s.heap.size = A at hD hK ⊢
  have hA : ∀ q : Nat, s.heap.size ≤ q → A q := fun q h => by rw [← hAe]; exact Or.inr h
  have hS : va_S A s.heap s.heap [] := va_S.rf
  have S : CallFix p m c cX9_init 2 s ([.ref h0] : List Value).toArray mBig RX9 := ⟨hx, hb, hml, hown, hts⟩
  have hP : va_P D vwCl ([(h0, .inr (9, [.null, .null, .null, .null, .null, .null, .null, .null, .null]))] ++ []) s.heap := hP0
  have hD : va_D A ([(h0, .inr (9, [.null, .null, .null, .null, .null, .null, .null, .null, .null]))] ++ []) := hD
  have hl := lv_entry ([.ref h0]) (n := 2) (Nat.le_of_ble_eq_true rfl)
  rw [lg_entry_eq]
  generalize (lg_sl ([.ref h0]) ++ List.replicate (2 - (lg_sl ([.ref h0])).length) Slot.unset).toArray = ls at hl ⊢
  have hl : lv_has ls 2 [(0, .ref h0)] := hl
  refine lv_aload_n hx hb dk9_0 rfl (lv_at hl 0 rfl) ?_
  refine W.objInit hx hb hown (hts _ (mB (mt1 (List.mem_of_getElem? (i := 24) (by decide +kernel))) rfl)) (hts _ ob_i) (hts _ ob_c) rfl (by rw [hml]; exact hl.1) rfl dk9_1 (Nat.le_of_ble_eq_true rfl) (Nat.le_of_ble_eq_true rfl) ?_
  refine W.eq (g2 := F0 m 4 ls []) rfl ?_
  refine lv_aload_n hx hb dk9_4 rfl (lv_at hl 0 rfl) ?_
  refine ct_make (hdS := hs0) (X := [(h0, .inr (9, [.null, .null, .null, .null, .null, .null, .null, .null, .null]))]) (pl := []) (mk_0 l) (by decide) rfl rfl ⟨by decide +kernel, by decide +kernel, by decide +kernel⟩ ws0 wi0 wn0 wt0 wf0 (own := RX9) (idx := 7) (idx2 := 9) (mB (mt1 (List.mem_of_getElem? (i := 27) (by decide +kernel))) rfl) (Or.inl (mB (mt1 (List.mem_of_getElem? (i := 29) (by decide +kernel))) rfl)) dk9_5 dk9_8 dk9_9 S hl.1 hK hP hD hS hA ⟨(Nat.le_of_ble_eq_true rfl), (Nat.le_of_ble_eq_true rfl)⟩ (Nat.le_of_ble_eq_true rfl) (Nat.le_of_ble_eq_true rfl) (Nat.le_of_ble_eq_true rfl) (fun g5 H locs hP hD hS => ?_)
  have hP : va_P D vwCl ([(h0, .inr (9, [.null, .null, .null, .null, .null, .null, .null, .null, .null]))] ++ ([] ++ wY0 cy g5)) H := hP
  have hD : va_D A ([(h0, .inr (9, [.null, .null, .null, .null, .null, .null, .null, .null, .null]))] ++ ([] ++ wY0 cy g5)) := hD
  refine ct_putF (X := [(h0, .inr (9, [.null, .null, .null, .null, .null, .null, .null, .null, .null]))]) (pl := ([] ++ wY0 cy g5)) S (idx := 10) (ci := 9) (f := 0) (mB (mt2 (List.mem_of_getElem? (i := 138) (by decide +kernel))) rfl) (by decide) (by decide) rfl rfl hin (ty := (.object "SharedAir$Air")) rfl rfl rfl (q0 := 0) rfl (Nat.le_of_ble_eq_true rfl) dk9_12 hK hP hD hS (fun H locs hP hD hS => ?_)
  have hP : va_P D vwCl ([(h0, .inr (9, [.ref (hs0 g5), .null, .null, .null, .null, .null, .null, .null, .null]))] ++ ([] ++ wY0 cy g5)) H := hP
  have hD : va_D A ([(h0, .inr (9, [.ref (hs0 g5), .null, .null, .null, .null, .null, .null, .null, .null]))] ++ ([] ++ wY0 cy g5)) := hD
  refine lv_aload_n hx hb dk9_15 rfl (lv_at hl 0 rfl) ?_
  refine ct_make (hdS := hs0) (X := [(h0, .inr (9, [.ref (hs0 g5), .null, .null, .null, .null, .null, .null, .null, .null]))]) (pl := ([] ++ wY0 cy g5)) (mk_0 l) (by decide) rfl rfl ⟨by decide +kernel, by decide +kernel, by decide +kernel⟩ ws0 wi0 wn0 wt0 wf0 (own := RX9) (idx := 7) (idx2 := 9) (mB (mt1 (List.mem_of_getElem? (i := 27) (by decide +kernel))) rfl) (Or.inl (mB (mt1 (List.mem_of_getElem? (i := 29) (by decide +kernel))) rfl)) dk9_16 dk9_19 dk9_20 S hl.1 hK hP hD hS hA ⟨(Nat.le_of_ble_eq_true rfl), (Nat.le_of_ble_eq_true rfl)⟩ (Nat.le_of_ble_eq_true rfl) (Nat.le_of_ble_eq_true rfl) (Nat.le_of_ble_eq_true rfl) (fun g16 H locs hP hD hS => ?_)
  have hP : va_P D vwCl ([(h0, .inr (9, [.ref (hs0 g5), .null, .null, .null, .null, .null, .null, .null, .null]))] ++ (([] ++ wY0 cy g5) ++ wY0 cy g16)) H := hP
  have hD : va_D A ([(h0, .inr (9, [.ref (hs0 g5), .null, .null, .null, .null, .null, .null, .null, .null]))] ++ (([] ++ wY0 cy g5) ++ wY0 cy g16)) := hD
  refine ct_putF (X := [(h0, .inr (9, [.ref (hs0 g5), .null, .null, .null, .null, .null, .null, .null, .null]))]) (pl := (([] ++ wY0 cy g5) ++ wY0 cy g16)) S (idx := 16) (ci := 9) (f := 1) (mB (mt2 (List.mem_of_getElem? (i := 139) (by decide +kernel))) rfl) (by decide) (by decide) rfl rfl hin (ty := (.object "SharedAir$Air")) rfl rfl rfl (q0 := 0) rfl (Nat.le_of_ble_eq_true rfl) dk9_23 hK hP hD hS (fun H locs hP hD hS => ?_)
  have hP : va_P D vwCl ([(h0, .inr (9, [.ref (hs0 g5), .ref (hs0 g16), .null, .null, .null, .null, .null, .null, .null]))] ++ (([] ++ wY0 cy g5) ++ wY0 cy g16)) H := hP
  have hD : va_D A ([(h0, .inr (9, [.ref (hs0 g5), .ref (hs0 g16), .null, .null, .null, .null, .null, .null, .null]))] ++ (([] ++ wY0 cy g5) ++ wY0 cy g16)) := hD
  refine lv_aload_n hx hb dk9_26 rfl (lv_at hl 0 rfl) ?_
  refine ct_make (hdS := hs1) (X := [(h0, .inr (9, [.ref (hs0 g5), .ref (hs0 g16), .null, .null, .null, .null, .null, .null, .null]))]) (pl := (([] ++ wY0 cy g5) ++ wY0 cy g16)) (mk_1 l) (by decide) rfl rfl ⟨by decide +kernel, by decide +kernel, by decide +kernel⟩ ws1 wi1 wn1 wt1 wf1 (own := RX9) (idx := 19) (idx2 := 21) (mB (mt2 (List.mem_of_getElem? (i := 85) (by decide +kernel))) rfl) (Or.inr ⟨"SharedAir", (mu2 (List.mem_of_getElem? (i := 86) (by decide +kernel)))⟩) dk9_27 dk9_30 dk9_31 S hl.1 hK hP hD hS hA ⟨(Nat.le_of_ble_eq_true rfl), (Nat.le_of_ble_eq_true rfl)⟩ (Nat.le_of_ble_eq_true rfl) (Nat.le_of_ble_eq_true rfl) (Nat.le_of_ble_eq_true rfl) (fun g27 H locs hP hD hS => ?_)
  have hP : va_P D vwCl ([(h0, .inr (9, [.ref (hs0 g5), .ref (hs0 g16), .null, .null, .null, .null, .null, .null, .null]))] ++ ((([] ++ wY0 cy g5) ++ wY0 cy g16) ++ wY1 cy g27)) H := hP
  have hD : va_D A ([(h0, .inr (9, [.ref (hs0 g5), .ref (hs0 g16), .null, .null, .null, .null, .null, .null, .null]))] ++ ((([] ++ wY0 cy g5) ++ wY0 cy g16) ++ wY1 cy g27)) := hD
  refine ct_putF (X := [(h0, .inr (9, [.ref (hs0 g5), .ref (hs0 g16), .null, .null, .null, .null, .null, .null, .null]))]) (pl := ((([] ++ wY0 cy g5) ++ wY0 cy g16) ++ wY1 cy g27)) S (idx := 22) (ci := 9) (f := 2) (mB (mt2 (List.mem_of_getElem? (i := 140) (by decide +kernel))) rfl) (by decide) (by decide) rfl rfl hin (ty := (.object "SharedAir$Dice")) rfl rfl rfl (q0 := 0) rfl (Nat.le_of_ble_eq_true rfl) dk9_34 hK hP hD hS (fun H locs hP hD hS => ?_)
  have hP : va_P D vwCl ([(h0, .inr (9, [.ref (hs0 g5), .ref (hs0 g16), .ref (hs1 g27), .null, .null, .null, .null, .null, .null]))] ++ ((([] ++ wY0 cy g5) ++ wY0 cy g16) ++ wY1 cy g27)) H := hP
  have hD : va_D A ([(h0, .inr (9, [.ref (hs0 g5), .ref (hs0 g16), .ref (hs1 g27), .null, .null, .null, .null, .null, .null]))] ++ ((([] ++ wY0 cy g5) ++ wY0 cy g16) ++ wY1 cy g27)) := hD
  refine lv_aload_n hx hb dk9_37 rfl (lv_at hl 0 rfl) ?_
  refine ct_make (hdS := hs5) (X := [(h0, .inr (9, [.ref (hs0 g5), .ref (hs0 g16), .ref (hs1 g27), .null, .null, .null, .null, .null, .null]))]) (pl := ((([] ++ wY0 cy g5) ++ wY0 cy g16) ++ wY1 cy g27)) (mk_5 l) (by decide) rfl rfl ⟨by decide +kernel, by decide +kernel, by decide +kernel⟩ ws5 wi5 wn5 wt5 wf5 (own := RX9) (idx := 26) (idx2 := 28) (mB (mt2 (List.mem_of_getElem? (i := 87) (by decide +kernel))) rfl) (Or.inl (mB (mt2 (List.mem_of_getElem? (i := 89) (by decide +kernel))) rfl)) dk9_38 dk9_41 dk9_42 S hl.1 hK hP hD hS hA ⟨(Nat.le_of_ble_eq_true rfl), (Nat.le_of_ble_eq_true rfl)⟩ (Nat.le_of_ble_eq_true rfl) (Nat.le_of_ble_eq_true rfl) (Nat.le_of_ble_eq_true rfl) (fun g38 H locs hP hD hS => ?_)
  have hP : va_P D vwCl ([(h0, .inr (9, [.ref (hs0 g5), .ref (hs0 g16), .ref (hs1 g27), .null, .null, .null, .null, .null, .null]))] ++ (((([] ++ wY0 cy g5) ++ wY0 cy g16) ++ wY1 cy g27) ++ wY5 cy g38)) H := hP
  have hD : va_D A ([(h0, .inr (9, [.ref (hs0 g5), .ref (hs0 g16), .ref (hs1 g27), .null, .null, .null, .null, .null, .null]))] ++ (((([] ++ wY0 cy g5) ++ wY0 cy g16) ++ wY1 cy g27) ++ wY5 cy g38)) := hD
  refine ct_putF (X := [(h0, .inr (9, [.ref (hs0 g5), .ref (hs0 g16), .ref (hs1 g27), .null, .null, .null, .null, .null, .null]))]) (pl := (((([] ++ wY0 cy g5) ++ wY0 cy g16) ++ wY1 cy g27) ++ wY5 cy g38)) S (idx := 29) (ci := 9) (f := 3) (mB (mt2 (List.mem_of_getElem? (i := 141) (by decide +kernel))) rfl) (by decide) (by decide) rfl rfl hin (ty := (.object "SharedAir$Past")) rfl rfl rfl (q0 := 0) rfl (Nat.le_of_ble_eq_true rfl) dk9_45 hK hP hD hS (fun H locs hP hD hS => ?_)
  have hP : va_P D vwCl ([(h0, .inr (9, [.ref (hs0 g5), .ref (hs0 g16), .ref (hs1 g27), .ref (hs5 g38), .null, .null, .null, .null, .null]))] ++ (((([] ++ wY0 cy g5) ++ wY0 cy g16) ++ wY1 cy g27) ++ wY5 cy g38)) H := hP
  have hD : va_D A ([(h0, .inr (9, [.ref (hs0 g5), .ref (hs0 g16), .ref (hs1 g27), .ref (hs5 g38), .null, .null, .null, .null, .null]))] ++ (((([] ++ wY0 cy g5) ++ wY0 cy g16) ++ wY1 cy g27) ++ wY5 cy g38)) := hD
  refine lv_aload_n hx hb dk9_48 rfl (lv_at hl 0 rfl) ?_
  refine lv_iconst hx hb dk9_49 (show Int32.ofInt 2 = nI 2 by decide) ?_
  refine ct_newq (cy := cy) (X := [(h0, .inr (9, [.ref (hs0 g5), .ref (hs0 g16), .ref (hs1 g27), .ref (hs5 g38), .null, .null, .null, .null, .null]))]) (pl := (((([] ++ wY0 cy g5) ++ wY0 cy g16) ++ wY1 cy g27) ++ wY5 cy g38)) S (C := RX0) hK.2.1.2.2 (mB (mt1 (List.mem_of_getElem? (i := 27) (by decide +kernel))) rfl) (k := 21) (t1 := 7) rfl (n := nI 2) (N := 2) (nI_nn (by omega)) (nI_clamp (by omega)) (Nat.le_of_ble_eq_true rfl) dk9_50 hK hP hD hS hA (Nat.le_of_ble_eq_true rfl) (Nat.le_of_ble_eq_true rfl) (fun q50 H hP hD hS => ?_)
  have hP : va_P D vwCl ([(h0, .inr (9, [.ref (hs0 g5), .ref (hs0 g16), .ref (hs1 g27), .ref (hs5 g38), .null, .null, .null, .null, .null])), (q50, .inl (cy 21, 2, .inr (.inr (.inr (.inr (fun _ => none))))))] ++ (((([] ++ wY0 cy g5) ++ wY0 cy g16) ++ wY1 cy g27) ++ wY5 cy g38)) H := hP
  have hD : va_D A ([(h0, .inr (9, [.ref (hs0 g5), .ref (hs0 g16), .ref (hs1 g27), .ref (hs5 g38), .null, .null, .null, .null, .null])), (q50, .inl (cy 21, 2, .inr (.inr (.inr (.inr (fun _ => none))))))] ++ (((([] ++ wY0 cy g5) ++ wY0 cy g16) ++ wY1 cy g27) ++ wY5 cy g38)) := hD
  refine ct_putF (X := [(h0, .inr (9, [.ref (hs0 g5), .ref (hs0 g16), .ref (hs1 g27), .ref (hs5 g38), .null, .null, .null, .null, .null])), (q50, .inl (cy 21, 2, .inr (.inr (.inr (.inr (fun _ => none))))))]) (pl := (((([] ++ wY0 cy g5) ++ wY0 cy g16) ++ wY1 cy g27) ++ wY5 cy g38)) S (idx := 33) (ci := 9) (f := 4) (mB (mt2 (List.mem_of_getElem? (i := 142) (by decide +kernel))) rfl) (by decide) (by decide) rfl rfl hin (ty := (.array (.object "SharedAir$Air"))) rfl rfl rfl (q0 := 0) rfl (Nat.le_of_ble_eq_true rfl) dk9_53 hK hP hD hS (fun H locs hP hD hS => ?_)
  have hP : va_P D vwCl ([(h0, .inr (9, [.ref (hs0 g5), .ref (hs0 g16), .ref (hs1 g27), .ref (hs5 g38), .ref q50, .null, .null, .null, .null])), (q50, .inl (cy 21, 2, .inr (.inr (.inr (.inr (fun _ => none))))))] ++ (((([] ++ wY0 cy g5) ++ wY0 cy g16) ++ wY1 cy g27) ++ wY5 cy g38)) H := hP
  have hD : va_D A ([(h0, .inr (9, [.ref (hs0 g5), .ref (hs0 g16), .ref (hs1 g27), .ref (hs5 g38), .ref q50, .null, .null, .null, .null])), (q50, .inl (cy 21, 2, .inr (.inr (.inr (.inr (fun _ => none))))))] ++ (((([] ++ wY0 cy g5) ++ wY0 cy g16) ++ wY1 cy g27) ++ wY5 cy g38)) := hD
  refine lv_aload_n hx hb dk9_56 rfl (lv_at hl 0 rfl) ?_
  refine lv_iconst hx hb dk9_57 (show Int32.ofInt 2 = nI 2 by decide) ?_
  refine ct_newa (cy := cy) (X := [(h0, .inr (9, [.ref (hs0 g5), .ref (hs0 g16), .ref (hs1 g27), .ref (hs5 g38), .ref q50, .null, .null, .null, .null])), (q50, .inl (cy 21, 2, .inr (.inr (.inr (.inr (fun _ => none))))))]) (pl := (((([] ++ wY0 cy g5) ++ wY0 cy g16) ++ wY1 cy g27) ++ wY5 cy g38)) S (atype := .boolean) (ty := .boolean) rfl (mB (mt2 (List.mem_of_getElem? (i := 121) (by decide +kernel))) rfl) (k := 3) (t1 := 2) rfl (fun _ _ h => h) (n := nI 2) (N := 2) (a0 := (2, .inl (fun _ => 0))) (fun _ => by first | rfl) (nI_nn (by omega)) (nI_clamp (by omega)) (Nat.le_of_ble_eq_true rfl) dk9_58 hK hP hD hS hA (Nat.le_of_ble_eq_true rfl) (Nat.le_of_ble_eq_true rfl) (fun q58 H hP hD hS => ?_)
  have hP : va_P D vwCl ([(h0, .inr (9, [.ref (hs0 g5), .ref (hs0 g16), .ref (hs1 g27), .ref (hs5 g38), .ref q50, .null, .null, .null, .null])), (q50, .inl (cy 21, 2, .inr (.inr (.inr (.inr (fun _ => none)))))), (q58, .inl (cy 3, 2, .inl (fun _ => 0)))] ++ (((([] ++ wY0 cy g5) ++ wY0 cy g16) ++ wY1 cy g27) ++ wY5 cy g38)) H := hP
  have hD : va_D A ([(h0, .inr (9, [.ref (hs0 g5), .ref (hs0 g16), .ref (hs1 g27), .ref (hs5 g38), .ref q50, .null, .null, .null, .null])), (q50, .inl (cy 21, 2, .inr (.inr (.inr (.inr (fun _ => none)))))), (q58, .inl (cy 3, 2, .inl (fun _ => 0)))] ++ (((([] ++ wY0 cy g5) ++ wY0 cy g16) ++ wY1 cy g27) ++ wY5 cy g38)) := hD
  refine ct_putF (X := [(h0, .inr (9, [.ref (hs0 g5), .ref (hs0 g16), .ref (hs1 g27), .ref (hs5 g38), .ref q50, .null, .null, .null, .null])), (q50, .inl (cy 21, 2, .inr (.inr (.inr (.inr (fun _ => none)))))), (q58, .inl (cy 3, 2, .inl (fun _ => 0)))]) (pl := (((([] ++ wY0 cy g5) ++ wY0 cy g16) ++ wY1 cy g27) ++ wY5 cy g38)) S (idx := 37) (ci := 9) (f := 5) (mB (mt2 (List.mem_of_getElem? (i := 143) (by decide +kernel))) rfl) (by decide) (by decide) rfl rfl hin (ty := (.array .boolean)) rfl rfl rfl (q0 := 0) rfl (Nat.le_of_ble_eq_true rfl) dk9_60 hK hP hD hS (fun H locs hP hD hS => ?_)
  have hP : va_P D vwCl ([(h0, .inr (9, [.ref (hs0 g5), .ref (hs0 g16), .ref (hs1 g27), .ref (hs5 g38), .ref q50, .ref q58, .null, .null, .null])), (q50, .inl (cy 21, 2, .inr (.inr (.inr (.inr (fun _ => none)))))), (q58, .inl (cy 3, 2, .inl (fun _ => 0)))] ++ (((([] ++ wY0 cy g5) ++ wY0 cy g16) ++ wY1 cy g27) ++ wY5 cy g38)) H := hP
  have hD : va_D A ([(h0, .inr (9, [.ref (hs0 g5), .ref (hs0 g16), .ref (hs1 g27), .ref (hs5 g38), .ref q50, .ref q58, .null, .null, .null])), (q50, .inl (cy 21, 2, .inr (.inr (.inr (.inr (fun _ => none)))))), (q58, .inl (cy 3, 2, .inl (fun _ => 0)))] ++ (((([] ++ wY0 cy g5) ++ wY0 cy g16) ++ wY1 cy g27) ++ wY5 cy g38)) := hD
  refine lv_aload_n hx hb dk9_63 rfl (lv_at hl 0 rfl) ?_
  refine ct_make (hdS := hs7) (X := [(h0, .inr (9, [.ref (hs0 g5), .ref (hs0 g16), .ref (hs1 g27), .ref (hs5 g38), .ref q50, .ref q58, .null, .null, .null])), (q50, .inl (cy 21, 2, .inr (.inr (.inr (.inr (fun _ => none)))))), (q58, .inl (cy 3, 2, .inl (fun _ => 0)))]) (pl := (((([] ++ wY0 cy g5) ++ wY0 cy g16) ++ wY1 cy g27) ++ wY5 cy g38)) (mk_7 l) (by decide) rfl rfl ⟨by decide +kernel, by decide +kernel, by decide +kernel⟩ ws7 wi7 wn7 wt7 wf7 (own := RX9) (idx := 41) (idx2 := 43) (mB (mt2 (List.mem_of_getElem? (i := 107) (by decide +kernel))) rfl) (Or.inr ⟨"SharedAir", (mu2 (List.mem_of_getElem? (i := 109) (by decide +kernel)))⟩) dk9_64 dk9_67 dk9_68 S hl.1 hK hP hD hS hA ⟨(Nat.le_of_ble_eq_true rfl), (Nat.le_of_ble_eq_true rfl)⟩ (Nat.le_of_ble_eq_true rfl) (Nat.le_of_ble_eq_true rfl) (Nat.le_of_ble_eq_true rfl) (fun g64 H locs hP hD hS => ?_)
  have hP : va_P D vwCl ([(h0, .inr (9, [.ref (hs0 g5), .ref (hs0 g16), .ref (hs1 g27), .ref (hs5 g38), .ref q50, .ref q58, .null, .null, .null])), (q50, .inl (cy 21, 2, .inr (.inr (.inr (.inr (fun _ => none)))))), (q58, .inl (cy 3, 2, .inl (fun _ => 0)))] ++ ((((([] ++ wY0 cy g5) ++ wY0 cy g16) ++ wY1 cy g27) ++ wY5 cy g38) ++ wY7 cy g64)) H := hP
  have hD : va_D A ([(h0, .inr (9, [.ref (hs0 g5), .ref (hs0 g16), .ref (hs1 g27), .ref (hs5 g38), .ref q50, .ref q58, .null, .null, .null])), (q50, .inl (cy 21, 2, .inr (.inr (.inr (.inr (fun _ => none)))))), (q58, .inl (cy 3, 2, .inl (fun _ => 0)))] ++ ((((([] ++ wY0 cy g5) ++ wY0 cy g16) ++ wY1 cy g27) ++ wY5 cy g38) ++ wY7 cy g64)) := hD
  refine ct_putF (X := [(h0, .inr (9, [.ref (hs0 g5), .ref (hs0 g16), .ref (hs1 g27), .ref (hs5 g38), .ref q50, .ref q58, .null, .null, .null])), (q50, .inl (cy 21, 2, .inr (.inr (.inr (.inr (fun _ => none)))))), (q58, .inl (cy 3, 2, .inl (fun _ => 0)))]) (pl := ((((([] ++ wY0 cy g5) ++ wY0 cy g16) ++ wY1 cy g27) ++ wY5 cy g38) ++ wY7 cy g64)) S (idx := 44) (ci := 9) (f := 6) (mB (mt2 (List.mem_of_getElem? (i := 144) (by decide +kernel))) rfl) (by decide) (by decide) rfl rfl hin (ty := (.object "SharedAir$Signs")) rfl rfl rfl (q0 := 0) rfl (Nat.le_of_ble_eq_true rfl) dk9_71 hK hP hD hS (fun H locs hP hD hS => ?_)
  have hP : va_P D vwCl ([(h0, .inr (9, [.ref (hs0 g5), .ref (hs0 g16), .ref (hs1 g27), .ref (hs5 g38), .ref q50, .ref q58, .ref (hs7 g64), .null, .null])), (q50, .inl (cy 21, 2, .inr (.inr (.inr (.inr (fun _ => none)))))), (q58, .inl (cy 3, 2, .inl (fun _ => 0)))] ++ ((((([] ++ wY0 cy g5) ++ wY0 cy g16) ++ wY1 cy g27) ++ wY5 cy g38) ++ wY7 cy g64)) H := hP
  have hD : va_D A ([(h0, .inr (9, [.ref (hs0 g5), .ref (hs0 g16), .ref (hs1 g27), .ref (hs5 g38), .ref q50, .ref q58, .ref (hs7 g64), .null, .null])), (q50, .inl (cy 21, 2, .inr (.inr (.inr (.inr (fun _ => none)))))), (q58, .inl (cy 3, 2, .inl (fun _ => 0)))] ++ ((((([] ++ wY0 cy g5) ++ wY0 cy g16) ++ wY1 cy g27) ++ wY5 cy g38) ++ wY7 cy g64)) := hD
  refine lv_aload_n hx hb dk9_74 rfl (lv_at hl 0 rfl) ?_
  refine ct_make (hdS := hs4) (X := [(h0, .inr (9, [.ref (hs0 g5), .ref (hs0 g16), .ref (hs1 g27), .ref (hs5 g38), .ref q50, .ref q58, .ref (hs7 g64), .null, .null])), (q50, .inl (cy 21, 2, .inr (.inr (.inr (.inr (fun _ => none)))))), (q58, .inl (cy 3, 2, .inl (fun _ => 0)))]) (pl := ((((([] ++ wY0 cy g5) ++ wY0 cy g16) ++ wY1 cy g27) ++ wY5 cy g38) ++ wY7 cy g64)) (mk_4 l) (by decide) rfl rfl ⟨by decide +kernel, by decide +kernel, by decide +kernel⟩ ws4 wi4 wn4 wt4 wf4 (own := RX9) (idx := 48) (idx2 := 50) (mB (mt2 (List.mem_of_getElem? (i := 122) (by decide +kernel))) rfl) (Or.inr ⟨"SharedAir", (mu2 (List.mem_of_getElem? (i := 124) (by decide +kernel)))⟩) dk9_75 dk9_78 dk9_79 S hl.1 hK hP hD hS hA ⟨(Nat.le_of_ble_eq_true rfl), (Nat.le_of_ble_eq_true rfl)⟩ (Nat.le_of_ble_eq_true rfl) (Nat.le_of_ble_eq_true rfl) (Nat.le_of_ble_eq_true rfl) (fun g75 H locs hP hD hS => ?_)
  have hP : va_P D vwCl ([(h0, .inr (9, [.ref (hs0 g5), .ref (hs0 g16), .ref (hs1 g27), .ref (hs5 g38), .ref q50, .ref q58, .ref (hs7 g64), .null, .null])), (q50, .inl (cy 21, 2, .inr (.inr (.inr (.inr (fun _ => none)))))), (q58, .inl (cy 3, 2, .inl (fun _ => 0)))] ++ (((((([] ++ wY0 cy g5) ++ wY0 cy g16) ++ wY1 cy g27) ++ wY5 cy g38) ++ wY7 cy g64) ++ wY4 cy g75)) H := hP
  have hD : va_D A ([(h0, .inr (9, [.ref (hs0 g5), .ref (hs0 g16), .ref (hs1 g27), .ref (hs5 g38), .ref q50, .ref q58, .ref (hs7 g64), .null, .null])), (q50, .inl (cy 21, 2, .inr (.inr (.inr (.inr (fun _ => none)))))), (q58, .inl (cy 3, 2, .inl (fun _ => 0)))] ++ (((((([] ++ wY0 cy g5) ++ wY0 cy g16) ++ wY1 cy g27) ++ wY5 cy g38) ++ wY7 cy g64) ++ wY4 cy g75)) := hD
  refine ct_putF (X := [(h0, .inr (9, [.ref (hs0 g5), .ref (hs0 g16), .ref (hs1 g27), .ref (hs5 g38), .ref q50, .ref q58, .ref (hs7 g64), .null, .null])), (q50, .inl (cy 21, 2, .inr (.inr (.inr (.inr (fun _ => none)))))), (q58, .inl (cy 3, 2, .inl (fun _ => 0)))]) (pl := (((((([] ++ wY0 cy g5) ++ wY0 cy g16) ++ wY1 cy g27) ++ wY5 cy g38) ++ wY7 cy g64) ++ wY4 cy g75)) S (idx := 51) (ci := 9) (f := 7) (mB (mt2 (List.mem_of_getElem? (i := 145) (by decide +kernel))) rfl) (by decide) (by decide) rfl rfl hin (ty := (.object "SharedAir$Numbers")) rfl rfl rfl (q0 := 0) rfl (Nat.le_of_ble_eq_true rfl) dk9_82 hK hP hD hS (fun H locs hP hD hS => ?_)
  have hP : va_P D vwCl ([(h0, .inr (9, [.ref (hs0 g5), .ref (hs0 g16), .ref (hs1 g27), .ref (hs5 g38), .ref q50, .ref q58, .ref (hs7 g64), .ref (hs4 g75), .null])), (q50, .inl (cy 21, 2, .inr (.inr (.inr (.inr (fun _ => none)))))), (q58, .inl (cy 3, 2, .inl (fun _ => 0)))] ++ (((((([] ++ wY0 cy g5) ++ wY0 cy g16) ++ wY1 cy g27) ++ wY5 cy g38) ++ wY7 cy g64) ++ wY4 cy g75)) H := hP
  have hD : va_D A ([(h0, .inr (9, [.ref (hs0 g5), .ref (hs0 g16), .ref (hs1 g27), .ref (hs5 g38), .ref q50, .ref q58, .ref (hs7 g64), .ref (hs4 g75), .null])), (q50, .inl (cy 21, 2, .inr (.inr (.inr (.inr (fun _ => none)))))), (q58, .inl (cy 3, 2, .inl (fun _ => 0)))] ++ (((((([] ++ wY0 cy g5) ++ wY0 cy g16) ++ wY1 cy g27) ++ wY5 cy g38) ++ wY7 cy g64) ++ wY4 cy g75)) := hD
  refine lv_aload_n hx hb dk9_85 rfl (lv_at hl 0 rfl) ?_
  refine lv_bipush hx hb dk9_86 (show (Int8.ofInt 36).toInt32 = nI 36 by decide) ?_
  refine ct_newa (cy := cy) (X := [(h0, .inr (9, [.ref (hs0 g5), .ref (hs0 g16), .ref (hs1 g27), .ref (hs5 g38), .ref q50, .ref q58, .ref (hs7 g64), .ref (hs4 g75), .null])), (q50, .inl (cy 21, 2, .inr (.inr (.inr (.inr (fun _ => none)))))), (q58, .inl (cy 3, 2, .inl (fun _ => 0)))]) (pl := (((((([] ++ wY0 cy g5) ++ wY0 cy g16) ++ wY1 cy g27) ++ wY5 cy g38) ++ wY7 cy g64) ++ wY4 cy g75)) S (atype := .int) (ty := .int) rfl (mB (mt1 (List.mem_of_getElem? (i := 45) (by decide +kernel))) rfl) (k := 1) (t1 := 0) rfl (fun _ _ h => h) (n := nI 36) (N := 36) (a0 := (36, .inl (fun _ => 0))) (fun _ => by first | rfl) (nI_nn (by omega)) (nI_clamp (by omega)) (Nat.le_of_ble_eq_true rfl) dk9_88 hK hP hD hS hA (Nat.le_of_ble_eq_true rfl) (Nat.le_of_ble_eq_true rfl) (fun q88 H hP hD hS => ?_)
  have hP : va_P D vwCl ([(h0, .inr (9, [.ref (hs0 g5), .ref (hs0 g16), .ref (hs1 g27), .ref (hs5 g38), .ref q50, .ref q58, .ref (hs7 g64), .ref (hs4 g75), .null])), (q50, .inl (cy 21, 2, .inr (.inr (.inr (.inr (fun _ => none)))))), (q58, .inl (cy 3, 2, .inl (fun _ => 0))), (q88, .inl (cy 1, 36, .inl (fun _ => 0)))] ++ (((((([] ++ wY0 cy g5) ++ wY0 cy g16) ++ wY1 cy g27) ++ wY5 cy g38) ++ wY7 cy g64) ++ wY4 cy g75)) H := hP
  have hD : va_D A ([(h0, .inr (9, [.ref (hs0 g5), .ref (hs0 g16), .ref (hs1 g27), .ref (hs5 g38), .ref q50, .ref q58, .ref (hs7 g64), .ref (hs4 g75), .null])), (q50, .inl (cy 21, 2, .inr (.inr (.inr (.inr (fun _ => none)))))), (q58, .inl (cy 3, 2, .inl (fun _ => 0))), (q88, .inl (cy 1, 36, .inl (fun _ => 0)))] ++ (((((([] ++ wY0 cy g5) ++ wY0 cy g16) ++ wY1 cy g27) ++ wY5 cy g38) ++ wY7 cy g64) ++ wY4 cy g75)) := hD
  refine ct_putF (X := [(h0, .inr (9, [.ref (hs0 g5), .ref (hs0 g16), .ref (hs1 g27), .ref (hs5 g38), .ref q50, .ref q58, .ref (hs7 g64), .ref (hs4 g75), .null])), (q50, .inl (cy 21, 2, .inr (.inr (.inr (.inr (fun _ => none)))))), (q58, .inl (cy 3, 2, .inl (fun _ => 0))), (q88, .inl (cy 1, 36, .inl (fun _ => 0)))]) (pl := (((((([] ++ wY0 cy g5) ++ wY0 cy g16) ++ wY1 cy g27) ++ wY5 cy g38) ++ wY7 cy g64) ++ wY4 cy g75)) S (idx := 55) (ci := 9) (f := 8) (mB (mt2 (List.mem_of_getElem? (i := 146) (by decide +kernel))) rfl) (by decide) (by decide) rfl rfl hin (ty := (.array .int)) rfl rfl rfl (q0 := 0) rfl (Nat.le_of_ble_eq_true rfl) dk9_90 hK hP hD hS (fun H locs hP hD hS => ?_)
  have hP : va_P D vwCl ([(h0, .inr (9, [.ref (hs0 g5), .ref (hs0 g16), .ref (hs1 g27), .ref (hs5 g38), .ref q50, .ref q58, .ref (hs7 g64), .ref (hs4 g75), .ref q88])), (q50, .inl (cy 21, 2, .inr (.inr (.inr (.inr (fun _ => none)))))), (q58, .inl (cy 3, 2, .inl (fun _ => 0))), (q88, .inl (cy 1, 36, .inl (fun _ => 0)))] ++ (((((([] ++ wY0 cy g5) ++ wY0 cy g16) ++ wY1 cy g27) ++ wY5 cy g38) ++ wY7 cy g64) ++ wY4 cy g75)) H := hP
  have hD : va_D A ([(h0, .inr (9, [.ref (hs0 g5), .ref (hs0 g16), .ref (hs1 g27), .ref (hs5 g38), .ref q50, .ref q58, .ref (hs7 g64), .ref (hs4 g75), .ref q88])), (q50, .inl (cy 21, 2, .inr (.inr (.inr (.inr (fun _ => none)))))), (q58, .inl (cy 3, 2, .inl (fun _ => 0))), (q88, .inl (cy 1, 36, .inl (fun _ => 0)))] ++ (((((([] ++ wY0 cy g5) ++ wY0 cy g16) ++ wY1 cy g27) ++ wY5 cy g38) ++ wY7 cy g64) ++ wY4 cy g75)) := hD
  refine lv_iconst hx hb dk9_93 (show Int32.ofInt 0 = nI 0 by decide) ?_
  refine lv_istore_n hx hb dk9_94 rfl hl (Nat.le_of_ble_eq_true rfl) (lv' := [(1, .int (nI 0)), (0, .ref h0)]) rfl (fun ls hl => ?_)
  have hP : va_P D vwCl ([(h0, .inr (9, [.ref (hs0 g5), .ref (hs0 g16), .ref (hs1 g27), .ref (hs5 g38), .ref q50, .ref q58, .ref (hs7 g64), .ref (hs4 g75), .ref q88])), (q50, .inl (cy 21, 2, .inr (.inr (.inr (.inr (refsT hs0 (fun _ => sD0) 0)))))), (q58, .inl (cy 3, 2, .inl (fun _ => 0))), (q88, .inl (cy 1, 36, .inl (fun _ => 0)))] ++ ((((((([] ++ wY0 cy g5) ++ wY0 cy g16) ++ wY1 cy g27) ++ wY5 cy g38) ++ wY7 cy g64) ++ wY4 cy g75) ++ poolW (wY0 cy) (fun _ => sD0) 0)) H := by rw [refsT_0]; rw [show poolW (wY0 cy) (fun _ => sD0) 0 = [] from rfl, List.append_nil]; exact hP
  have hD : va_D A ([(h0, .inr (9, [.ref (hs0 g5), .ref (hs0 g16), .ref (hs1 g27), .ref (hs5 g38), .ref q50, .ref q58, .ref (hs7 g64), .ref (hs4 g75), .ref q88])), (q50, .inl (cy 21, 2, .inr (.inr (.inr (.inr (refsT hs0 (fun _ => sD0) 0)))))), (q58, .inl (cy 3, 2, .inl (fun _ => 0))), (q88, .inl (cy 1, 36, .inl (fun _ => 0)))] ++ ((((((([] ++ wY0 cy g5) ++ wY0 cy g16) ++ wY1 cy g27) ++ wY5 cy g38) ++ wY7 cy g64) ++ wY4 cy g75) ++ poolW (wY0 cy) (fun _ => sD0) 0)) := by rw [refsT_0]; rw [show poolW (wY0 cy) (fun _ => sD0) 0 = [] from rfl, List.append_nil]; exact hD
  refine ct_loop (A := A) (hdS := hs0) (mk_0 l) (by decide) rfl rfl ⟨by decide +kernel, by decide +kernel, by decide +kernel⟩ ws0 wi0 wn0 wt0 wf0 (fs2 := fun g => [.ref (g.1 1), .ref (g.1 2), .ref (g.1 3), .int 0, .int 0, .int 0, .int 0, .int 0, .int 0, .int 0, .int 0, .int 0, .int 0]) (fun _ => rfl) (own := RX9) (idx := 7) (idx2 := 9) (mB (mt1 (List.mem_of_getElem? (i := 27) (by decide +kernel))) rfl) (Or.inl (mB (mt1 (List.mem_of_getElem? (i := 29) (by decide +kernel))) rfl)) (hd := 95) (B := 97) (n := 2) (o := 9) (co := 9) (f0 := 4) (t1 := 7) (ka := 21) (by omega) fl_105 rfl rfl dk9_95 dk9_97 dk9_100 dk9_101 dk9_104 dk9_105 dk9_108 dk9_109 dk9_112 dk9_113 (back := (-21)) dk9_116 (by decide) S hK hA (fun k' => lv_iconst hx hb dk9_96 (show Int32.ofInt 2 = nI 2 by decide) k') ⟨(Nat.le_of_ble_eq_true rfl), (Nat.le_of_ble_eq_true rfl)⟩ (X := fun f => [(h0, .inr (9, [.ref (hs0 g5), .ref (hs0 g16), .ref (hs1 g27), .ref (hs5 g38), .ref q50, .ref q58, .ref (hs7 g64), .ref (hs4 g75), .ref q88])), (q50, .inl (cy 21, 2, .inr (.inr (.inr (.inr (f)))))), (q58, .inl (cy 3, 2, .inl (fun _ => 0))), (q88, .inl (cy 1, 36, .inl (fun _ => 0)))]) (q0 := 0) (qa := 1) (fun _ => rfl) rfl (fun _ => rfl) (fun _ _ => rfl) (pl := (((((([] ++ wY0 cy g5) ++ wY0 cy g16) ++ wY1 cy g27) ++ wY5 cy g38) ++ wY7 cy g64) ++ wY4 cy g75)) 2 0 (fun _ => sD0) rfl hl hP hD hS (Nat.le_of_ble_eq_true rfl) (Nat.le_of_ble_eq_true rfl) (fun gs H locs ls hl hP hD hS => ?_)
  have hP : va_P D vwCl ([(h0, .inr (9, [.ref (hs0 g5), .ref (hs0 g16), .ref (hs1 g27), .ref (hs5 g38), .ref q50, .ref q58, .ref (hs7 g64), .ref (hs4 g75), .ref q88])), (q50, .inl (cy 21, 2, .inr (.inr (.inr (.inr (refsT hs0 gs 2)))))), (q58, .inl (cy 3, 2, .inl (fun _ => 0))), (q88, .inl (cy 1, 36, .inl (fun _ => 0)))] ++ ((((((([] ++ wY0 cy g5) ++ wY0 cy g16) ++ wY1 cy g27) ++ wY5 cy g38) ++ wY7 cy g64) ++ wY4 cy g75) ++ poolW (wY0 cy) gs 2)) H := hP
  have hD : va_D A ([(h0, .inr (9, [.ref (hs0 g5), .ref (hs0 g16), .ref (hs1 g27), .ref (hs5 g38), .ref q50, .ref q58, .ref (hs7 g64), .ref (hs4 g75), .ref q88])), (q50, .inl (cy 21, 2, .inr (.inr (.inr (.inr (refsT hs0 gs 2)))))), (q58, .inl (cy 3, 2, .inl (fun _ => 0))), (q88, .inl (cy 1, 36, .inl (fun _ => 0)))] ++ ((((((([] ++ wY0 cy g5) ++ wY0 cy g16) ++ wY1 cy g27) ++ wY5 cy g38) ++ wY7 cy g64) ++ wY4 cy g75) ++ poolW (wY0 cy) gs 2)) := hD
  refine W.widen (k := 1070) (n := 15350) (Nat.le_of_ble_eq_true rfl) (Nat.le_of_ble_eq_true rfl) ?_
  have hP9 : va_P D vwCl (wY9 cy ((fun i => match i with | 0 => h0 | 1 => q50 | 2 => q58 | _ => q88), (fun i => match i with | 0 => g5 | 1 => g16 | n + 2 => gs n), g27, g38, g64, g75)) H := hP
  have hD9 : va_D A (wY9 cy ((fun i => match i with | 0 => h0 | 1 => q50 | 2 => q58 | _ => q88), (fun i => match i with | 0 => g5 | 1 => g16 | n + 2 => gs n), g27, g38, g64, g75)) := hD
  exact W.vret hx hb hr (fun t ht hW => ⟨⟨((fun i => match i with | 0 => h0 | 1 => q50 | 2 => q58 | _ => q88), (fun i => match i with | 0 => g5 | 1 => g16 | n + 2 => gs n), g27, g38, g64, g75), rfl, rfl, by rw [ht]; exact hP9, hD9⟩, hS.F ht⟩) hS.2.2 dk9_119

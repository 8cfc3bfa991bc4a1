/-! Makers (by program: gen/writeCtor.py) -/
theorem ob_i : Cond.instanceMethod objectInit ∈ mBig := (mB (mt1 (List.mem_of_getElem? (i := 25) (by decide +kernel))) rfl)
theorem ob_c : Cond.code objectInit ⟨#[0xb1]⟩ 1 none ∈ mBig := (mB (mt1 (List.mem_of_getElem? (i := 26) rfl)) rfl)
theorem nI_nn {n : Nat} (h : n < 2 ^ 31) : ¬ nI n < 0 := Int32.not_lt.mpr (nI_le (a := 0) (by omega) h)
theorem refsT_0 {Sg : Type} {hdS : Sg → Nat} {gs : Nat → Sg} : refsT hdS gs 0 = fun _ => none := funext fun i => if_neg (Nat.not_lt_zero i)
theorem d_one {h0 : Nat} {e : va_E} : va_D (fun _ => True) [(h0, e)] := by
  refine ⟨fun i j p q hi hj _ => ?_, fun _ _ _ => trivial⟩
  have h1 : i < 1 := (List.getElem?_eq_some_iff.mp hi).1
  have h2 : j < 1 := (List.getElem?_eq_some_iff.mp hj).1
  omega
abbrev sY1 : Type := Nat
abbrev hs1 : sY1 → Nat := fun g => g
def wY1 (cy : Nat → ClassId) (g : sY1) : va_W := [(g, .inr (1, [.int 0]))]
def sD1 : sY1 := 0
theorem ws1 : Cond.code yX1_init cX1_init 1 none ∈ mBig := (mB (mt1 (List.mem_of_getElem? (i := 37) rfl)) rfl)
theorem wi1 : Cond.instanceMethod yX1_init ∈ mBig := (mB (mt1 (List.mem_of_getElem? (i := 36) (by decide +kernel))) rfl)
theorem wn1 : Cond.initialized (cn 1) ∈ mBig := (mB (mt1 (List.mem_of_getElem? (i := 3) (by decide +kernel))) rfl)
theorem wt1 : Cond.instantiable (cn 1) (fN 1) ∈ mBig := (mB (mt1 (List.mem_of_getElem? (i := 34) (by decide +kernel))) rfl)
theorem wf1 : ∀ j, j < fN 1 → defaultValue (fY 1 j) = vp_V [.int 0] j := by decide +kernel
theorem dk1_0 : decode cX1_init 0 = .ok (.aload_n 0, 1) := by decide +kernel
theorem dk1_1 : decode cX1_init 1 = .ok (.invokespecial 1, 3) := by decide +kernel
theorem dk1_4 : decode cX1_init 4 = .ok (.return_, 1) := by decide +kernel
set_option maxHeartbeats 4000000 in
set_option maxRecDepth 100000 in
theorem mk_1 (l : Launch) {D : va_G} {cy : Nat → ClassId} {t0 : Nat × Nat} : CMet hs1 l D cy t0 1 yX1_init cX1_init 1 [.int 0] (wY1 cy) 1 12 0 0 := by
  intro h0 sz
  refine Met.ofW (cc := cX1_init) (maxL := 1) (ret := none) (cn_plain 1) rfl ?_
  intro p e s m args below meth c s₁ B hml hv
  obtain ⟨rfl, hsz, hP0, hK⟩ := hv
  have hx := B.exec
  have hb := B.bytes
  have hr := B.returns
  have hts0 := atoms_spec (ws := .code yX1_init cX1_init 1 none :: mBig) B.pre
  have hts : ∀ w ∈ mBig, w.before ([.ref h0] : List Value).toArray s = true := fun w hw => hts0 w (List.mem_cons_of_mem _ hw)
  have hown : s.vm.findClass RX1 = some m.cls := findClass_of_methodNamed B.named
  have hlocks := B.notSynchronized
  have hin : meth.name = "<init>" := (name_of_methodNamed B.named B.method).1
  subst hsz
  have hD0 : va_D (fun _ => True) [(h0, (.inr (1, [.int 0]) : va_E))] := d_one
  have hD := hD0.self (sz := s.heap.size)
  generalize hAe : va_A [(h0, (.inr (1, [.int 0]) : va_E))] s.heap.size = A at hD hK ⊢
  have hA : ∀ q : Nat, s.heap.size ≤ q → A q := fun q h => by rw [← hAe]; exact Or.inr h
  have hS : va_S A s.heap s.heap [] := va_S.rf
  have S : CallFix p m c cX1_init 1 s ([.ref h0] : List Value).toArray mBig RX1 := ⟨hx, hb, hml, hown, hts⟩
  have hP : va_P D vwCl ([(h0, .inr (1, [.int 0]))] ++ []) s.heap := hP0
  have hD : va_D A ([(h0, .inr (1, [.int 0]))] ++ []) := hD
  have hl := lv_entry ([.ref h0]) (n := 1) (Nat.le_of_ble_eq_true rfl)
  rw [lg_entry_eq]
  generalize (lg_sl ([.ref h0]) ++ List.replicate (1 - (lg_sl ([.ref h0])).length) Slot.unset).toArray = ls at hl ⊢
  have hl : lv_has ls 1 [(0, .ref h0)] := hl
  refine lv_aload_n hx hb dk1_0 rfl (lv_at hl 0 rfl) ?_
  refine W.objInit hx hb hown (hts _ (mB (mt1 (List.mem_of_getElem? (i := 38) (by decide +kernel))) rfl)) (hts _ ob_i) (hts _ ob_c) rfl (by rw [hml]; exact hl.1) rfl dk1_1 (Nat.le_of_ble_eq_true rfl) (Nat.le_of_ble_eq_true rfl) ?_
  refine W.eq (g2 := F0 m 4 ls []) rfl ?_
  refine W.widen (k := 0) (n := 0) (Nat.le_of_ble_eq_true rfl) (Nat.le_of_ble_eq_true rfl) ?_
  have hP9 : va_P D vwCl (wY1 cy h0) s.heap := hP
  have hD9 : va_D A (wY1 cy h0) := hD
  exact W.vret hx hb hr (fun t ht hW => ⟨⟨h0, rfl, rfl, by rw [ht]; exact hP9, hD9⟩, hS.F ht⟩) hS.2.2 dk1_4
abbrev sY2 : Type := Nat
abbrev hs2 : sY2 → Nat := fun g => g
def wY2 (cy : Nat → ClassId) (g : sY2) : va_W := [(g, .inr (2, [.int 0, .int 0, .int 0, .int 0, .int 0, .int 0, .int 0, .int 0, .int 0, .int 0, .int 0, .int 0, .int 0]))]
def sD2 : sY2 := 0
theorem ws2 : Cond.code yX2_init cX2_init 1 none ∈ mBig := (mB (mt1 (List.mem_of_getElem? (i := 64) rfl)) rfl)
theorem wi2 : Cond.instanceMethod yX2_init ∈ mBig := (mB (mt1 (List.mem_of_getElem? (i := 63) (by decide +kernel))) rfl)
theorem wn2 : Cond.initialized (cn 2) ∈ mBig := (mB (mt1 (List.mem_of_getElem? (i := 6) (by decide +kernel))) rfl)
theorem wt2 : Cond.instantiable (cn 2) (fN 2) ∈ mBig := (mB (mt1 (List.mem_of_getElem? (i := 61) (by decide +kernel))) rfl)
theorem wf2 : ∀ j, j < fN 2 → defaultValue (fY 2 j) = vp_V [.int 0, .int 0, .int 0, .int 0, .int 0, .int 0, .int 0, .int 0, .int 0, .int 0, .int 0, .int 0, .int 0] j := by decide +kernel
theorem dk2_0 : decode cX2_init 0 = .ok (.aload_n 0, 1) := by decide +kernel
theorem dk2_1 : decode cX2_init 1 = .ok (.invokespecial 3, 3) := by decide +kernel
theorem dk2_4 : decode cX2_init 4 = .ok (.return_, 1) := by decide +kernel
set_option maxHeartbeats 4000000 in
set_option maxRecDepth 100000 in
theorem mk_2 (l : Launch) {D : va_G} {cy : Nat → ClassId} {t0 : Nat × Nat} : CMet hs2 l D cy t0 2 yX2_init cX2_init 1 [.int 0, .int 0, .int 0, .int 0, .int 0, .int 0, .int 0, .int 0, .int 0, .int 0, .int 0, .int 0, .int 0] (wY2 cy) 1 12 0 0 := by
  intro h0 sz
  refine Met.ofW (cc := cX2_init) (maxL := 1) (ret := none) (cn_plain 2) rfl ?_
  intro p e s m args below meth c s₁ B hml hv
  obtain ⟨rfl, hsz, hP0, hK⟩ := hv
  have hx := B.exec
  have hb := B.bytes
  have hr := B.returns
  have hts0 := atoms_spec (ws := .code yX2_init cX2_init 1 none :: mBig) B.pre
  have hts : ∀ w ∈ mBig, w.before ([.ref h0] : List Value).toArray s = true := fun w hw => hts0 w (List.mem_cons_of_mem _ hw)
  have hown : s.vm.findClass RX2 = some m.cls := findClass_of_methodNamed B.named
  have hlocks := B.notSynchronized
  have hin : meth.name = "<init>" := (name_of_methodNamed B.named B.method).1
  subst hsz
  have hD0 : va_D (fun _ => True) [(h0, (.inr (2, [.int 0, .int 0, .int 0, .int 0, .int 0, .int 0, .int 0, .int 0, .int 0, .int 0, .int 0, .int 0, .int 0]) : va_E))] := d_one
  have hD := hD0.self (sz := s.heap.size)
  generalize hAe : va_A [(h0, (.inr (2, [.int 0, .int 0, .int 0, .int 0, .int 0, .int 0, .int 0, .int 0, .int 0, .int 0, .int 0, .int 0, .int 0]) : va_E))] s.heap.size = A at hD hK ⊢
  have hA : ∀ q : Nat, s.heap.size ≤ q → A q := fun q h => by rw [← hAe]; exact Or.inr h
  have hS : va_S A s.heap s.heap [] := va_S.rf
  have S : CallFix p m c cX2_init 1 s ([.ref h0] : List Value).toArray mBig RX2 := ⟨hx, hb, hml, hown, hts⟩
  have hP : va_P D vwCl ([(h0, .inr (2, [.int 0, .int 0, .int 0, .int 0, .int 0, .int 0, .int 0, .int 0, .int 0, .int 0, .int 0, .int 0, .int 0]))] ++ []) s.heap := hP0
  have hD : va_D A ([(h0, .inr (2, [.int 0, .int 0, .int 0, .int 0, .int 0, .int 0, .int 0, .int 0, .int 0, .int 0, .int 0, .int 0, .int 0]))] ++ []) := hD
  have hl := lv_entry ([.ref h0]) (n := 1) (Nat.le_of_ble_eq_true rfl)
  rw [lg_entry_eq]
  generalize (lg_sl ([.ref h0]) ++ List.replicate (1 - (lg_sl ([.ref h0])).length) Slot.unset).toArray = ls at hl ⊢
  have hl : lv_has ls 1 [(0, .ref h0)] := hl
  refine lv_aload_n hx hb dk2_0 rfl (lv_at hl 0 rfl) ?_
  refine W.objInit hx hb hown (hts _ (mB (mt1 (List.mem_of_getElem? (i := 65) (by decide +kernel))) rfl)) (hts _ ob_i) (hts _ ob_c) rfl (by rw [hml]; exact hl.1) rfl dk2_1 (Nat.le_of_ble_eq_true rfl) (Nat.le_of_ble_eq_true rfl) ?_
  refine W.eq (g2 := F0 m 4 ls []) rfl ?_
  refine W.widen (k := 0) (n := 0) (Nat.le_of_ble_eq_true rfl) (Nat.le_of_ble_eq_true rfl) ?_
  have hP9 : va_P D vwCl (wY2 cy h0) s.heap := hP
  have hD9 : va_D A (wY2 cy h0) := hD
  exact W.vret hx hb hr (fun t ht hW => ⟨⟨h0, rfl, rfl, by rw [ht]; exact hP9, hD9⟩, hS.F ht⟩) hS.2.2 dk2_4

/-! The law's entry: what the Statement gives of the start (by program: gen/writeStart.py) -/
section ST
variable {p : Program} {s : State} {m : MethodId} {meth : Method} {c : Code} {b L : Nat} {xs : Nat → Int32}
abbrev lwA (s : State) : Nat → Prop := fun q => s.heap.size ≤ q
theorem uk_all (hts : ∀ w ∈ mBig, w.before #[Value.ref b] s = true) : ∀ k, k < 11 → ∃ (cC : ClassId) (iS : Nat → Nat), u_Kn s (cn k) (fT k) (fN k) cC iS
  | 0, _ => u_known hts (fLay 0 (by decide)) (hts _ wt0)
  | 1, _ => u_known hts (fLay 1 (by decide)) (hts _ wt1)
  | 2, _ => u_known hts (fLay 2 (by decide)) (hts _ wt2)
  | 3, _ => u_known hts (fLay 3 (by decide)) (hts _ wt3)
  | 4, _ => u_known hts (fLay 4 (by decide)) (hts _ wt4)
  | 5, _ => u_known hts (fLay 5 (by decide)) (hts _ wt5)
  | 6, _ => u_known hts (fLay 6 (by decide)) (hts _ wt6)
  | 7, _ => u_known hts (fLay 7 (by decide)) (hts _ wt7)
  | 8, _ => u_known hts (fLay 8 (by decide)) (hts _ wt8)
  | 9, _ => u_known hts (fLay 9 (by decide)) (hts _ wt9)
  | 10, _ => u_known hts (fLay 10 (by decide)) (hts _ wt10)
  | n + 11, h => by omega
theorem nw_all (hts : ∀ w ∈ lw_tbl, w.before #[Value.ref b] s = true) : ∀ w ∈ tables_1, isNestW w = true → va_Nw w s := fun w hw hn => by
  have h := hts w (List.mem_append_right _ hw)
  cases w <;> first | (simp [isNestW] at hn; done) | exact va_Nw.of rfl h
theorem ks_all (hts : ∀ w ∈ lw_tbl, w.before #[Value.ref b] s = true) : ∃ (D : va_G) (cy : Nat → ClassId), mKS D cy s := by
  have htsB : ∀ w ∈ mBig, w.before #[Value.ref b] s = true := fun w hw => hts w (List.mem_filter.mp hw).1
  obtain ⟨c1, k1, m1, n1, a1, d1⟩ := Cond.arrayClass_spec (type := .int) (hts _ (mt1 (List.mem_of_getElem? (i := 45) (by decide +kernel))))
  obtain ⟨c2, k2, m2, n2, a2, d2⟩ := Cond.arrayClass_spec (type := .byte) (hts _ (mt5 (List.mem_of_getElem? (i := 88) (by decide +kernel))))
  obtain ⟨c3, k3, m3, n3, a3, d3⟩ := Cond.arrayClass_spec (type := .boolean) (hts _ (mt2 (List.mem_of_getElem? (i := 121) (by decide +kernel))))
  obtain ⟨c4, k4, m4, n4, a4, d4⟩ := Cond.arrayClass_spec (type := .long) (hts _ (mt2 (List.mem_of_getElem? (i := 137) (by decide +kernel))))
  obtain ⟨m12, c12, k12, f12, -, a12, d12, n12⟩ := Cond.arrayOver_spec (n := "SharedAir$Station") (hts _ (mt1 (List.mem_of_getElem? (i := 47) (by decide +kernel))))
  obtain ⟨m13, c13, k13, f13, -, a13, d13, n13⟩ := Cond.arrayOver_spec (n := "SharedAir$Queue") (hts _ (mt1 (List.mem_of_getElem? (i := 59) (by decide +kernel))))
  obtain ⟨m20, c20, k20, f20, -, a20, d20, n20⟩ := Cond.arrayOver_spec (n := "SharedAir$Air") (hts _ (mt2 (List.mem_of_getElem? (i := 94) (by decide +kernel))))
  refine ⟨(fun k => @dite _ (k < 11) (Nat.decLt k 11) (fun h => Classical.choose (uk_all htsB k h)) (fun _ => c1), fun k => @dite _ (k < 11) (Nat.decLt k 11) (fun h => Classical.choose (Classical.choose_spec (uk_all htsB k h))) (fun _ _ => 0)), fun k => match k with | 1 => c1 | 2 => c2 | 3 => c3 | 4 => c4 | 12 => c12 | 13 => c13 | _ => c20, ⟨fun ci q hq => ?_, fun k q hq => ?_⟩, nw_all hts⟩
  · have hci : ci < 11 := (List.getElem?_eq_some_iff.mp hq).1
    have hq2 : q = (cn ci, fT ci, fN ci) := Option.some.inj (hq.symm.trans (fCl ci hci))
    subst hq2
    dsimp only
    rw [dif_pos hci, dif_pos hci]
    exact Classical.choose_spec (Classical.choose_spec (uk_all htsB ci hci))
  · have hk : k < 8 := (List.getElem?_eq_some_iff.mp hq).1
    rcases (by omega : k = 0 ∨ k = 1 ∨ k = 2 ∨ k = 3 ∨ k = 4 ∨ k = 5 ∨ k = 6 ∨ k = 7) with rfl | rfl | rfl | rfl | rfl | rfl | rfl | rfl
    · cases hq
      exact ⟨fun n z => ⟨fun k h => (by cases h), k1, a1, m1, d1⟩, n1⟩
    · cases hq
      exact ⟨fun n z => ⟨fun k h => (by cases h), k2, a2, m2, d2⟩, n2⟩
    · cases hq
      exact ⟨fun n z => ⟨fun k h => (by cases h), k3, a3, m3, d3⟩, n3⟩
    · cases hq
      exact ⟨fun n z => ⟨fun k h => (by cases h), k4, a4, m4, d4⟩, n4⟩
    · cases hq
      exact ⟨fun n z => ⟨fun k h => (by cases h), k12, a12, m12, d12⟩, k12, m12, a12, d12, f12, n12⟩
    · cases hq
      exact ⟨fun n z => ⟨fun k h => (by cases h), k13, a13, m13, d13⟩, k13, m13, a13, d13, f13, n13⟩
    · cases hq
      exact ⟨fun n z => ⟨fun k h => (by cases h), k20, a20, m20, d20⟩, k20, m20, a20, d20, f20, n20⟩
    · cases hq
      exact ⟨fun n z => ⟨fun k h => (by cases h), k20, a20, m20, d20⟩, k20, m20, a20, d20, f20, n20⟩
theorem st_first (hts : ∀ w ∈ lw_tbl, w.before #[Value.ref b] s = true) (hgv : (Jvm.Cond.and given_1 narrow_1).before #[Value.ref b] s = true) : ∃ t : Nat, va_T .int t 12 (fun j => .int (fst12 j)) (lwA s) s s.heap ∧ va_Z RX9 "SETTING_AT_FIRST" "[I" (.ref t) (lwA s) s s.heap ∧ (Term.static RX9 "SETTING_AT_FIRST" "[I").eval #[Value.ref b] s none [] s = some (.ref t) ∧ (Term.length (Term.static RX9 "SETTING_AT_FIRST" "[I")).eval #[Value.ref b] s none [] s = some (.int (Int32.ofNat 12)) := by
  have hs := flat_of_before _ hgv
  have hA : ∀ a : Nat, a < s.heap.size → ¬ lwA s a := fun a h => Nat.not_le.mpr h
  have hlen : (Term.length (Term.static RX9 "SETTING_AT_FIRST" "[I")).eval #[Value.ref b] s none [] s = some (.int (Int32.ofNat 12)) := va_eqt (hs (Cond.eq (.length (Term.static RX9 "SETTING_AT_FIRST" "[I")) (.int (Int32.ofNat 12))) (by decide +kernel))
  have hel : ∀ j : Nat, j < 12 → (Term.elem (Term.static RX9 "SETTING_AT_FIRST" "[I") (.int (Int32.ofNat j))).eval #[Value.ref b] s none [] s = some (.int (fst12 j)) := by
    intro j hj
    rcases (by omega : j = 0 ∨ j = 1 ∨ j = 2 ∨ j = 3 ∨ j = 4 ∨ j = 5 ∨ j = 6 ∨ j = 7 ∨ j = 8 ∨ j = 9 ∨ j = 10 ∨ j = 11) with rfl | rfl | rfl | rfl | rfl | rfl | rfl | rfl | rfl | rfl | rfl | rfl
    · exact va_eqt (hs (Cond.eq (.elem (Term.static RX9 "SETTING_AT_FIRST" "[I") (.int (Int32.ofNat 0))) (.int (fst12 0))) (by decide +kernel))
    · exact va_eqt (hs (Cond.eq (.elem (Term.static RX9 "SETTING_AT_FIRST" "[I") (.int (Int32.ofNat 1))) (.int (fst12 1))) (by decide +kernel))
    · exact va_eqt (hs (Cond.eq (.elem (Term.static RX9 "SETTING_AT_FIRST" "[I") (.int (Int32.ofNat 2))) (.int (fst12 2))) (by decide +kernel))
    · exact va_eqt (hs (Cond.eq (.elem (Term.static RX9 "SETTING_AT_FIRST" "[I") (.int (Int32.ofNat 3))) (.int (fst12 3))) (by decide +kernel))
    · exact va_eqt (hs (Cond.eq (.elem (Term.static RX9 "SETTING_AT_FIRST" "[I") (.int (Int32.ofNat 4))) (.int (fst12 4))) (by decide +kernel))
    · exact va_eqt (hs (Cond.eq (.elem (Term.static RX9 "SETTING_AT_FIRST" "[I") (.int (Int32.ofNat 5))) (.int (fst12 5))) (by decide +kernel))
    · exact va_eqt (hs (Cond.eq (.elem (Term.static RX9 "SETTING_AT_FIRST" "[I") (.int (Int32.ofNat 6))) (.int (fst12 6))) (by decide +kernel))
    · exact va_eqt (hs (Cond.eq (.elem (Term.static RX9 "SETTING_AT_FIRST" "[I") (.int (Int32.ofNat 7))) (.int (fst12 7))) (by decide +kernel))
    · exact va_eqt (hs (Cond.eq (.elem (Term.static RX9 "SETTING_AT_FIRST" "[I") (.int (Int32.ofNat 8))) (.int (fst12 8))) (by decide +kernel))
    · exact va_eqt (hs (Cond.eq (.elem (Term.static RX9 "SETTING_AT_FIRST" "[I") (.int (Int32.ofNat 9))) (.int (fst12 9))) (by decide +kernel))
    · exact va_eqt (hs (Cond.eq (.elem (Term.static RX9 "SETTING_AT_FIRST" "[I") (.int (Int32.ofNat 10))) (.int (fst12 10))) (by decide +kernel))
    · exact va_eqt (hs (Cond.eq (.elem (Term.static RX9 "SETTING_AT_FIRST" "[I") (.int (Int32.ofNat 11))) (.int (fst12 11))) (by decide +kernel))
  obtain ⟨t, h1, h2⟩ := va_Tof (tm := (Term.static RX9 "SETTING_AT_FIRST" "[I")) (ty := .int) (N := 12) (f := fun j => .int (fst12 j)) (A := lwA s) (by decide) (hs (Cond.arrayOf (Term.static RX9 "SETTING_AT_FIRST" "[I") .int) (by decide +kernel)) hlen hel hA
  exact ⟨t, h2, va_Zof (hts _ (mt1 (List.mem_of_getElem? (i := 49) (by decide +kernel)))) (hts _ (mt1 (List.mem_of_getElem? (i := 1) (by decide +kernel)))) h1 hA, h1, hlen⟩
theorem st_most (hts : ∀ w ∈ lw_tbl, w.before #[Value.ref b] s = true) (hgv : (Jvm.Cond.and given_1 narrow_1).before #[Value.ref b] s = true) : ∃ t : Nat, va_T .int t 12 (fun j => .int (ys0 j)) (lwA s) s s.heap ∧ va_Z RX9 "SETTING_AT_MOST" "[I" (.ref t) (lwA s) s s.heap ∧ (Term.static RX9 "SETTING_AT_MOST" "[I").eval #[Value.ref b] s none [] s = some (.ref t) ∧ (Term.length (Term.static RX9 "SETTING_AT_MOST" "[I")).eval #[Value.ref b] s none [] s = some (.int (Int32.ofNat 12)) := by
  have hs := flat_of_before _ hgv
  have hA : ∀ a : Nat, a < s.heap.size → ¬ lwA s a := fun a h => Nat.not_le.mpr h
  have hlen : (Term.length (Term.static RX9 "SETTING_AT_MOST" "[I")).eval #[Value.ref b] s none [] s = some (.int (Int32.ofNat 12)) := va_eqt (hs (Cond.eq (.length (Term.static RX9 "SETTING_AT_MOST" "[I")) (.int (Int32.ofNat 12))) (by decide +kernel))
  have hel : ∀ j : Nat, j < 12 → (Term.elem (Term.static RX9 "SETTING_AT_MOST" "[I") (.int (Int32.ofNat j))).eval #[Value.ref b] s none [] s = some (.int (ys0 j)) := by
    intro j hj
    rcases (by omega : j = 0 ∨ j = 1 ∨ j = 2 ∨ j = 3 ∨ j = 4 ∨ j = 5 ∨ j = 6 ∨ j = 7 ∨ j = 8 ∨ j = 9 ∨ j = 10 ∨ j = 11) with rfl | rfl | rfl | rfl | rfl | rfl | rfl | rfl | rfl | rfl | rfl | rfl
    · exact va_eqt (hs (Cond.eq (.elem (Term.static RX9 "SETTING_AT_MOST" "[I") (.int (Int32.ofNat 0))) (.int (ys0 0))) (by decide +kernel))
    · exact va_eqt (hs (Cond.eq (.elem (Term.static RX9 "SETTING_AT_MOST" "[I") (.int (Int32.ofNat 1))) (.int (ys0 1))) (by decide +kernel))
    · exact va_eqt (hs (Cond.eq (.elem (Term.static RX9 "SETTING_AT_MOST" "[I") (.int (Int32.ofNat 2))) (.int (ys0 2))) (by decide +kernel))
    · exact va_eqt (hs (Cond.eq (.elem (Term.static RX9 "SETTING_AT_MOST" "[I") (.int (Int32.ofNat 3))) (.int (ys0 3))) (by decide +kernel))
    · exact va_eqt (hs (Cond.eq (.elem (Term.static RX9 "SETTING_AT_MOST" "[I") (.int (Int32.ofNat 4))) (.int (ys0 4))) (by decide +kernel))
    · exact va_eqt (hs (Cond.eq (.elem (Term.static RX9 "SETTING_AT_MOST" "[I") (.int (Int32.ofNat 5))) (.int (ys0 5))) (by decide +kernel))
    · exact va_eqt (hs (Cond.eq (.elem (Term.static RX9 "SETTING_AT_MOST" "[I") (.int (Int32.ofNat 6))) (.int (ys0 6))) (by decide +kernel))
    · exact va_eqt (hs (Cond.eq (.elem (Term.static RX9 "SETTING_AT_MOST" "[I") (.int (Int32.ofNat 7))) (.int (ys0 7))) (by decide +kernel))
    · exact va_eqt (hs (Cond.eq (.elem (Term.static RX9 "SETTING_AT_MOST" "[I") (.int (Int32.ofNat 8))) (.int (ys0 8))) (by decide +kernel))
    · exact va_eqt (hs (Cond.eq (.elem (Term.static RX9 "SETTING_AT_MOST" "[I") (.int (Int32.ofNat 9))) (.int (ys0 9))) (by decide +kernel))
    · exact va_eqt (hs (Cond.eq (.elem (Term.static RX9 "SETTING_AT_MOST" "[I") (.int (Int32.ofNat 10))) (.int (ys0 10))) (by decide +kernel))
    · exact va_eqt (hs (Cond.eq (.elem (Term.static RX9 "SETTING_AT_MOST" "[I") (.int (Int32.ofNat 11))) (.int (ys0 11))) (by decide +kernel))
  obtain ⟨t, h1, h2⟩ := va_Tof (tm := (Term.static RX9 "SETTING_AT_MOST" "[I")) (ty := .int) (N := 12) (f := fun j => .int (ys0 j)) (A := lwA s) (by decide) (hs (Cond.arrayOf (Term.static RX9 "SETTING_AT_MOST" "[I") .int) (by decide +kernel)) hlen hel hA
  exact ⟨t, h2, va_Zof (hts _ (mt3 (List.mem_of_getElem? (i := 10) (by decide +kernel)))) (hts _ (mt1 (List.mem_of_getElem? (i := 1) (by decide +kernel)))) h1 hA, h1, hlen⟩
theorem st_model (hts : ∀ w ∈ lw_tbl, w.before #[Value.ref b] s = true) (hgv : (Jvm.Cond.and given_1 narrow_1).before #[Value.ref b] s = true) : ∃ t : Nat, va_T .int t 13 (fun j => .int (fst13 j)) (lwA s) s s.heap ∧ va_Z RX10 "AT_FIRST" "[I" (.ref t) (lwA s) s s.heap ∧ (Term.static RX10 "AT_FIRST" "[I").eval #[Value.ref b] s none [] s = some (.ref t) ∧ (Term.length (Term.static RX10 "AT_FIRST" "[I")).eval #[Value.ref b] s none [] s = some (.int (Int32.ofNat 13)) := by
  have hs := flat_of_before _ hgv
  have hA : ∀ a : Nat, a < s.heap.size → ¬ lwA s a := fun a h => Nat.not_le.mpr h
  have hlen : (Term.length (Term.static RX10 "AT_FIRST" "[I")).eval #[Value.ref b] s none [] s = some (.int (Int32.ofNat 13)) := va_eqt (hs (Cond.eq (.length (Term.static RX10 "AT_FIRST" "[I")) (.int (Int32.ofNat 13))) (by decide +kernel))
  have hel : ∀ j : Nat, j < 13 → (Term.elem (Term.static RX10 "AT_FIRST" "[I") (.int (Int32.ofNat j))).eval #[Value.ref b] s none [] s = some (.int (fst13 j)) := by
    intro j hj
    rcases (by omega : j = 0 ∨ j = 1 ∨ j = 2 ∨ j = 3 ∨ j = 4 ∨ j = 5 ∨ j = 6 ∨ j = 7 ∨ j = 8 ∨ j = 9 ∨ j = 10 ∨ j = 11 ∨ j = 12) with rfl | rfl | rfl | rfl | rfl | rfl | rfl | rfl | rfl | rfl | rfl | rfl | rfl
    · exact va_eqt (hs (Cond.eq (.elem (Term.static RX10 "AT_FIRST" "[I") (.int (Int32.ofNat 0))) (.int (fst13 0))) (by decide +kernel))
    · exact va_eqt (hs (Cond.eq (.elem (Term.static RX10 "AT_FIRST" "[I") (.int (Int32.ofNat 1))) (.int (fst13 1))) (by decide +kernel))
    · exact va_eqt (hs (Cond.eq (.elem (Term.static RX10 "AT_FIRST" "[I") (.int (Int32.ofNat 2))) (.int (fst13 2))) (by decide +kernel))
    · exact va_eqt (hs (Cond.eq (.elem (Term.static RX10 "AT_FIRST" "[I") (.int (Int32.ofNat 3))) (.int (fst13 3))) (by decide +kernel))
    · exact va_eqt (hs (Cond.eq (.elem (Term.static RX10 "AT_FIRST" "[I") (.int (Int32.ofNat 4))) (.int (fst13 4))) (by decide +kernel))
    · exact va_eqt (hs (Cond.eq (.elem (Term.static RX10 "AT_FIRST" "[I") (.int (Int32.ofNat 5))) (.int (fst13 5))) (by decide +kernel))
    · exact va_eqt (hs (Cond.eq (.elem (Term.static RX10 "AT_FIRST" "[I") (.int (Int32.ofNat 6))) (.int (fst13 6))) (by decide +kernel))
    · exact va_eqt (hs (Cond.eq (.elem (Term.static RX10 "AT_FIRST" "[I") (.int (Int32.ofNat 7))) (.int (fst13 7))) (by decide +kernel))
    · exact va_eqt (hs (Cond.eq (.elem (Term.static RX10 "AT_FIRST" "[I") (.int (Int32.ofNat 8))) (.int (fst13 8))) (by decide +kernel))
    · exact va_eqt (hs (Cond.eq (.elem (Term.static RX10 "AT_FIRST" "[I") (.int (Int32.ofNat 9))) (.int (fst13 9))) (by decide +kernel))
    · exact va_eqt (hs (Cond.eq (.elem (Term.static RX10 "AT_FIRST" "[I") (.int (Int32.ofNat 10))) (.int (fst13 10))) (by decide +kernel))
    · exact va_eqt (hs (Cond.eq (.elem (Term.static RX10 "AT_FIRST" "[I") (.int (Int32.ofNat 11))) (.int (fst13 11))) (by decide +kernel))
    · exact va_eqt (hs (Cond.eq (.elem (Term.static RX10 "AT_FIRST" "[I") (.int (Int32.ofNat 12))) (.int (fst13 12))) (by decide +kernel))
  obtain ⟨t, h1, h2⟩ := va_Tof (tm := (Term.static RX10 "AT_FIRST" "[I")) (ty := .int) (N := 13) (f := fun j => .int (fst13 j)) (A := lwA s) (by decide) (hs (Cond.arrayOf (Term.static RX10 "AT_FIRST" "[I") .int) (by decide +kernel)) hlen hel hA
  exact ⟨t, h2, va_Zof (hts _ (mt5 (List.mem_of_getElem? (i := 23) (by decide +kernel)))) (hts _ (mt1 (List.mem_of_getElem? (i := 12) (by decide +kernel)))) h1 hA, h1, hlen⟩
theorem len_ex {args : Array Value} {tm : Term} {t N : Nat} (hN : N < 2 ^ 31) (h : (Term.length tm).eval args s none [] s = some (.int (Int32.ofNat N))) (ht : tm.eval args s none [] s = some (.ref t)) {cell : Cell} (hc : s.heap[t]? = some cell) : cell.slots.size = N := by
  obtain ⟨a, cell2, h1, h2, h3⟩ := Term.length_spec h
  cases ht.symm.trans h1
  obtain ⟨h4, -, -, -⟩ := State.arrayAt?_spec h2
  cases hc.symm.trans h4
  have hlt : cell.slots.size < 2147483648 := by
    simp only [Term.eval, Option.bind_eq_bind, ht, Option.bind_some] at h
    obtain ⟨cell3, h5, h6⟩ := Option.bind_eq_some_iff.mp h
    by_cases hn : cell3.slots.size < 2147483648
    · obtain ⟨h7, -, -, -⟩ := State.arrayAt?_spec h5
      cases hc.symm.trans h7
      exact hn
    · rw [if_neg hn] at h6; cases h6
  have h8 : Int32.ofNat N = Int32.ofNat cell.slots.size := Value.int.inj h3
  have h9 := congrArg Int32.toInt h8
  have e1 : (Int32.ofNat N).toInt = (N : Int) := nI_toInt hN
  have e2 : (Int32.ofNat cell.slots.size).toInt = (cell.slots.size : Int) := nI_toInt (by omega)
  rw [e1, e2] at h9
  omega
/-- what holds at the law's entry, in this proof's words -/
theorem start_pre (C0 : lw_At p s m meth c b L xs) : ∃ (D : va_G) (cy : Nat → ClassId) (t0 : Nat × Nat) (t1 : Nat), cPre D cy t0 (lwA s) s s.heap ∧ mTh (lwA s) s s.heap ∧ va_X t1 12 ys0 s s.heap ∧ va_Z "SharedAir" "SETTING_AT_MOST" "[I" (.ref t1) (lwA s) s s.heap ∧ t1 < s.heap.size := by
  obtain ⟨hx, hb, hr, hml, hown, hts, hX, hbl, hlocks, hgv⟩ := C0
  have hs := flat_of_before _ hgv
  have hA : ∀ a : Nat, a < s.heap.size → ¬ lwA s a := fun a h => Nat.not_le.mpr h
  obtain ⟨D, cy, hKS⟩ := ks_all hts
  obtain ⟨u0, f1, f2, -, -⟩ := st_first hts hgv
  obtain ⟨u1, g1, g2, g3, g4⟩ := st_most hts hgv
  obtain ⟨u2, k1, k2, -, -⟩ := st_model hts hgv
  refine ⟨D, cy, (u0, u2), u1, ⟨hKS, ⟨va_AO.of (hts _ (mt1 (List.mem_of_getElem? (i := 47) (by decide +kernel)))), va_AO.of (hts _ (mt1 (List.mem_of_getElem? (i := 59) (by decide +kernel)))), va_AO.of (hts _ (mt2 (List.mem_of_getElem? (i := 94) (by decide +kernel))))⟩, f1, f2, k1, k2⟩, ⟨fun w hw hg => ?_, vx_Zqof (hts _ (mt4 (List.mem_of_getElem? (i := 184) (by decide +kernel)))) (hts _ (mt1 (List.mem_of_getElem? (i := 13) (by decide +kernel)))) (hs (Cond.isRef (.static "java/lang/Throwable" "UNASSIGNED_STACK" "[Ljava/lang/StackTraceElement;")) (by decide +kernel)) hA, vx_Zqof (hts _ (mt4 (List.mem_of_getElem? (i := 186) (by decide +kernel)))) (hts _ (mt1 (List.mem_of_getElem? (i := 13) (by decide +kernel)))) (hs (Cond.isRef (.static "java/lang/Throwable" "SUPPRESSED_SENTINEL" "Ljava/util/List;")) (by decide +kernel)) hA⟩, ?_, g2, ?_⟩
  · exact va_Nw.of (List.all_eq_true.mp tW_tab w hw) (hts w (List.contains_iff_mem.mp (List.all_eq_true.mp tW_in w hw)))
  · obtain ⟨cell, a1, a2, a3, a4, a5, a6, a7⟩ := g1
    exact ⟨cell, a1, a2, a3, len_ex (by decide) g4 g3 a1, a6⟩
  · obtain ⟨cell, a1, -⟩ := g1
    exact (Array.getElem?_eq_some_iff.mp a1).1
end ST

/-! The law's six calls of helpers: what stands in the tables -/
def hpTab : List (Nat × Nat × List (Nat × Nat × Nat × Nat) × Nat) := [(56, 220, [(0, 9, 12, 13)], 3), (82, 221, [(0, 10, 13, 13)], 4), (86, 222, [(0, 12, 15, 13)], 5), (90, 223, [(0, 14, 17, 13)], 6), (114, 224, [(0, 10, 13, 13)], 4), (185, 225, [(0, 8, 11, 13)], 3)]
def hpOk (r : Nat × Nat × List (Nat × Nat × Nat × Nat) × Nat) : Bool := (va_wsS (cn 11) r.1 (mrow r.2.1).1 [Cond.codeWith (mrow r.2.1).1 (mrow r.2.1).2.1 (mrow r.2.1).2.2.1 (mrow r.2.1).2.2.2.1 r.2.2.1]).all (fun w => mBig.contains w) && decide ((mrow r.2.1).1.cls ≠ "java/lang/invoke/MethodHandle" ∧ (mrow r.2.1).1.cls ≠ "java/lang/invoke/VarHandle" ∧ (parseMethodDescriptor (mrow r.2.1).1.desc).map (fun d => d.parameters.length) = some r.2.2.2) && Nat.ble ((mrow r.2.1).2.2.2.2.2.1 + 1) (mrow 226).2.2.2.2.2.1 && Nat.ble (8 + ((mrow r.2.1).2.2.1 + 11) + (mrow r.2.1).2.2.2.2.2.2) (mrow 226).2.2.2.2.2.2
theorem hpRows : hpTab.all hpOk = true := by decide +kernel
theorem hpl_row {r : Nat × Nat × List (Nat × Nat × Nat × Nat) × Nat} (h : r ∈ hpTab) : GoodIn mBig (va_wsS (cn 11) r.1 (mrow r.2.1).1 (mWh r.2.1 r.2.2.1)) ∧ ((mrow r.2.1).1.cls ≠ "java/lang/invoke/MethodHandle" ∧ (mrow r.2.1).1.cls ≠ "java/lang/invoke/VarHandle" ∧ (parseMethodDescriptor (mrow r.2.1).1.desc).map (fun d => d.parameters.length) = some r.2.2.2) ∧ (mrow r.2.1).2.2.2.2.2.1 + 1 ≤ (mrow 226).2.2.2.2.2.1 ∧ 8 + ((mrow r.2.1).2.2.1 + 11) + (mrow r.2.1).2.2.2.2.2.2 ≤ (mrow 226).2.2.2.2.2.2 := by
  have hr := List.all_eq_true.mp hpRows r h
  unfold hpOk at hr
  simp only [Bool.and_eq_true] at hr
  obtain ⟨⟨⟨a1, a2⟩, a3⟩, a4⟩ := hr
  exact ⟨good_help fun w hw => List.contains_iff_mem.mp (List.all_eq_true.mp a1 w hw), of_decide_eq_true a2, Nat.le_of_ble_eq_true a3, Nat.le_of_ble_eq_true a4⟩

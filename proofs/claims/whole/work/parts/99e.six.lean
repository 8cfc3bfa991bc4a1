/-! The six that throw: their contracts out of the small machine's answers -/
section SX6
variable {l : Launch} {D : va_G} {cy : Nat → ClassId} {ad : mO → Nat} {xs ys : Nat → Int32} {XL : Nat}
def isT (jc : Nat) : Bool := [70, 75, 76, 77, 83, 101].contains jc
def thRow (jc : Nat) : Bool := thOk (mrow jc).2.1 && Nat.beq (mrow jc).2.2.2.2.1 9 && Nat.blt 5 (mrow jc).2.2.2.2.2.1 && Nat.ble 81 (mrow jc).2.2.2.2.2.2 && decide ((mrow jc).1.cls = cn 9) && PLs.contains jc
theorem thRows : [70, 75, 76, 77, 83, 101].all thRow = true := by decide +kernel
theorem met_T (hl : l.stackTraces = false) (hF : mFix ad XL (mA ad)) (hPL : ∀ jc, PLs.contains jc = true → cOk jc (mcode jc) = true) {jc : Nat} (hj : isT jc = true) {acc : List mV} {σ : mS} {r : mR} (h : EvR mcode (jc, 0, largs (mrow jc).2.2.1 acc, [], σ) r) (hok : okS acc) (hw : swords acc ≤ (mrow jc).2.2.1) : MetT l D cy ad xs ys XL jc acc σ r := by
  have hr := List.all_eq_true.mp thRows jc (List.contains_iff_mem.mp hj)
  unfold thRow at hr
  simp only [Bool.and_eq_true] at hr
  obtain ⟨⟨⟨⟨⟨a1, a2⟩, a3⟩, a4⟩, a5⟩, a6⟩ := hr
  have e9 : (mrow jc).2.2.2.2.1 = 9 := Nat.eq_of_beq_eq_true a2
  exact met_ofT hl (fun z => by rw [z] at a6; exact absurd a6 (by decide +kernel)) (snd_all hF hPL h (hPL jc a6)) (by rw [e9]; exact of_decide_eq_true a5) hok hw a1 (by rw [e9]; rfl) (Nat.le_of_ble_eq_true a3) (Nat.le_of_ble_eq_true a4)
end SX6

/-! The words of the law's calls of its helpers -/
theorem good_help {own : String} {idx jc : Nat} {hh : List (Nat × Nat × Nat × Nat)} (h : ∀ w ∈ va_wsS own idx (mrow jc).1 [Cond.codeWith (mrow jc).1 (mrow jc).2.1 (mrow jc).2.2.1 (mrow jc).2.2.2.1 hh], w ∈ mBig) : GoodIn mBig (va_wsS own idx (mrow jc).1 (mWh jc hh)) := by
  intro w hw
  have hm : w ∈ mBig := by
    unfold va_wsS at hw h
    rcases List.mem_append.mp hw with hw | hw
    · exact h w (List.mem_append_left _ hw)
    · rcases List.mem_cons.mp hw with rfl | hw
      · exact h _ (List.mem_append_right _ List.mem_cons_self)
      · exact hw
  exact ⟨hm, good_of_word (List.mem_filter.mp hm).2⟩

/-! What the law's loop answers, the machine answers, and it makes no more than eighteen objects a call -/
section LZ
variable {l : Launch} {D : va_G} {cy : Nat → ClassId} {ad : mO → Nat} {xs ys : Nat → Int32} {XL : Nat} {A : Nat → Prop} {b : Nat}
theorem len_c {n : Nat} {acc : List mV} (h : acc.length = n + 1) : ∃ a As, acc = a :: As ∧ As.length = n := by
  cases acc with
  | nil => cases h
  | cons a As => exact ⟨a, As, rfl, Nat.succ.inj h⟩
theorem len_0 {acc : List mV} (h : acc.length = 0) : acc = [] := List.eq_nil_of_length_eq_zero h
theorem lw_call (hF2 : mFix ad XL (mA ad)) (jmp : Nat → List (Option mV) → List mV → mS → Option mR) : CallH l D cy ad xs ys XL (lwR jmp) := by
  intro jc acc σ rv σ' h hpl hok hw hcl
  have hj : jc ≠ 226 := fun z => by rw [z] at hpl; exact absurd hpl (by decide +kernel)
  exact met_of hj (snd_all hF2 ck_all (EvOf_R.mp (lwR_ev h hj).1) (ck_all jc hpl)) hcl hok hw
theorem lw_help (hl : l.stackTraces = false) (hF2 : mFix ad XL (mA ad)) (jmp : Nat → List (Option mV) → List mV → mS → Option mR) : HpH l D cy ad xs ys XL (lwR jmp) := by
  intro row hrow acc σ k σ' hlen h
  unfold hpTab at hrow
  simp only [List.mem_cons, List.not_mem_nil, or_false] at hrow
  rcases hrow with rfl | rfl | rfl | rfl | rfl | rfl
  ·
      obtain ⟨a0, acc0, rfl, hl0⟩ := len_c (n := 2) hlen
      obtain ⟨a1, acc1, rfl, hl1⟩ := len_c (n := 1) hl0
      obtain ⟨a2, acc2, rfl, hl2⟩ := len_c (n := 0) hl1
      obtain rfl := len_0 hl2
      obtain ⟨e1, e2⟩ := lwR_ev h (show (220 : Nat) ≠ 226 by decide)
      have e2 := e2 rfl
      have e2 : hpG 3 (largs 4 [a0, a1, a2]) = true := e2
      obtain ⟨f0, e2⟩ := (Bool.and_eq_true _ _).mp e2
      obtain ⟨e2, f9⟩ := (Bool.and_eq_true _ _).mp e2
      have f0 := largs_o f0
      subst f0
      obtain ⟨x1, f1⟩ := largs_i (m := 2) (As := [a2]) (show isI (lget (largs 3 [a1, a2]) 0) = true from List.all_eq_true.mp e2 0 (List.mem_range.mpr (by omega)))
      subst f1
      have f9 := largs_o (m := 1) (As := []) (show isO 45 (lget (largs 2 [a2]) 0) = true from f9)
      subst f9
      exact hp_setting hl hF2 e1
  ·
      obtain ⟨a0, acc0, rfl, hl0⟩ := len_c (n := 3) hlen
      obtain ⟨a1, acc1, rfl, hl1⟩ := len_c (n := 2) hl0
      obtain ⟨a2, acc2, rfl, hl2⟩ := len_c (n := 1) hl1
      obtain ⟨a3, acc3, rfl, hl3⟩ := len_c (n := 0) hl2
      obtain rfl := len_0 hl3
      obtain ⟨e1, e2⟩ := lwR_ev h (show (221 : Nat) ≠ 226 by decide)
      have e2 := e2 rfl
      have e2 : hpG 4 (largs 5 [a0, a1, a2, a3]) = true := e2
      obtain ⟨f0, e2⟩ := (Bool.and_eq_true _ _).mp e2
      obtain ⟨e2, f9⟩ := (Bool.and_eq_true _ _).mp e2
      have f0 := largs_o f0
      subst f0
      obtain ⟨x1, f1⟩ := largs_i (m := 3) (As := [a2, a3]) (show isI (lget (largs 4 [a1, a2, a3]) 0) = true from List.all_eq_true.mp e2 0 (List.mem_range.mpr (by omega)))
      subst f1
      obtain ⟨x2, f2⟩ := largs_i (m := 2) (As := [a3]) (show isI (lget (largs 3 [a2, a3]) 0) = true from List.all_eq_true.mp e2 1 (List.mem_range.mpr (by omega)))
      subst f2
      have f9 := largs_o (m := 1) (As := []) (show isO 45 (lget (largs 2 [a3]) 0) = true from f9)
      subst f9
      exact hp_station hl hF2 e1
  ·
      obtain ⟨a0, acc0, rfl, hl0⟩ := len_c (n := 4) hlen
      obtain ⟨a1, acc1, rfl, hl1⟩ := len_c (n := 3) hl0
      obtain ⟨a2, acc2, rfl, hl2⟩ := len_c (n := 2) hl1
      obtain ⟨a3, acc3, rfl, hl3⟩ := len_c (n := 1) hl2
      obtain ⟨a4, acc4, rfl, hl4⟩ := len_c (n := 0) hl3
      obtain rfl := len_0 hl4
      obtain ⟨e1, e2⟩ := lwR_ev h (show (222 : Nat) ≠ 226 by decide)
      have e2 := e2 rfl
      have e2 : hpG 5 (largs 6 [a0, a1, a2, a3, a4]) = true := e2
      obtain ⟨f0, e2⟩ := (Bool.and_eq_true _ _).mp e2
      obtain ⟨e2, f9⟩ := (Bool.and_eq_true _ _).mp e2
      have f0 := largs_o f0
      subst f0
      obtain ⟨x1, f1⟩ := largs_i (m := 4) (As := [a2, a3, a4]) (show isI (lget (largs 5 [a1, a2, a3, a4]) 0) = true from List.all_eq_true.mp e2 0 (List.mem_range.mpr (by omega)))
      subst f1
      obtain ⟨x2, f2⟩ := largs_i (m := 3) (As := [a3, a4]) (show isI (lget (largs 4 [a2, a3, a4]) 0) = true from List.all_eq_true.mp e2 1 (List.mem_range.mpr (by omega)))
      subst f2
      obtain ⟨x3, f3⟩ := largs_i (m := 2) (As := [a4]) (show isI (lget (largs 3 [a3, a4]) 0) = true from List.all_eq_true.mp e2 2 (List.mem_range.mpr (by omega)))
      subst f3
      have f9 := largs_o (m := 1) (As := []) (show isO 45 (lget (largs 2 [a4]) 0) = true from f9)
      subst f9
      exact hp_rank hl hF2 e1
  ·
      obtain ⟨a0, acc0, rfl, hl0⟩ := len_c (n := 5) hlen
      obtain ⟨a1, acc1, rfl, hl1⟩ := len_c (n := 4) hl0
      obtain ⟨a2, acc2, rfl, hl2⟩ := len_c (n := 3) hl1
      obtain ⟨a3, acc3, rfl, hl3⟩ := len_c (n := 2) hl2
      obtain ⟨a4, acc4, rfl, hl4⟩ := len_c (n := 1) hl3
      obtain ⟨a5, acc5, rfl, hl5⟩ := len_c (n := 0) hl4
      obtain rfl := len_0 hl5
      obtain ⟨e1, e2⟩ := lwR_ev h (show (223 : Nat) ≠ 226 by decide)
      have e2 := e2 rfl
      have e2 : hpG 6 (largs 7 [a0, a1, a2, a3, a4, a5]) = true := e2
      obtain ⟨f0, e2⟩ := (Bool.and_eq_true _ _).mp e2
      obtain ⟨e2, f9⟩ := (Bool.and_eq_true _ _).mp e2
      have f0 := largs_o f0
      subst f0
      obtain ⟨x1, f1⟩ := largs_i (m := 5) (As := [a2, a3, a4, a5]) (show isI (lget (largs 6 [a1, a2, a3, a4, a5]) 0) = true from List.all_eq_true.mp e2 0 (List.mem_range.mpr (by omega)))
      subst f1
      obtain ⟨x2, f2⟩ := largs_i (m := 4) (As := [a3, a4, a5]) (show isI (lget (largs 5 [a2, a3, a4, a5]) 0) = true from List.all_eq_true.mp e2 1 (List.mem_range.mpr (by omega)))
      subst f2
      obtain ⟨x3, f3⟩ := largs_i (m := 3) (As := [a4, a5]) (show isI (lget (largs 4 [a3, a4, a5]) 0) = true from List.all_eq_true.mp e2 2 (List.mem_range.mpr (by omega)))
      subst f3
      obtain ⟨x4, f4⟩ := largs_i (m := 2) (As := [a5]) (show isI (lget (largs 3 [a4, a5]) 0) = true from List.all_eq_true.mp e2 3 (List.mem_range.mpr (by omega)))
      subst f4
      have f9 := largs_o (m := 1) (As := []) (show isO 45 (lget (largs 2 [a5]) 0) = true from f9)
      subst f9
      exact hp_frame hl hF2 e1
  ·
      obtain ⟨a0, acc0, rfl, hl0⟩ := len_c (n := 3) hlen
      obtain ⟨a1, acc1, rfl, hl1⟩ := len_c (n := 2) hl0
      obtain ⟨a2, acc2, rfl, hl2⟩ := len_c (n := 1) hl1
      obtain ⟨a3, acc3, rfl, hl3⟩ := len_c (n := 0) hl2
      obtain rfl := len_0 hl3
      obtain ⟨e1, e2⟩ := lwR_ev h (show (224 : Nat) ≠ 226 by decide)
      have e2 := e2 rfl
      have e2 : hpG 4 (largs 5 [a0, a1, a2, a3]) = true := e2
      obtain ⟨f0, e2⟩ := (Bool.and_eq_true _ _).mp e2
      obtain ⟨e2, f9⟩ := (Bool.and_eq_true _ _).mp e2
      have f0 := largs_o f0
      subst f0
      obtain ⟨x1, f1⟩ := largs_i (m := 3) (As := [a2, a3]) (show isI (lget (largs 4 [a1, a2, a3]) 0) = true from List.all_eq_true.mp e2 0 (List.mem_range.mpr (by omega)))
      subst f1
      obtain ⟨x2, f2⟩ := largs_i (m := 2) (As := [a3]) (show isI (lget (largs 3 [a2, a3]) 0) = true from List.all_eq_true.mp e2 1 (List.mem_range.mpr (by omega)))
      subst f2
      have f9 := largs_o (m := 1) (As := []) (show isO 45 (lget (largs 2 [a3]) 0) = true from f9)
      subst f9
      exact hp_tally hl hF2 e1
  ·
      obtain ⟨a0, acc0, rfl, hl0⟩ := len_c (n := 2) hlen
      obtain ⟨a1, acc1, rfl, hl1⟩ := len_c (n := 1) hl0
      obtain ⟨a2, acc2, rfl, hl2⟩ := len_c (n := 0) hl1
      obtain rfl := len_0 hl2
      obtain ⟨e1, e2⟩ := lwR_ev h (show (225 : Nat) ≠ 226 by decide)
      have e2 := e2 rfl
      have e2 : hpG 3 (largs 4 [a0, a1, a2]) = true := e2
      obtain ⟨f0, e2⟩ := (Bool.and_eq_true _ _).mp e2
      obtain ⟨e2, f9⟩ := (Bool.and_eq_true _ _).mp e2
      have f0 := largs_o f0
      subst f0
      obtain ⟨x1, f1⟩ := largs_i (m := 2) (As := [a2]) (show isI (lget (largs 3 [a1, a2]) 0) = true from List.all_eq_true.mp e2 0 (List.mem_range.mpr (by omega)))
      subst f1
      have f9 := largs_o (m := 1) (As := []) (show isO 45 (lget (largs 2 [a2]) 0) = true from f9)
      subst f9
      exact hp_row hl hF2 e1
theorem lw_1429 (hl : l.stackTraces = false) (hF : mFix ad XL A) (hF2 : mFix ad XL (mA ad)) {x : Int32} (h23 : ∀ σ r, b_L_law_23 (x + 6) σ = some r → SndB l D cy ad xs ys XL A b (226, 23, LLx (x + 6), [], σ) r) (σ : mS) (r : mR) (h : b_L_law_1429 x σ = some r) : SndB l D cy ad xs ys XL A (b + 6) (226, 1429, LLx x, [], σ) r := by
  refine lw_block hF (Rf := lwR (jmpT [23] (x + 6))) (fun q r hq hj => ?_) (lw_call hF2 _) (lw_help hl hF2 _) (by decide) ?_
  · obtain ⟨j, pc, L, S, σ⟩ := q
    dsimp only at hj
    subst hj
    obtain ⟨rfl, rfl, hpc, he⟩ := jmpT_inv (lwR_226 hq rfl)
    rcases List.mem_cons.mp hpc with rfl | hpc
    · exact h23 σ r he
    · cases hpc
  · exact (tq_1429 _ x σ).trans ((congrArg (fun G => tx_1429 G x σ) jmpT_at).trans ((te_1429 [23] rfl x σ).trans h))
theorem lw_353 (hl : l.stackTraces = false) (hF : mFix ad XL A) (hF2 : mFix ad XL (mA ad)) {x : Int32} (h1 : ∀ σ r, b_L_law_1429 x σ = some r → SndB l D cy ad xs ys XL A b (226, 1429, LLx x, [], σ) r) (σ : mS) (r : mR) (h : b_L_law_353 x σ = some r) : SndB l D cy ad xs ys XL A (b + 6) (226, 353, LLx x, [], σ) r := by
  refine lw_block hF (Rf := lwR (jmpT [1429] x)) (fun q r hq hj => ?_) (lw_call hF2 _) (lw_help hl hF2 _) (by decide) ?_
  · obtain ⟨j, pc, L, S, σ⟩ := q
    dsimp only at hj
    subst hj
    obtain ⟨rfl, rfl, hpc, he⟩ := jmpT_inv (lwR_226 hq rfl)
    rcases List.mem_cons.mp hpc with rfl | hpc
    · exact h1 σ r he
    · cases hpc
  · exact (tq_353 _ x σ).trans ((congrArg (fun G => tx_353 G x σ) jmpT_at).trans ((te_353 [1429] rfl x σ).trans h))
theorem lw_593 (hl : l.stackTraces = false) (hF : mFix ad XL A) (hF2 : mFix ad XL (mA ad)) {x : Int32} (h1 : ∀ σ r, b_L_law_1429 x σ = some r → SndB l D cy ad xs ys XL A b (226, 1429, LLx x, [], σ) r) (σ : mS) (r : mR) (h : b_L_law_593 x σ = some r) : SndB l D cy ad xs ys XL A (b + 6) (226, 593, LLx x, [], σ) r := by
  refine lw_block hF (Rf := lwR (jmpT [1429] x)) (fun q r hq hj => ?_) (lw_call hF2 _) (lw_help hl hF2 _) (by decide) ?_
  · obtain ⟨j, pc, L, S, σ⟩ := q
    dsimp only at hj
    subst hj
    obtain ⟨rfl, rfl, hpc, he⟩ := jmpT_inv (lwR_226 hq rfl)
    rcases List.mem_cons.mp hpc with rfl | hpc
    · exact h1 σ r he
    · cases hpc
  · exact (tq_593 _ x σ).trans ((congrArg (fun G => tx_593 G x σ) jmpT_at).trans ((te_593 [1429] rfl x σ).trans h))
theorem lw_673 (hl : l.stackTraces = false) (hF : mFix ad XL A) (hF2 : mFix ad XL (mA ad)) {x : Int32} (h1 : ∀ σ r, b_L_law_1429 x σ = some r → SndB l D cy ad xs ys XL A b (226, 1429, LLx x, [], σ) r) (σ : mS) (r : mR) (h : b_L_law_673 x σ = some r) : SndB l D cy ad xs ys XL A (b + 6) (226, 673, LLx x, [], σ) r := by
  refine lw_block hF (Rf := lwR (jmpT [1429] x)) (fun q r hq hj => ?_) (lw_call hF2 _) (lw_help hl hF2 _) (by decide) ?_
  · obtain ⟨j, pc, L, S, σ⟩ := q
    dsimp only at hj
    subst hj
    obtain ⟨rfl, rfl, hpc, he⟩ := jmpT_inv (lwR_226 hq rfl)
    rcases List.mem_cons.mp hpc with rfl | hpc
    · exact h1 σ r he
    · cases hpc
  · exact (tq_673 _ x σ).trans ((congrArg (fun G => tx_673 G x σ) jmpT_at).trans ((te_673 [1429] rfl x σ).trans h))
theorem lw_765 (hl : l.stackTraces = false) (hF : mFix ad XL A) (hF2 : mFix ad XL (mA ad)) {x : Int32} (h1 : ∀ σ r, b_L_law_1429 x σ = some r → SndB l D cy ad xs ys XL A b (226, 1429, LLx x, [], σ) r) (σ : mS) (r : mR) (h : b_L_law_765 x σ = some r) : SndB l D cy ad xs ys XL A (b + 6) (226, 765, LLx x, [], σ) r := by
  refine lw_block hF (Rf := lwR (jmpT [1429] x)) (fun q r hq hj => ?_) (lw_call hF2 _) (lw_help hl hF2 _) (by decide) ?_
  · obtain ⟨j, pc, L, S, σ⟩ := q
    dsimp only at hj
    subst hj
    obtain ⟨rfl, rfl, hpc, he⟩ := jmpT_inv (lwR_226 hq rfl)
    rcases List.mem_cons.mp hpc with rfl | hpc
    · exact h1 σ r he
    · cases hpc
  · exact (tq_765 _ x σ).trans ((congrArg (fun G => tx_765 G x σ) jmpT_at).trans ((te_765 [1429] rfl x σ).trans h))
theorem lw_958 (hl : l.stackTraces = false) (hF : mFix ad XL A) (hF2 : mFix ad XL (mA ad)) {x : Int32} (h1 : ∀ σ r, b_L_law_1429 x σ = some r → SndB l D cy ad xs ys XL A b (226, 1429, LLx x, [], σ) r) (σ : mS) (r : mR) (h : b_L_law_958 x σ = some r) : SndB l D cy ad xs ys XL A (b + 6) (226, 958, LLx x, [], σ) r := by
  refine lw_block hF (Rf := lwR (jmpT [1429] x)) (fun q r hq hj => ?_) (lw_call hF2 _) (lw_help hl hF2 _) (by decide) ?_
  · obtain ⟨j, pc, L, S, σ⟩ := q
    dsimp only at hj
    subst hj
    obtain ⟨rfl, rfl, hpc, he⟩ := jmpT_inv (lwR_226 hq rfl)
    rcases List.mem_cons.mp hpc with rfl | hpc
    · exact h1 σ r he
    · cases hpc
  · exact (tq_958 _ x σ).trans ((congrArg (fun G => tx_958 G x σ) jmpT_at).trans ((te_958 [1429] rfl x σ).trans h))
theorem lw_1426 (hl : l.stackTraces = false) (hF : mFix ad XL A) (hF2 : mFix ad XL (mA ad)) {x : Int32} (h1 : ∀ σ r, b_L_law_1429 x σ = some r → SndB l D cy ad xs ys XL A b (226, 1429, LLx x, [], σ) r) (σ : mS) (r : mR) (h : b_L_law_1426 x σ = some r) : SndB l D cy ad xs ys XL A (b + 6) (226, 1426, LLx x, [], σ) r := by
  refine lw_block hF (Rf := lwR (jmpT [1429] x)) (fun q r hq hj => ?_) (lw_call hF2 _) (lw_help hl hF2 _) (by decide) ?_
  · obtain ⟨j, pc, L, S, σ⟩ := q
    dsimp only at hj
    subst hj
    obtain ⟨rfl, rfl, hpc, he⟩ := jmpT_inv (lwR_226 hq rfl)
    rcases List.mem_cons.mp hpc with rfl | hpc
    · exact h1 σ r he
    · cases hpc
  · exact (tq_1426 _ x σ).trans ((congrArg (fun G => tx_1426 G x σ) jmpT_at).trans ((te_1426 [1429] rfl x σ).trans h))
theorem lw_23 (hl : l.stackTraces = false) (hF : mFix ad XL A) (hF2 : mFix ad XL (mA ad)) {x : Int32} (h23 : ∀ σ r, b_L_law_23 (x + 6) σ = some r → SndB l D cy ad xs ys XL A b (226, 23, LLx (x + 6), [], σ) r) (σ : mS) (r : mR) (h : b_L_law_23 x σ = some r) : SndB l D cy ad xs ys XL A (b + 6 + 6 + 6) (226, 23, LLx x, [], σ) r := by
  have h1 := lw_1429 hl hF hF2 h23
  refine lw_block hF (Rf := lwR (jmpT [353, 593, 673, 765, 958, 1426, 1429] x)) (fun q r hq hj => ?_) (lw_call hF2 _) (lw_help hl hF2 _) (by decide) ?_
  · obtain ⟨j, pc, L, S, σ⟩ := q
    dsimp only at hj
    subst hj
    obtain ⟨rfl, rfl, hpc, he⟩ := jmpT_inv (lwR_226 hq rfl)
    simp only [List.mem_cons, List.not_mem_nil, or_false] at hpc
    rcases hpc with rfl | rfl | rfl | rfl | rfl | rfl | rfl
    · exact lw_353 hl hF hF2 h1 σ r he
    · exact lw_593 hl hF hF2 h1 σ r he
    · exact lw_673 hl hF hF2 h1 σ r he
    · exact lw_765 hl hF hF2 h1 σ r he
    · exact lw_958 hl hF hF2 h1 σ r he
    · exact lw_1426 hl hF hF2 h1 σ r he
    · exact (h1 σ r he).more (by omega)
  · exact (tq_23 _ x σ).trans ((congrArg (fun G => tx_23 G x σ) jmpT_at).trans ((te_23 _ rfl x σ).trans h))
theorem lw_end (hl : l.stackTraces = false) (hF : mFix ad XL A) (hF2 : mFix ad XL (mA ad)) {x : Int32} (σ : mS) (r : mR) (hx : (σ.1 (46, 0, 0, 1) 0) - (nI 6) < x) (h : b_L_law_23 x σ = some r) : SndB l D cy ad xs ys XL A (0 + 6) (226, 23, LLx x, [], σ) r := by
  refine lw_block hF (Rf := lwR (fun _ _ _ _ => none)) (fun q r hq hj => by cases lwR_226 hq hj) (lw_call hF2 _) (lw_help hl hF2 _) (by decide) ?_
  rw [tq_23]
  rw [q_L_law_23, if_pos hx] at h
  unfold tx_23
  rw [if_pos hx]
  exact h
/-- the whole loop: d calls at most are left -/
theorem lw_all (hl : l.stackTraces = false) (hF : mFix ad XL A) (hF2 : mFix ad XL (mA ad)) : ∀ d i, XL ≤ i + 6 * d + 5 → i + 6 * d ≤ 100000 → XL ≤ 100000 → ∀ σ r, b_L_law_23 (nI i) σ = some r → SndB l D cy ad xs ys XL A (18 * d + 6) (226, 23, LLx (nI i), [], σ) r
  | 0, i, h1, h2, h3, σ, r, h => by
    intro p e R s m args below meth c C hfr hlo Q H locs cells slots ls hc hs hRel hSS hLR hokL hokS hfin
    have hx : (σ.1 (46, 0, 0, 1) 0) - (nI 6) < nI i := by
      have e : σ.1 (46, 0, 0, 1) 0 = nI XL := hRel.2.2.1
      rw [e, i32_lt, pk_sub_toInt (by omega) (by omega), nI_toInt (by omega)]
      omega
    exact (lw_end hl hF hF2 σ r hx h).go C hfr hlo hc hs hRel hSS hLR hokL hokS hfin
  | d + 1, i, h1, h2, h3, σ, r, h => by
    have e : nI i + 6 = nI (i + 6) := by rw [show (6 : Int32) = nI 6 from rfl, nI_add]
    have ih : ∀ σ r, b_L_law_23 (nI i + 6) σ = some r → SndB l D cy ad xs ys XL A (18 * d + 6) (226, 23, LLx (nI i + 6), [], σ) r := by
      rw [e]
      exact lw_all hl hF hF2 d (i + 6) (by omega) (by omega) h3
    exact (lw_23 hl hF hF2 ih σ r h).more (by omega)
end LZ

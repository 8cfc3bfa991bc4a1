/-! The first store: what stands in all objects when they are made -/
def stZ (xs ys : Nat → Int32) (XL : Nat) : mS := (fun o i => match o with
  | (1, a, _, _) => if a < 10 then nI 1 else 0
  | (8, _, _, _) => if i = 11 then -1 else 0
  | (11, _, _, _) => fst12 i
  | (30, _, _, _) => nowT 13 i
  | (46, 0, 0, 0) => xs i
  | (46, 0, 0, 1) => nI XL
  | (51, 0, 0, 0) => ys i
  | _ => 0, fun _ _ => 0)
def ys0 (i : Nat) : Int32 := nI (mxs i)
section FZ
variable {xs ys : Nat → Int32} {XL : Nat}
theorem nowT_hi {j : Nat} (h : 15 ≤ j) : nowT 13 j = nI 0 := if_neg (by omega)
theorem nowT_set {i : Nat} (h : i < 12) : nowT 13 (2 + i) = fst12 i := by
  unfold nowT fst13
  rw [if_pos (by omega), if_neg (by omega), Nat.add_sub_cancel_left]
theorem fst12_in {i : Nat} (h : i < 12) : ∃ v, fst12 i = nI v ∧ 1 ≤ v ∧ v ≤ mxs i := by
  rcases (by omega : i = 0 ∨ i = 1 ∨ i = 2 ∨ i = 3 ∨ i = 4 ∨ i = 5 ∨ i = 6 ∨ i = 7 ∨ i = 8 ∨ i = 9 ∨ i = 10 ∨ i = 11) with rfl | rfl | rfl | rfl | rfl | rfl | rfl | rfl | rfl | rfl | rfl | rfl
  · exact ⟨5, rfl, by decide, by decide⟩
  · exact ⟨2, rfl, by decide, by decide⟩
  · exact ⟨4, rfl, by decide, by decide⟩
  · exact ⟨2, rfl, by decide, by decide⟩
  · exact ⟨2, rfl, by decide, by decide⟩
  · exact ⟨3, rfl, by decide, by decide⟩
  · exact ⟨6, rfl, by decide, by decide⟩
  · exact ⟨3, rfl, by decide, by decide⟩
  · exact ⟨7, rfl, by decide, by decide⟩
  · exact ⟨15, rfl, by decide, by decide⟩
  · exact ⟨15, rfl, by decide, by decide⟩
  · exact ⟨31, rfl, by decide, by decide⟩
theorem cx_Z : Cx (stZ xs ys0 XL) := fun i _ => rfl
theorem iv_Z : IV 0 0 (nowT 13) := by
  have n0 : ∀ {k : Nat}, ¬ k < 0 := fun h => Nat.not_lt_zero _ h
  refine ⟨⟨by decide, by omega, fun i hi => ?_, fun s z hs hz => ⟨0, by omega, nowT_hi (by omega), nowT_hi (by omega)⟩, fun s hs => nowT_hi (by omega), fun s z hs hz _ => nowT_hi (by omega)⟩, fun s z h => absurd h n0, fun s r h => absurd h n0, fun s h => absurd h n0, ⟨fun y h => absurd h n0, fun x y h => absurd h n0, fun x1 x2 h => absurd h n0, fun y x1 x2 h => absurd h n0⟩, ⟨Or.inl (nowT_hi (by omega)), nowT_hi (by omega), nowT_hi (by omega), nowT_hi (by omega), nowT_hi (by omega)⟩, ⟨0, Nat.le_refl 0, by omega, by decide, nowT_hi (by omega), fun s h => absurd h n0⟩⟩
  obtain ⟨v, h1, h2, h3⟩ := fst12_in hi
  exact ⟨v, (nowT_set hi).trans h1, h2, h3⟩
theorem j_Z : J 0 (stZ xs ys XL) := by
  have n0 : ∀ {k : Nat}, ¬ k < 0 := fun h => Nat.not_lt_zero _ h
  refine ⟨?_, ⟨0, 0, by omega, by omega, rfl, rfl, rfl, fun i h => absurd h n0⟩, fun i _ => Or.inl ⟨rfl, rfl⟩, ⟨0, by omega, rfl, rfl, fun k h => absurd h n0⟩, ⟨0, by omega, rfl, rfl, fun k h => absurd h n0⟩, ?_⟩
  · obtain ⟨C, hC⟩ := hd_ex 0 (stZ xs ys XL)
    refine ⟨C, hC, 0, iv_Z, fun k hk => ?_, fun s h => absurd h n0, fun s r n j h => absurd h n0, fun s h => absurd h n0, fun s h => absurd h n0⟩
    show C k = nowT 13 k
    have e0 : C 0 = nI 0 := (hC.rd (ix_many)).symm
    have e1 : C 1 = nI 0 := (hC.rd (ix_time)).symm
    have e14 : C 14 = nI 1 := (hC.rd (ix_seed)).symm
    have e1329 : C 1329 = nI 0 := (hC.rd (ix_sending)).symm
    have e1330 : C 1330 = nI 0 := (hC.rd (ix_clear)).symm
    have e1331 : C 1331 = nI 0 := (hC.rd (ix_ran)).symm
    have e1333 : C 1333 = nI 0 := (hC.rd (ix_one)).symm
    have e1334 : C 1334 = nI 0 := (hC.rd (ix_none)).symm
    have e1335 : C 1335 = nI 0 := (hC.rd (ix_more)).symm
    have e1340 : C 1340 = nI 0 := (hC.rd (ix_marked)).symm
    have e1341 : C 1341 = nI 0 := (hC.rd (ix_beginning)).symm
    have es : ∀ i, i < 12 → C (2 + i) = fst12 i := fun i hi => (hC.rd (ix_set hi)).symm
    unfold PD at hk
    rcases hk with h | h | h | h | h | h | h | h | h | h | h | h | h | h
    · by_cases h1 : k < 2
      · rcases (by omega : k = 0 ∨ k = 1) with rfl | rfl
        · exact e0
        · exact e1
      · by_cases h2 : k = 14
        · subst h2; exact e14
        · obtain ⟨i, rfl⟩ : ∃ i, k = 2 + i := ⟨k - 2, by omega⟩
          rw [es i (by omega), nowT_set (by omega)]
    · omega
    · omega
    · omega
    · omega
    · omega
    · rw [nowT_hi (by omega)]
      rcases (by omega : k = 1329 ∨ k = 1330 ∨ k = 1331) with rfl | rfl | rfl <;> assumption
    · rw [nowT_hi (by omega)]
      rcases (by omega : k = 1333 ∨ k = 1334 ∨ k = 1335) with rfl | rfl | rfl <;> assumption
    · rw [nowT_hi (by omega)]
      rcases (by omega : k = 1340 ∨ k = 1341) with rfl | rfl <;> assumption
    · omega
    · omega
    · omega
    · omega
    · omega
  · intro o i h
    left
    obtain ⟨k, a, s, r⟩ := o
    unfold bcl at h
    simp only [Bool.or_eq_true, Bool.and_eq_true] at h
    rcases h with ⟨h1, -⟩ | ⟨h1, -⟩
    · have h1 : k = 0 := Nat.eq_of_beq_eq_true h1
      subst h1
      rfl
    · have h1 : k = 2 := Nat.eq_of_beq_eq_true h1
      subst h1
      rfl
end FZ

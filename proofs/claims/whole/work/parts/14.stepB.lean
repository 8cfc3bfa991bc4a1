/-! One instruction of the small machine is one of the machine: fields, rows -/
section SB
variable {l : Launch} {D : va_G} {cy : Nat → ClassId} {ad : mO → Nat} {xs ys : Nat → Int32} {XL : Nat} {A : Nat → Prop} {b : Nat} {j : Nat}
theorem kFld_ok : ∀ (k a s r f : Nat) (o' : mO), okO (k, a, s, r) → kFld f (k, a, s, r) = some o' → okO o'
  | 0, a, s, r, 0, _, h, hf => by cases hf; have h : 0 < 46 ∧ a < 10 ∧ s < 1 ∧ r < 1 := h; show 11 < 46 ∧ a < 10 ∧ 0 < 1 ∧ 0 < 1; omega
  | 0, a, s, r, 1, _, h, hf => by cases hf; have h : 0 < 46 ∧ a < 10 ∧ s < 1 ∧ r < 1 := h; show 1 < 46 ∧ a < 11 ∧ 0 < 1 ∧ 0 < 1; omega
  | 0, a, s, r, 2, _, h, hf => by cases hf; have h : 0 < 46 ∧ a < 10 ∧ s < 1 ∧ r < 1 := h; show 12 < 46 ∧ a < 10 ∧ 0 < 1 ∧ 0 < 1; omega
  | 0, a, s, r, 3, _, h, hf => by cases hf
  | 0, a, s, r, 4, _, h, hf => by cases hf
  | 0, a, s, r, 5, _, h, hf => by cases hf
  | 0, a, s, r, 6, _, h, hf => by cases hf
  | 0, a, s, r, 7, _, h, hf => by cases hf
  | 0, a, s, r, 8, _, h, hf => by cases hf
  | 0, a, s, r, 9, _, h, hf => by cases hf
  | 0, a, s, r, 10, _, h, hf => by cases hf
  | 0, a, s, r, 11, _, h, hf => by cases hf
  | 0, a, s, r, 12, _, h, hf => by cases hf
  | 0, a, s, r, f + 13, _, h, hf => by cases hf
  | 1, a, s, r, 0, _, h, hf => by cases hf
  | 1, a, s, r, f + 1, _, h, hf => by cases hf
  | 2, a, s, r, 0, _, h, hf => by cases hf
  | 2, a, s, r, 1, _, h, hf => by cases hf
  | 2, a, s, r, 2, _, h, hf => by cases hf
  | 2, a, s, r, 3, _, h, hf => by cases hf
  | 2, a, s, r, 4, _, h, hf => by cases hf
  | 2, a, s, r, 5, _, h, hf => by cases hf
  | 2, a, s, r, 6, _, h, hf => by cases hf
  | 2, a, s, r, 7, _, h, hf => by cases hf
  | 2, a, s, r, 8, _, h, hf => by cases hf
  | 2, a, s, r, 9, _, h, hf => by cases hf
  | 2, a, s, r, 10, _, h, hf => by cases hf
  | 2, a, s, r, 11, _, h, hf => by cases hf
  | 2, a, s, r, 12, _, h, hf => by cases hf
  | 2, a, s, r, f + 13, _, h, hf => by cases hf
  | 3, a, s, r, 0, _, h, hf => by cases hf; have h : 3 < 46 ∧ a < 10 ∧ s < 6 ∧ r < 1 := h; show 15 < 46 ∧ a < 10 ∧ s < 6 ∧ 0 < 1; omega
  | 3, a, s, r, 1, _, h, hf => by cases hf; have h : 3 < 46 ∧ a < 10 ∧ s < 6 ∧ r < 1 := h; show 16 < 46 ∧ a < 10 ∧ s < 6 ∧ 0 < 1; omega
  | 3, a, s, r, 2, _, h, hf => by cases hf
  | 3, a, s, r, 3, _, h, hf => by cases hf
  | 3, a, s, r, 4, _, h, hf => by cases hf
  | 3, a, s, r, 5, _, h, hf => by cases hf
  | 3, a, s, r, 6, _, h, hf => by cases hf
  | 3, a, s, r, 7, _, h, hf => by cases hf
  | 3, a, s, r, 8, _, h, hf => by cases hf
  | 3, a, s, r, f + 9, _, h, hf => by cases hf
  | 4, a, s, r, 0, _, h, hf => by cases hf; have h : 4 < 46 ∧ a < 1 ∧ s < 1 ∧ r < 1 := h; show 24 < 46 ∧ 0 < 1 ∧ 0 < 1 ∧ 0 < 1; omega
  | 4, a, s, r, 1, _, h, hf => by cases hf
  | 4, a, s, r, f + 2, _, h, hf => by cases hf
  | 5, a, s, r, 0, _, h, hf => by cases hf; have h : 5 < 46 ∧ a < 1 ∧ s < 1 ∧ r < 1 := h; show 20 < 46 ∧ 0 < 1 ∧ 0 < 1 ∧ 0 < 1; omega
  | 5, a, s, r, 1, _, h, hf => by cases hf
  | 5, a, s, r, 2, _, h, hf => by cases hf
  | 5, a, s, r, f + 3, _, h, hf => by cases hf
  | 6, a, s, r, 0, _, h, hf => by cases hf; have h : 6 < 46 ∧ a < 10 ∧ s < 6 ∧ r < 4 := h; show 14 < 46 ∧ a < 10 ∧ s < 6 ∧ r < 4; omega
  | 6, a, s, r, 1, _, h, hf => by cases hf
  | 6, a, s, r, 2, _, h, hf => by cases hf
  | 6, a, s, r, 3, _, h, hf => by cases hf
  | 6, a, s, r, f + 4, _, h, hf => by cases hf
  | 7, a, s, r, 0, _, h, hf => by cases hf; have h : 7 < 46 ∧ a < 1 ∧ s < 1 ∧ r < 1 := h; show 23 < 46 ∧ 0 < 1 ∧ 0 < 1 ∧ 0 < 1; omega
  | 7, a, s, r, 1, _, h, hf => by cases hf
  | 7, a, s, r, f + 2, _, h, hf => by cases hf
  | 8, a, s, r, 0, _, h, hf => by cases hf; have h : 8 < 46 ∧ a < 10 ∧ s < 6 ∧ r < 1 := h; show 13 < 46 ∧ a < 10 ∧ s < 6 ∧ 0 < 1; omega
  | 8, a, s, r, 1, _, h, hf => by cases hf; have h : 8 < 46 ∧ a < 10 ∧ s < 6 ∧ r < 1 := h; show 2 < 46 ∧ a < 10 ∧ s < 6 ∧ 0 < 1; omega
  | 8, a, s, r, 2, _, h, hf => by cases hf; have h : 8 < 46 ∧ a < 10 ∧ s < 6 ∧ r < 1 := h; show 3 < 46 ∧ a < 10 ∧ s < 6 ∧ 0 < 1; omega
  | 8, a, s, r, 3, _, h, hf => by cases hf; have h : 8 < 46 ∧ a < 10 ∧ s < 6 ∧ r < 1 := h; show 17 < 46 ∧ a < 10 ∧ s < 6 ∧ 0 < 1; omega
  | 8, a, s, r, 4, _, h, hf => by cases hf; have h : 8 < 46 ∧ a < 10 ∧ s < 6 ∧ r < 1 := h; show 18 < 46 ∧ a < 10 ∧ s < 6 ∧ 0 < 1; omega
  | 8, a, s, r, 5, _, h, hf => by cases hf; have h : 8 < 46 ∧ a < 10 ∧ s < 6 ∧ r < 1 := h; show 19 < 46 ∧ a < 10 ∧ s < 6 ∧ 0 < 1; omega
  | 8, a, s, r, 6, _, h, hf => by cases hf
  | 8, a, s, r, 7, _, h, hf => by cases hf
  | 8, a, s, r, 8, _, h, hf => by cases hf
  | 8, a, s, r, 9, _, h, hf => by cases hf
  | 8, a, s, r, 10, _, h, hf => by cases hf
  | 8, a, s, r, 11, _, h, hf => by cases hf
  | 8, a, s, r, 12, _, h, hf => by cases hf
  | 8, a, s, r, f + 13, _, h, hf => by cases hf
  | 9, a, s, r, 0, _, h, hf => by cases hf; have h : 9 < 46 ∧ a < 1 ∧ s < 1 ∧ r < 1 := h; show 0 < 46 ∧ 0 < 10 ∧ 0 < 1 ∧ 0 < 1; omega
  | 9, a, s, r, 1, _, h, hf => by cases hf; have h : 9 < 46 ∧ a < 1 ∧ s < 1 ∧ r < 1 := h; show 0 < 46 ∧ 1 < 10 ∧ 0 < 1 ∧ 0 < 1; omega
  | 9, a, s, r, 2, _, h, hf => by cases hf; have h : 9 < 46 ∧ a < 1 ∧ s < 1 ∧ r < 1 := h; show 1 < 46 ∧ 10 < 11 ∧ 0 < 1 ∧ 0 < 1; omega
  | 9, a, s, r, 3, _, h, hf => by cases hf; have h : 9 < 46 ∧ a < 1 ∧ s < 1 ∧ r < 1 := h; show 5 < 46 ∧ 0 < 1 ∧ 0 < 1 ∧ 0 < 1; omega
  | 9, a, s, r, 4, _, h, hf => by cases hf; have h : 9 < 46 ∧ a < 1 ∧ s < 1 ∧ r < 1 := h; show 21 < 46 ∧ 0 < 1 ∧ 0 < 1 ∧ 0 < 1; omega
  | 9, a, s, r, 5, _, h, hf => by cases hf; have h : 9 < 46 ∧ a < 1 ∧ s < 1 ∧ r < 1 := h; show 22 < 46 ∧ 0 < 1 ∧ 0 < 1 ∧ 0 < 1; omega
  | 9, a, s, r, 6, _, h, hf => by cases hf; have h : 9 < 46 ∧ a < 1 ∧ s < 1 ∧ r < 1 := h; show 7 < 46 ∧ 0 < 1 ∧ 0 < 1 ∧ 0 < 1; omega
  | 9, a, s, r, 7, _, h, hf => by cases hf; have h : 9 < 46 ∧ a < 1 ∧ s < 1 ∧ r < 1 := h; show 4 < 46 ∧ 0 < 1 ∧ 0 < 1 ∧ 0 < 1; omega
  | 9, a, s, r, 8, _, h, hf => by cases hf; have h : 9 < 46 ∧ a < 1 ∧ s < 1 ∧ r < 1 := h; show 25 < 46 ∧ 0 < 1 ∧ 0 < 1 ∧ 0 < 1; omega
  | 9, a, s, r, f + 9, _, h, hf => by cases hf
  | 10, a, s, r, 0, _, h, hf => by cases hf; have h : 10 < 46 ∧ a < 1 ∧ s < 1 ∧ r < 1 := h; show 30 < 46 ∧ 0 < 1 ∧ 0 < 1 ∧ 0 < 1; omega
  | 10, a, s, r, 1, _, h, hf => by cases hf; have h : 10 < 46 ∧ a < 1 ∧ s < 1 ∧ r < 1 := h; show 31 < 46 ∧ 0 < 1 ∧ 0 < 1 ∧ 0 < 1; omega
  | 10, a, s, r, 2, _, h, hf => by cases hf
  | 10, a, s, r, 3, _, h, hf => by cases hf; have h : 10 < 46 ∧ a < 1 ∧ s < 1 ∧ r < 1 := h; show 32 < 46 ∧ 0 < 1 ∧ 0 < 1 ∧ 0 < 1; omega
  | 10, a, s, r, 4, _, h, hf => by cases hf
  | 10, a, s, r, 5, _, h, hf => by cases hf
  | 10, a, s, r, 6, _, h, hf => by cases hf
  | 10, a, s, r, 7, _, h, hf => by cases hf
  | 10, a, s, r, 8, _, h, hf => by cases hf
  | 10, a, s, r, 9, _, h, hf => by cases hf; have h : 10 < 46 ∧ a < 1 ∧ s < 1 ∧ r < 1 := h; show 33 < 46 ∧ 0 < 1 ∧ 0 < 1 ∧ 0 < 1; omega
  | 10, a, s, r, 10, _, h, hf => by cases hf; have h : 10 < 46 ∧ a < 1 ∧ s < 1 ∧ r < 1 := h; show 34 < 46 ∧ 0 < 1 ∧ 0 < 1 ∧ 0 < 1; omega
  | 10, a, s, r, 11, _, h, hf => by cases hf; have h : 10 < 46 ∧ a < 1 ∧ s < 1 ∧ r < 1 := h; show 35 < 46 ∧ 0 < 1 ∧ 0 < 1 ∧ 0 < 1; omega
  | 10, a, s, r, 12, _, h, hf => by cases hf
  | 10, a, s, r, 13, _, h, hf => by cases hf; have h : 10 < 46 ∧ a < 1 ∧ s < 1 ∧ r < 1 := h; show 36 < 46 ∧ 0 < 1 ∧ 0 < 1 ∧ 0 < 1; omega
  | 10, a, s, r, 14, _, h, hf => by cases hf; have h : 10 < 46 ∧ a < 1 ∧ s < 1 ∧ r < 1 := h; show 37 < 46 ∧ 0 < 1 ∧ 0 < 1 ∧ 0 < 1; omega
  | 10, a, s, r, 15, _, h, hf => by cases hf; have h : 10 < 46 ∧ a < 1 ∧ s < 1 ∧ r < 1 := h; show 38 < 46 ∧ 0 < 1 ∧ 0 < 1 ∧ 0 < 1; omega
  | 10, a, s, r, 16, _, h, hf => by cases hf; have h : 10 < 46 ∧ a < 1 ∧ s < 1 ∧ r < 1 := h; show 39 < 46 ∧ 0 < 1 ∧ 0 < 1 ∧ 0 < 1; omega
  | 10, a, s, r, 17, _, h, hf => by cases hf
  | 10, a, s, r, 18, _, h, hf => by cases hf
  | 10, a, s, r, 19, _, h, hf => by cases hf; have h : 10 < 46 ∧ a < 1 ∧ s < 1 ∧ r < 1 := h; show 40 < 46 ∧ 0 < 1 ∧ 0 < 1 ∧ 0 < 1; omega
  | 10, a, s, r, 20, _, h, hf => by cases hf; have h : 10 < 46 ∧ a < 1 ∧ s < 1 ∧ r < 1 := h; show 41 < 46 ∧ 0 < 1 ∧ 0 < 1 ∧ 0 < 1; omega
  | 10, a, s, r, f + 21, _, h, hf => by cases hf
  | k + 11, a, s, r, f, _, h, hf => by cases hf
theorem kFld_dep0 : ∀ (k a s r f : Nat), kFld f (k, a, s, r) = none ↔ kFld f (k, 0, 0, 0) = none
  | 0, a, s, r, 0 => ⟨fun h => (by cases h), fun h => (by cases h)⟩
  | 0, a, s, r, 1 => ⟨fun h => (by cases h), fun h => (by cases h)⟩
  | 0, a, s, r, 2 => ⟨fun h => (by cases h), fun h => (by cases h)⟩
  | 0, a, s, r, 3 => ⟨fun _ => rfl, fun _ => rfl⟩
  | 0, a, s, r, 4 => ⟨fun _ => rfl, fun _ => rfl⟩
  | 0, a, s, r, 5 => ⟨fun _ => rfl, fun _ => rfl⟩
  | 0, a, s, r, 6 => ⟨fun _ => rfl, fun _ => rfl⟩
  | 0, a, s, r, 7 => ⟨fun _ => rfl, fun _ => rfl⟩
  | 0, a, s, r, 8 => ⟨fun _ => rfl, fun _ => rfl⟩
  | 0, a, s, r, 9 => ⟨fun _ => rfl, fun _ => rfl⟩
  | 0, a, s, r, 10 => ⟨fun _ => rfl, fun _ => rfl⟩
  | 0, a, s, r, 11 => ⟨fun _ => rfl, fun _ => rfl⟩
  | 0, a, s, r, 12 => ⟨fun _ => rfl, fun _ => rfl⟩
  | 0, a, s, r, f + 13 => ⟨fun _ => rfl, fun _ => rfl⟩
  | 1, a, s, r, 0 => ⟨fun _ => rfl, fun _ => rfl⟩
  | 1, a, s, r, f + 1 => ⟨fun _ => rfl, fun _ => rfl⟩
  | 2, a, s, r, 0 => ⟨fun _ => rfl, fun _ => rfl⟩
  | 2, a, s, r, 1 => ⟨fun _ => rfl, fun _ => rfl⟩
  | 2, a, s, r, 2 => ⟨fun _ => rfl, fun _ => rfl⟩
  | 2, a, s, r, 3 => ⟨fun _ => rfl, fun _ => rfl⟩
  | 2, a, s, r, 4 => ⟨fun _ => rfl, fun _ => rfl⟩
  | 2, a, s, r, 5 => ⟨fun _ => rfl, fun _ => rfl⟩
  | 2, a, s, r, 6 => ⟨fun _ => rfl, fun _ => rfl⟩
  | 2, a, s, r, 7 => ⟨fun _ => rfl, fun _ => rfl⟩
  | 2, a, s, r, 8 => ⟨fun _ => rfl, fun _ => rfl⟩
  | 2, a, s, r, 9 => ⟨fun _ => rfl, fun _ => rfl⟩
  | 2, a, s, r, 10 => ⟨fun _ => rfl, fun _ => rfl⟩
  | 2, a, s, r, 11 => ⟨fun _ => rfl, fun _ => rfl⟩
  | 2, a, s, r, 12 => ⟨fun _ => rfl, fun _ => rfl⟩
  | 2, a, s, r, f + 13 => ⟨fun _ => rfl, fun _ => rfl⟩
  | 3, a, s, r, 0 => ⟨fun h => (by cases h), fun h => (by cases h)⟩
  | 3, a, s, r, 1 => ⟨fun h => (by cases h), fun h => (by cases h)⟩
  | 3, a, s, r, 2 => ⟨fun _ => rfl, fun _ => rfl⟩
  | 3, a, s, r, 3 => ⟨fun _ => rfl, fun _ => rfl⟩
  | 3, a, s, r, 4 => ⟨fun _ => rfl, fun _ => rfl⟩
  | 3, a, s, r, 5 => ⟨fun _ => rfl, fun _ => rfl⟩
  | 3, a, s, r, 6 => ⟨fun _ => rfl, fun _ => rfl⟩
  | 3, a, s, r, 7 => ⟨fun _ => rfl, fun _ => rfl⟩
  | 3, a, s, r, 8 => ⟨fun _ => rfl, fun _ => rfl⟩
  | 3, a, s, r, f + 9 => ⟨fun _ => rfl, fun _ => rfl⟩
  | 4, a, s, r, 0 => ⟨fun h => (by cases h), fun h => (by cases h)⟩
  | 4, a, s, r, 1 => ⟨fun _ => rfl, fun _ => rfl⟩
  | 4, a, s, r, f + 2 => ⟨fun _ => rfl, fun _ => rfl⟩
  | 5, a, s, r, 0 => ⟨fun h => (by cases h), fun h => (by cases h)⟩
  | 5, a, s, r, 1 => ⟨fun _ => rfl, fun _ => rfl⟩
  | 5, a, s, r, 2 => ⟨fun _ => rfl, fun _ => rfl⟩
  | 5, a, s, r, f + 3 => ⟨fun _ => rfl, fun _ => rfl⟩
  | 6, a, s, r, 0 => ⟨fun h => (by cases h), fun h => (by cases h)⟩
  | 6, a, s, r, 1 => ⟨fun _ => rfl, fun _ => rfl⟩
  | 6, a, s, r, 2 => ⟨fun _ => rfl, fun _ => rfl⟩
  | 6, a, s, r, 3 => ⟨fun _ => rfl, fun _ => rfl⟩
  | 6, a, s, r, f + 4 => ⟨fun _ => rfl, fun _ => rfl⟩
  | 7, a, s, r, 0 => ⟨fun h => (by cases h), fun h => (by cases h)⟩
  | 7, a, s, r, 1 => ⟨fun _ => rfl, fun _ => rfl⟩
  | 7, a, s, r, f + 2 => ⟨fun _ => rfl, fun _ => rfl⟩
  | 8, a, s, r, 0 => ⟨fun h => (by cases h), fun h => (by cases h)⟩
  | 8, a, s, r, 1 => ⟨fun h => (by cases h), fun h => (by cases h)⟩
  | 8, a, s, r, 2 => ⟨fun h => (by cases h), fun h => (by cases h)⟩
  | 8, a, s, r, 3 => ⟨fun h => (by cases h), fun h => (by cases h)⟩
  | 8, a, s, r, 4 => ⟨fun h => (by cases h), fun h => (by cases h)⟩
  | 8, a, s, r, 5 => ⟨fun h => (by cases h), fun h => (by cases h)⟩
  | 8, a, s, r, 6 => ⟨fun _ => rfl, fun _ => rfl⟩
  | 8, a, s, r, 7 => ⟨fun _ => rfl, fun _ => rfl⟩
  | 8, a, s, r, 8 => ⟨fun _ => rfl, fun _ => rfl⟩
  | 8, a, s, r, 9 => ⟨fun _ => rfl, fun _ => rfl⟩
  | 8, a, s, r, 10 => ⟨fun _ => rfl, fun _ => rfl⟩
  | 8, a, s, r, 11 => ⟨fun _ => rfl, fun _ => rfl⟩
  | 8, a, s, r, 12 => ⟨fun _ => rfl, fun _ => rfl⟩
  | 8, a, s, r, f + 13 => ⟨fun _ => rfl, fun _ => rfl⟩
  | 9, a, s, r, 0 => ⟨fun h => (by cases h), fun h => (by cases h)⟩
  | 9, a, s, r, 1 => ⟨fun h => (by cases h), fun h => (by cases h)⟩
  | 9, a, s, r, 2 => ⟨fun h => (by cases h), fun h => (by cases h)⟩
  | 9, a, s, r, 3 => ⟨fun h => (by cases h), fun h => (by cases h)⟩
  | 9, a, s, r, 4 => ⟨fun h => (by cases h), fun h => (by cases h)⟩
  | 9, a, s, r, 5 => ⟨fun h => (by cases h), fun h => (by cases h)⟩
  | 9, a, s, r, 6 => ⟨fun h => (by cases h), fun h => (by cases h)⟩
  | 9, a, s, r, 7 => ⟨fun h => (by cases h), fun h => (by cases h)⟩
  | 9, a, s, r, 8 => ⟨fun h => (by cases h), fun h => (by cases h)⟩
  | 9, a, s, r, f + 9 => ⟨fun _ => rfl, fun _ => rfl⟩
  | 10, a, s, r, 0 => ⟨fun h => (by cases h), fun h => (by cases h)⟩
  | 10, a, s, r, 1 => ⟨fun h => (by cases h), fun h => (by cases h)⟩
  | 10, a, s, r, 2 => ⟨fun _ => rfl, fun _ => rfl⟩
  | 10, a, s, r, 3 => ⟨fun h => (by cases h), fun h => (by cases h)⟩
  | 10, a, s, r, 4 => ⟨fun _ => rfl, fun _ => rfl⟩
  | 10, a, s, r, 5 => ⟨fun _ => rfl, fun _ => rfl⟩
  | 10, a, s, r, 6 => ⟨fun _ => rfl, fun _ => rfl⟩
  | 10, a, s, r, 7 => ⟨fun _ => rfl, fun _ => rfl⟩
  | 10, a, s, r, 8 => ⟨fun _ => rfl, fun _ => rfl⟩
  | 10, a, s, r, 9 => ⟨fun h => (by cases h), fun h => (by cases h)⟩
  | 10, a, s, r, 10 => ⟨fun h => (by cases h), fun h => (by cases h)⟩
  | 10, a, s, r, 11 => ⟨fun h => (by cases h), fun h => (by cases h)⟩
  | 10, a, s, r, 12 => ⟨fun _ => rfl, fun _ => rfl⟩
  | 10, a, s, r, 13 => ⟨fun h => (by cases h), fun h => (by cases h)⟩
  | 10, a, s, r, 14 => ⟨fun h => (by cases h), fun h => (by cases h)⟩
  | 10, a, s, r, 15 => ⟨fun h => (by cases h), fun h => (by cases h)⟩
  | 10, a, s, r, 16 => ⟨fun h => (by cases h), fun h => (by cases h)⟩
  | 10, a, s, r, 17 => ⟨fun _ => rfl, fun _ => rfl⟩
  | 10, a, s, r, 18 => ⟨fun _ => rfl, fun _ => rfl⟩
  | 10, a, s, r, 19 => ⟨fun h => (by cases h), fun h => (by cases h)⟩
  | 10, a, s, r, 20 => ⟨fun h => (by cases h), fun h => (by cases h)⟩
  | 10, a, s, r, f + 21 => ⟨fun _ => rfl, fun _ => rfl⟩
  | k + 11, a, s, r, f => ⟨fun _ => rfl, fun _ => rfl⟩
theorem kRow_lt : ∀ (k t n : Nat), kRow k = (t + 1, n) → 11 ≤ k
  | 0, t, n, h => by cases h
  | 1, t, n, h => by cases h
  | 2, t, n, h => by cases h
  | 3, t, n, h => by cases h
  | 4, t, n, h => by cases h
  | 5, t, n, h => by cases h
  | 6, t, n, h => by cases h
  | 7, t, n, h => by cases h
  | 8, t, n, h => by cases h
  | 9, t, n, h => by cases h
  | 10, t, n, h => by cases h
  | k + 11, t, n, h => Nat.le_add_left 11 k
theorem kEl_ok : ∀ (k a s r n i : Nat) (o' : mO), okO (k, a, s, r) → kRow k = (5, n) → i < n → kEl i (k, a, s, r) = some o' → okO o'
  | 0, a, s, r, n, i, _, h, hr, hi, hf => by cases hr
  | 1, a, s, r, n, i, _, h, hr, hi, hf => by cases hr
  | 2, a, s, r, n, i, _, h, hr, hi, hf => by cases hr
  | 3, a, s, r, n, i, _, h, hr, hi, hf => by cases hr
  | 4, a, s, r, n, i, _, h, hr, hi, hf => by cases hr
  | 5, a, s, r, n, i, _, h, hr, hi, hf => by cases hr
  | 6, a, s, r, n, i, _, h, hr, hi, hf => by cases hr
  | 7, a, s, r, n, i, _, h, hr, hi, hf => by cases hr
  | 8, a, s, r, n, i, _, h, hr, hi, hf => by cases hr
  | 9, a, s, r, n, i, _, h, hr, hi, hf => by cases hr
  | 10, a, s, r, n, i, _, h, hr, hi, hf => by cases hr
  | 11, a, s, r, n, i, _, h, hr, hi, hf => by cases hr
  | 12, a, s, r, n, i, _, h, hr, hi, hf => by cases hr; cases hf; have h : 12 < 46 ∧ a < 10 ∧ s < 1 ∧ r < 1 := h; show 8 < 46 ∧ a < 10 ∧ i < 6 ∧ 0 < 1; omega
  | 13, a, s, r, n, i, _, h, hr, hi, hf => by cases hr; cases hf; have h : 13 < 46 ∧ a < 10 ∧ s < 6 ∧ r < 1 := h; show 6 < 46 ∧ a < 10 ∧ s < 6 ∧ i < 4; omega
  | 14, a, s, r, n, i, _, h, hr, hi, hf => by cases hr
  | 15, a, s, r, n, i, _, h, hr, hi, hf => by cases hr
  | 16, a, s, r, n, i, _, h, hr, hi, hf => by cases hr
  | 17, a, s, r, n, i, _, h, hr, hi, hf => by cases hr
  | 18, a, s, r, n, i, _, h, hr, hi, hf => by cases hr
  | 19, a, s, r, n, i, _, h, hr, hi, hf => by cases hr
  | 20, a, s, r, n, i, _, h, hr, hi, hf => by cases hr; cases hf; show 0 < 46 ∧ 4 + i < 10 ∧ 0 < 1 ∧ 0 < 1; omega
  | 21, a, s, r, n, i, _, h, hr, hi, hf => by cases hr; cases hf; show 0 < 46 ∧ 2 + i < 10 ∧ 0 < 1 ∧ 0 < 1; omega
  | 22, a, s, r, n, i, _, h, hr, hi, hf => by cases hr
  | 23, a, s, r, n, i, _, h, hr, hi, hf => by cases hr
  | 24, a, s, r, n, i, _, h, hr, hi, hf => by cases hr
  | 25, a, s, r, n, i, _, h, hr, hi, hf => by cases hr
  | 26, a, s, r, n, i, _, h, hr, hi, hf => by cases hr
  | 27, a, s, r, n, i, _, h, hr, hi, hf => by cases hr
  | 28, a, s, r, n, i, _, h, hr, hi, hf => by cases hr
  | 29, a, s, r, n, i, _, h, hr, hi, hf => by cases hr
  | 30, a, s, r, n, i, _, h, hr, hi, hf => by cases hr
  | 31, a, s, r, n, i, _, h, hr, hi, hf => by cases hr
  | 32, a, s, r, n, i, _, h, hr, hi, hf => by cases hr
  | 33, a, s, r, n, i, _, h, hr, hi, hf => by cases hr
  | 34, a, s, r, n, i, _, h, hr, hi, hf => by cases hr
  | 35, a, s, r, n, i, _, h, hr, hi, hf => by cases hr
  | 36, a, s, r, n, i, _, h, hr, hi, hf => by cases hr
  | 37, a, s, r, n, i, _, h, hr, hi, hf => by cases hr
  | 38, a, s, r, n, i, _, h, hr, hi, hf => by cases hr
  | 39, a, s, r, n, i, _, h, hr, hi, hf => by cases hr
  | 40, a, s, r, n, i, _, h, hr, hi, hf => by cases hr
  | 41, a, s, r, n, i, _, h, hr, hi, hf => by cases hr
  | 42, a, s, r, n, i, _, h, hr, hi, hf => by cases hr
  | 43, a, s, r, n, i, _, h, hr, hi, hf => by cases hr
  | 44, a, s, r, n, i, _, h, hr, hi, hf => by cases hr
  | 45, a, s, r, n, i, _, h, hr, hi, hf => by cases hr
  | 46, a, s, r, n, i, _, h, hr, hi, hf => by cases hr
  | 47, a, s, r, n, i, _, h, hr, hi, hf => by cases hr
  | 48, a, s, r, n, i, _, h, hr, hi, hf => by cases hr
  | 49, a, s, r, n, i, _, h, hr, hi, hf => by cases hr
  | 50, a, s, r, n, i, _, h, hr, hi, hf => by cases hr
  | 51, a, s, r, n, i, _, h, hr, hi, hf => by cases hr
  | 52, a, s, r, n, i, _, h, hr, hi, hf => by cases hr
  | k + 53, a, s, r, n, i, _, h, hr, hi, hf => by cases hr
theorem kRow_kind5 : ∀ (k n : Nat), kRow k = (5, n) → (k = 12 ∨ k = 13 ∨ k = 20 ∨ k = 21)
  | 0, n, h => by cases h
  | 1, n, h => by cases h
  | 2, n, h => by cases h
  | 3, n, h => by cases h
  | 4, n, h => by cases h
  | 5, n, h => by cases h
  | 6, n, h => by cases h
  | 7, n, h => by cases h
  | 8, n, h => by cases h
  | 9, n, h => by cases h
  | 10, n, h => by cases h
  | 11, n, h => by cases h
  | 12, n, h => by simp
  | 13, n, h => by simp
  | 14, n, h => by cases h
  | 15, n, h => by cases h
  | 16, n, h => by cases h
  | 17, n, h => by cases h
  | 18, n, h => by cases h
  | 19, n, h => by cases h
  | 20, n, h => by simp
  | 21, n, h => by simp
  | 22, n, h => by cases h
  | 23, n, h => by cases h
  | 24, n, h => by cases h
  | 25, n, h => by cases h
  | 26, n, h => by cases h
  | 27, n, h => by cases h
  | 28, n, h => by cases h
  | 29, n, h => by cases h
  | 30, n, h => by cases h
  | 31, n, h => by cases h
  | 32, n, h => by cases h
  | 33, n, h => by cases h
  | 34, n, h => by cases h
  | 35, n, h => by cases h
  | 36, n, h => by cases h
  | 37, n, h => by cases h
  | 38, n, h => by cases h
  | 39, n, h => by cases h
  | 40, n, h => by cases h
  | 41, n, h => by cases h
  | 42, n, h => by cases h
  | 43, n, h => by cases h
  | 44, n, h => by cases h
  | 45, n, h => by cases h
  | 46, n, h => by cases h
  | 47, n, h => by cases h
  | 48, n, h => by cases h
  | 49, n, h => by cases h
  | 50, n, h => by cases h
  | 51, n, h => by cases h
  | 52, n, h => by cases h
  | k + 53, n, h => by cases h
theorem kRow_46 : ∀ (k n : Nat), kRow k = (6, n) → 46 ≤ k
  | 0, n, h => by cases h
  | 1, n, h => by cases h
  | 2, n, h => by cases h
  | 3, n, h => by cases h
  | 4, n, h => by cases h
  | 5, n, h => by cases h
  | 6, n, h => by cases h
  | 7, n, h => by cases h
  | 8, n, h => by cases h
  | 9, n, h => by cases h
  | 10, n, h => by cases h
  | 11, n, h => by cases h
  | 12, n, h => by cases h
  | 13, n, h => by cases h
  | 14, n, h => by cases h
  | 15, n, h => by cases h
  | 16, n, h => by cases h
  | 17, n, h => by cases h
  | 18, n, h => by cases h
  | 19, n, h => by cases h
  | 20, n, h => by cases h
  | 21, n, h => by cases h
  | 22, n, h => by cases h
  | 23, n, h => by cases h
  | 24, n, h => by cases h
  | 25, n, h => by cases h
  | 26, n, h => by cases h
  | 27, n, h => by cases h
  | 28, n, h => by cases h
  | 29, n, h => by cases h
  | 30, n, h => by cases h
  | 31, n, h => by cases h
  | 32, n, h => by cases h
  | 33, n, h => by cases h
  | 34, n, h => by cases h
  | 35, n, h => by cases h
  | 36, n, h => by cases h
  | 37, n, h => by cases h
  | 38, n, h => by cases h
  | 39, n, h => by cases h
  | 40, n, h => by cases h
  | 41, n, h => by cases h
  | 42, n, h => by cases h
  | 43, n, h => by cases h
  | 44, n, h => by cases h
  | 45, n, h => by cases h
  | 46, n, h => by omega
  | 47, n, h => by cases h
  | 48, n, h => by cases h
  | 49, n, h => by cases h
  | 50, n, h => by cases h
  | 51, n, h => by cases h
  | 52, n, h => by cases h
  | k + 53, n, h => by cases h
theorem kRow_50 : ∀ (k n : Nat), kRow k = (7, n) → 50 ≤ k
  | 0, n, h => by cases h
  | 1, n, h => by cases h
  | 2, n, h => by cases h
  | 3, n, h => by cases h
  | 4, n, h => by cases h
  | 5, n, h => by cases h
  | 6, n, h => by cases h
  | 7, n, h => by cases h
  | 8, n, h => by cases h
  | 9, n, h => by cases h
  | 10, n, h => by cases h
  | 11, n, h => by cases h
  | 12, n, h => by cases h
  | 13, n, h => by cases h
  | 14, n, h => by cases h
  | 15, n, h => by cases h
  | 16, n, h => by cases h
  | 17, n, h => by cases h
  | 18, n, h => by cases h
  | 19, n, h => by cases h
  | 20, n, h => by cases h
  | 21, n, h => by cases h
  | 22, n, h => by cases h
  | 23, n, h => by cases h
  | 24, n, h => by cases h
  | 25, n, h => by cases h
  | 26, n, h => by cases h
  | 27, n, h => by cases h
  | 28, n, h => by cases h
  | 29, n, h => by cases h
  | 30, n, h => by cases h
  | 31, n, h => by cases h
  | 32, n, h => by cases h
  | 33, n, h => by cases h
  | 34, n, h => by cases h
  | 35, n, h => by cases h
  | 36, n, h => by cases h
  | 37, n, h => by cases h
  | 38, n, h => by cases h
  | 39, n, h => by cases h
  | 40, n, h => by cases h
  | 41, n, h => by cases h
  | 42, n, h => by cases h
  | 43, n, h => by cases h
  | 44, n, h => by cases h
  | 45, n, h => by cases h
  | 46, n, h => by cases h
  | 47, n, h => by cases h
  | 48, n, h => by cases h
  | 49, n, h => by cases h
  | 50, n, h => by omega
  | 51, n, h => by omega
  | 52, n, h => by omega
  | k + 53, n, h => by cases h
theorem okR_ok {o : mO} (h : okR o) (hk : o.1 < 46) : okO o := by
  rcases h with h | rfl | rfl
  · exact h
  · exact absurd hk (by decide)
  · exact absurd hk (by decide)
theorem kRow_le : ∀ (k t n : Nat), kRow k = (t, n) → t = 1 ∨ t = 2 ∨ t = 3 ∨ t = 4 ∨ t = 5 → k < 46
  | 0, t, n, h, ht => by cases h; simp at ht
  | 1, t, n, h, ht => by cases h; simp at ht
  | 2, t, n, h, ht => by cases h; simp at ht
  | 3, t, n, h, ht => by cases h; simp at ht
  | 4, t, n, h, ht => by cases h; simp at ht
  | 5, t, n, h, ht => by cases h; simp at ht
  | 6, t, n, h, ht => by cases h; simp at ht
  | 7, t, n, h, ht => by cases h; simp at ht
  | 8, t, n, h, ht => by cases h; simp at ht
  | 9, t, n, h, ht => by cases h; simp at ht
  | 10, t, n, h, ht => by cases h; simp at ht
  | 11, t, n, h, ht => by omega
  | 12, t, n, h, ht => by omega
  | 13, t, n, h, ht => by omega
  | 14, t, n, h, ht => by omega
  | 15, t, n, h, ht => by omega
  | 16, t, n, h, ht => by omega
  | 17, t, n, h, ht => by omega
  | 18, t, n, h, ht => by omega
  | 19, t, n, h, ht => by omega
  | 20, t, n, h, ht => by omega
  | 21, t, n, h, ht => by omega
  | 22, t, n, h, ht => by omega
  | 23, t, n, h, ht => by omega
  | 24, t, n, h, ht => by omega
  | 25, t, n, h, ht => by omega
  | 26, t, n, h, ht => by cases h; simp at ht
  | 27, t, n, h, ht => by cases h; simp at ht
  | 28, t, n, h, ht => by cases h; simp at ht
  | 29, t, n, h, ht => by cases h; simp at ht
  | 30, t, n, h, ht => by omega
  | 31, t, n, h, ht => by omega
  | 32, t, n, h, ht => by omega
  | 33, t, n, h, ht => by omega
  | 34, t, n, h, ht => by omega
  | 35, t, n, h, ht => by omega
  | 36, t, n, h, ht => by omega
  | 37, t, n, h, ht => by omega
  | 38, t, n, h, ht => by omega
  | 39, t, n, h, ht => by omega
  | 40, t, n, h, ht => by omega
  | 41, t, n, h, ht => by omega
  | 42, t, n, h, ht => by cases h; simp at ht
  | 43, t, n, h, ht => by cases h; simp at ht
  | 44, t, n, h, ht => by cases h; simp at ht
  | 45, t, n, h, ht => by omega
  | 46, t, n, h, ht => by cases h; simp at ht
  | 47, t, n, h, ht => by cases h; simp at ht
  | 48, t, n, h, ht => by cases h; simp at ht
  | 49, t, n, h, ht => by cases h; simp at ht
  | 50, t, n, h, ht => by cases h; simp at ht
  | 51, t, n, h, ht => by cases h; simp at ht
  | 52, t, n, h, ht => by cases h; simp at ht
  | k + 53, t, n, h, ht => by cases h; simp at ht
theorem mCell_obj {σ : mS} {o : mO} (h : o.1 < 11) : mCell cy ad σ o = .inr (o.1, (List.range (fN o.1)).map (fCell ad σ o)) := by
  unfold mCell
  rw [show Nat.blt o.1 11 = true from Nat.ble_eq_true_of_le h]
  rfl
theorem mCell_int {σ : mS} {o : mO} {t n : Nat} (h : kRow o.1 = (t, n)) (ht : t = 1 ∨ t = 2 ∨ t = 3) : mCell cy ad σ o = .inl (cy t, n, .inl (σ.1 o)) := by
  have h11 : ¬ o.1 < 11 := by
    rcases ht with rfl | rfl | rfl <;> exact Nat.not_lt.mpr (kRow_lt _ _ _ h)
  unfold mCell
  rw [show Nat.blt o.1 11 = false from Bool.eq_false_iff.mpr (fun q => h11 (Nat.le_of_ble_eq_true q)), h]
  rcases ht with rfl | rfl | rfl <;> rfl
theorem mCell_long {σ : mS} {o : mO} {n : Nat} (h : kRow o.1 = (4, n)) : mCell cy ad σ o = .inl (cy 4, n, .inr (.inl (σ.2 o))) := by
  have h11 : ¬ o.1 < 11 := Nat.not_lt.mpr (kRow_lt _ _ _ h)
  unfold mCell
  rw [show Nat.blt o.1 11 = false from Bool.eq_false_iff.mpr (fun q => h11 (Nat.le_of_ble_eq_true q)), h]
  rfl
theorem mCell_ref {σ : mS} {o : mO} {n : Nat} (h : kRow o.1 = (5, n)) : mCell cy ad σ o = .inl (cy o.1, n, .inr (.inr (.inr (.inr (fun i => (kEl i o).map ad))))) := by
  have h11 : ¬ o.1 < 11 := Nat.not_lt.mpr (kRow_lt _ _ _ h)
  unfold mCell
  rw [show Nat.blt o.1 11 = false from Bool.eq_false_iff.mpr (fun q => h11 (Nat.le_of_ble_eq_true q)), h]
  rfl
theorem mTy1 {t : Nat} (ht : t = 1 ∨ t = 2 ∨ t = 3) : (mTys cy)[t - 1]? = some (cy t, if t = 1 then .int else if t = 2 then .byte else .boolean) := by
  rcases ht with rfl | rfl | rfl <;> rfl
/-- the world behind a write of a number -/
theorem rel_st {σ : mS} {H1 : Heap} {H : Heap} {o : mO} {i : Nat} {v : Int32} {q0 : Nat} {e : va_E} (ho : okO o) (hq : allO[q0]? = some o) (he : e = mCell cy ad (st σ o i v) o) (hRel : mRel D cy ad xs ys XL σ H) (hP : va_P D vwCl ((wsAll cy ad σ).set q0 (ad o, e)) H1) : mRel D cy ad xs ys XL (st σ o i v) H1 := by
  rw [ws_set hq he (fun o' hne => mCell_ne1 (st_ne hne) rfl)] at hP
  have n1 : ((46, 0, 0, 0) : mO) ≠ o := fun q => absurd ho.1 (by rw [← q]; decide)
  have n2 : ((46, 0, 0, 1) : mO) ≠ o := fun q => absurd ho.1 (by rw [← q]; decide)
  have n3 : ((51, 0, 0, 0) : mO) ≠ o := fun q => absurd ho.1 (by rw [← q]; decide)
  refine ⟨hP, ?_, ?_, ?_⟩
  · rw [st_ne n1]; exact hRel.2.1
  · rw [st_ne n2]; exact hRel.2.2.1
  · rw [st_ne n3]; exact hRel.2.2.2
theorem rel_stL {σ : mS} {H1 : Heap} {H : Heap} {o : mO} {i : Nat} {v : Int64} {q0 : Nat} {e : va_E} (hq : allO[q0]? = some o) (he : e = mCell cy ad (stL σ o i v) o) (hRel : mRel D cy ad xs ys XL σ H) (hP : va_P D vwCl ((wsAll cy ad σ).set q0 (ad o, e)) H1) : mRel D cy ad xs ys XL (stL σ o i v) H1 := by
  rw [ws_set (σ := σ) hq he (fun o' hne => mCell_ne1 rfl (stL_ne hne))] at hP
  exact ⟨hP, hRel.2.1, hRel.2.2.1, hRel.2.2.2⟩
theorem rel_stC {σ : mS} {H1 : Heap} {H : Heap} {o1 o : mO} {p1 p2 n : Nat} {q0 : Nat} {e : va_E} (ho : okO o) (hq : allO[q0]? = some o) (he : e = mCell cy ad (stC σ o1 p1 o p2 n) o) (hRel : mRel D cy ad xs ys XL σ H) (hP : va_P D vwCl ((wsAll cy ad σ).set q0 (ad o, e)) H1) : mRel D cy ad xs ys XL (stC σ o1 p1 o p2 n) H1 := by
  rw [ws_set hq he (fun o' hne => mCell_ne1 (stC_ne hne) rfl)] at hP
  have n1 : ((46, 0, 0, 0) : mO) ≠ o := fun q => absurd ho.1 (by rw [← q]; decide)
  have n2 : ((46, 0, 0, 1) : mO) ≠ o := fun q => absurd ho.1 (by rw [← q]; decide)
  have n3 : ((51, 0, 0, 0) : mO) ≠ o := fun q => absurd ho.1 (by rw [← q]; decide)
  refine ⟨hP, ?_, ?_, ?_⟩
  · rw [stC_ne n1]; exact hRel.2.1
  · rw [stC_ne n2]; exact hRel.2.2.1
  · rw [stC_ne n3]; exact hRel.2.2.2
theorem FL_in {a b c d : Nat} (h : FL.contains (a, b, c, d) = true) : FLok (a, b, c, d) := FL_ok _ (List.contains_iff_mem.mp h)
theorem MM_in {a b c : Nat} (h : MM.contains (a, b, c) = true) : MMok (a, b, c) := MM_ok _ (List.contains_iff_mem.mp h)
theorem ML_in {a b c d e : Nat} (h : ML.contains (a, b, c, d, e) = true) : MLok (a, b, c, d, e) := ML_ok _ (List.contains_iff_mem.mp h)
theorem set_map {α : Type} {g g' : Nat → α} {n f : Nat} (hg : ∀ k, k ≠ f → g' k = g k) : ((List.range n).map g).set f (g' f) = (List.range n).map g' := by
  apply List.ext_getElem?
  intro k
  by_cases hk : k = f
  · subst hk
    by_cases hl : k < n
    · rw [List.getElem?_set_self (by simpa using hl)]
      simp [hl]
    · rw [List.getElem?_eq_none (by simpa using hl), List.getElem?_eq_none (by simpa using hl)]
  · rw [List.getElem?_set_ne (Ne.symm hk)]
    by_cases hl : k < n
    · simp [hl, hg k hk]
    · rw [List.getElem?_eq_none (by simpa using hl), List.getElem?_eq_none (by simpa using hl)]

end SB

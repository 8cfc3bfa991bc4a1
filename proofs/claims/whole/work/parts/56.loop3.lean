/-! Amid a slot: the class's one debt and the reference's two -/
section MF
variable {M K T s r i j n m k d h x y z x1 x2 : Nat} {F G N0 N C P Q O W C' N' P' Q' O' W' : Nat → Int32} {v u t : Int32} {b : Int32} {w1 : Prop} {wb : Nat → Prop}
theorem dP_next (hD : DB M N0) (hM : M ≤ 6) (hj : j < M) (hz : z < M) (hno : N0 (135 + z) ≠ nI j) : dP N0 O (j + 1) z = dP N0 O j z ∧ dQ N0 O W (j + 1) z = dQ N0 O W j z := by
  unfold dP dQ
  by_cases ho : O z = -1
  · rw [if_pos ho, if_pos ho, if_pos ho, if_pos ho]
    rcases hD.1 z hz with ⟨e1, e2⟩ | ⟨x, hx, e1, -⟩
    · rw [e1, if_pos (nm_lt (by omega)), if_pos (nm_lt (by omega)), if_pos (nm_lt (by omega)), if_pos (nm_lt (by omega))]
      exact ⟨rfl, rfl⟩
    · rw [e1]
      have hxj : x ≠ j := fun e => hno (by rw [e1, e])
      by_cases g : x < j
      · rw [if_pos (nI_lt (by omega) (by omega)), if_pos (nI_lt g (by omega)), if_pos (nI_lt (by omega) (by omega)), if_pos (nI_lt g (by omega))]
        exact ⟨rfl, rfl⟩
      · rw [if_neg (nI_nlt (by omega) (by omega)), if_neg (nI_nlt (by omega) (by omega)), if_neg (nI_nlt (by omega) (by omega)), if_neg (nI_nlt (by omega) (by omega))]
        exact ⟨rfl, rfl⟩
  · rw [if_neg ho, if_neg ho, if_neg ho, if_neg ho]
    exact ⟨rfl, rfl⟩
theorem dP_o (h : O' z = O z) (h2 : W' z = W z) : dP N0 O' j z = dP N0 O j z ∧ dQ N0 O' W' j z = dQ N0 O W j z := by
  unfold dP dQ
  rw [h, h2]
  exact ⟨rfl, rfl⟩
/-- a new debt -/
theorem dP_upd (hD : DB M N0) (hM : M ≤ 6) (hj : j < M) (hz : z < M) (hno : N0 (135 + z) ≠ nI j) : dP N0 (upd O y (nI j)) (j + 1) z = upd (dP N0 O j) y (nI j) z ∧ dQ N0 (upd O y (nI j)) (upd W y v) (j + 1) z = upd (dQ N0 O W j) y v z := by
  by_cases g : z = y
  · rw [upd_e g, upd_e g]
    unfold dP dQ
    have : ¬ upd O y (nI j) z = -1 := by rw [upd_e g]; exact nm1 (by omega)
    rw [if_neg this, if_neg this, upd_e g, upd_e g]
    exact ⟨rfl, rfl⟩
  · rw [upd_n g, upd_n g]
    have h1 := dP_o (N0 := N0) (j := j + 1) (O' := upd O y (nI j)) (O := O) (W' := upd W y v) (W := W) (z := z) (upd_n g) (upd_n g)
    have h2 := dP_next (O := O) (W := W) hD hM hj hz hno
    exact ⟨h1.1.trans h2.1, h1.2.trans h2.2⟩
/-- a debt that is paid, or not -/
theorem dP_pay (hD : DB M N0) (hM : M ≤ 6) (hj : j < M) (hz : z < M) (hy : N0 (135 + y) = nI j) (ho : O y = -1) (hno : z ≠ y → N0 (135 + z) ≠ nI j) : dP N0 O (j + 1) z = upd (dP N0 O j) y (-1) z ∧ dQ N0 O W (j + 1) z = upd (dQ N0 O W j) y (nI 0) z := by
  by_cases g : z = y
  · subst g
    rw [upd_e rfl, upd_e rfl]
    unfold dP dQ
    rw [if_pos ho, if_pos ho, hy, if_pos (nI_lt (by omega) (by omega)), if_pos (nI_lt (by omega) (by omega))]
    exact ⟨rfl, rfl⟩
  · rw [upd_n g, upd_n g]
    exact dP_next hD hM hj hz (hno g)
/-- what the class holds of a debt to j, and the reference -/
theorem dP_is (hD : DB M N0) (hM : M ≤ 6) (hj : j < M) (hy : y < M) (hO : Ow N0 N O W j y) {q : Nat} (hq : q = 1 ∨ q = 2) : (dP N0 O j y = nI j ∧ dQ N0 O W j y = nI q) ↔ (N0 (135 + y) = nI j ∧ N0 (141 + y) = nI q) := by
  unfold dP dQ
  rcases hO with ⟨o1, o2⟩ | ⟨x, hx, o1, o2, -⟩
  · rw [if_pos o1, if_pos o1]
    rcases hD.1 y hy with ⟨e1, e2⟩ | ⟨x, hx, e1, -⟩
    · rw [e1, if_pos (nm_lt (by omega))]
      exact ⟨fun e => absurd e.1.symm (nm1 (by omega)), fun e => absurd e.1.symm (nm1 (by omega))⟩
    · rw [e1]
      by_cases g : x < j
      · rw [if_pos (nI_lt g (by omega))]
        exact ⟨fun e => absurd e.1.symm (nm1 (by omega)), fun e => absurd (nI_inj (by omega) (by omega) e.1) (by omega)⟩
      · rw [if_neg (nI_nlt (by omega) (by omega)), if_neg (nI_nlt (by omega) (by omega))]
  · have g : ¬ O y = -1 := by rw [o1]; exact nm1 (by omega)
    rw [if_neg g, if_neg g, o1, o2]
    exact ⟨fun e => absurd (nI_inj (by omega) (by omega) e.1) (by omega), fun e => absurd e.1.symm (nm1 (by omega))⟩
/-- a station that may come to owe: the class and the reference see it alike -/
theorem dQ_free (hD : DB M N0) (hM : M ≤ 6) (hj : j < M) (hy : y < M) (hO : Ow N0 N O W j y) (hf : N0 (135 + y) = -1) : dQ N0 O W j y = 0 ↔ (N0 (135 + y) = -1 ∧ O y = -1) := by
  unfold dQ
  rcases hO with ⟨o1, o2⟩ | ⟨x, hx, o1, o2, o3, o4, o5, o6⟩
  · rw [if_pos o1, hf, if_pos (nm_lt (by omega))]
    exact ⟨fun _ => ⟨rfl, o1⟩, fun _ => by decide⟩
  · have g : ¬ O y = -1 := by rw [o1]; exact nm1 (by omega)
    rw [if_neg g]
    rcases o6 with ⟨w, -⟩ | ⟨w, -⟩ <;> rw [w] <;> exact ⟨fun e => absurd e (by decide), fun e => absurd e.2 g⟩
/-- whose debts are exchange j's -/
theorem db_to (hD : DB M N0) (hM : M ≤ 6) (hz : z < M) (hy : y < M) (hj : j < M) (hyN : N0 (1179 + 16 * j + 1) = nI y) (hne : z ≠ y) : N0 (135 + z) ≠ nI j := fun e => by
  rcases hD.1 z hz with ⟨e1, e2⟩ | ⟨x, hx, e1, e2, e3, -⟩
  · rw [e1] at e; exact absurd e.symm (nm1 (by omega))
  · have g : x = j := nI_inj (by omega) (by omega) (e1.symm.trans e)
    subst g
    exact hne (nI_inj (by omega) (by omega) (e3.symm.trans hyN))
theorem db_ph (hD : DB M N0) (hM : M ≤ 6) (hz : z < M) (hj : j < M) (hp : N0 (1179 + 16 * j) = nI 0 ∨ N0 (1179 + 16 * j + 4) = nI 0 ∨ N0 (1179 + 16 * j + 4) = nI 2) : N0 (135 + z) ≠ nI j := fun e => by
  rcases hD.1 z hz with ⟨e1, e2⟩ | ⟨x, hx, e1, e2, e3, e4, e5⟩
  · rw [e1] at e; exact absurd e.symm (nm1 (by omega))
  · have g : x = j := nI_inj (by omega) (by omega) (e1.symm.trans e)
    subst g
    rcases hp with hp | hp | hp
    · rw [e2] at hp; exact absurd hp (by decide)
    · rcases e5 with ⟨-, e5⟩ | ⟨-, e5⟩ <;> (rw [e5] at hp; exact absurd hp (by decide))
    · rcases e5 with ⟨-, e5⟩ | ⟨-, e5⟩ <;> (rw [e5] at hp; exact absurd hp (by decide))
end MF

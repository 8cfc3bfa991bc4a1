/-! Amid a slot: the senders' steps, one by one -/
section MD
variable {M K T s r i j n m k d h x y z x1 x2 : Nat} {F G N0 N C P Q O W C' N' P' Q' O' W' : Nat → Int32} {v u t : Int32} {b : Int32} {w1 : Prop} {wb : Nat → Prop}
def TrO (M : Nat) (b : Int32) (N0 N O W : Nat → Int32) (s y : Nat) : Prop :=
  (N0 (1179 + 16 * s + 4) = nI 0 ∧ N (1179 + 16 * s + 4) = nI 1 ∧ ((N (1179 + 16 * s + 15) = nI 0 ∧ O y = nI s ∧ W y = nI 1 ∧ clr N0 b M y s) ∨ 0 < N (1179 + 16 * s + 15))) ∨
  (N (1179 + 16 * s + 4) = nI 2 ∧ N (1179 + 16 * s + 15) = nI 0 ∧ N (1179 + 16 * s + 6) = nI 0) ∨
  (N0 (1179 + 16 * s + 4) = nI 2 ∧ N (1179 + 16 * s + 4) = nI 2 ∧ N (1179 + 16 * s + 15) = nI 0 ∧ (N (1179 + 16 * s + 6) = N0 (1179 + 16 * s + 6) ∨ clr N0 b M y s)) ∨
  (N0 (1179 + 16 * s + 4) = nI 2 ∧ N (1179 + 16 * s + 4) = nI 3 ∧ ((N (1179 + 16 * s + 15) = nI 0 ∧ O y = nI s ∧ W y = nI 2 ∧ N (1179 + 16 * s + 6) ≠ nI 0 ∧ (N (1179 + 16 * s + 6) = N0 (1179 + 16 * s + 6) ∨ clr N0 b M y s)) ∨ 0 < N (1179 + 16 * s + 15)))
/-- what became of an exchange whose sender has stepped -/
def Tr (M : Nat) (b : Int32) (N0 N O W : Nat → Int32) (s : Nat) : Prop :=
  N (1179 + 16 * s) = nI 0 ∨ (N0 (1179 + 16 * s) = nI 1 ∧ N (1179 + 16 * s) = nI 1 ∧ ∃ y, y < M ∧ N0 (1179 + 16 * s + 1) = nI y ∧ N (1179 + 16 * s + 1) = nI y ∧ TrO M b N0 N O W s y)
/-- debts that arose in this slot -/
def Ow (N0 N O W : Nat → Int32) (j y : Nat) : Prop :=
  (O y = -1 ∧ W y = nI 0) ∨ ∃ x, x < j ∧ O y = nI x ∧ N0 (135 + y) = -1 ∧ N (1179 + 16 * x) = nI 1 ∧ N (1179 + 16 * x + 1) = nI y ∧ N (1179 + 16 * x + 15) = nI 0 ∧ ((W y = nI 1 ∧ N (1179 + 16 * x + 4) = nI 1) ∨ (W y = nI 2 ∧ N (1179 + 16 * x + 4) = nI 3))
def keepK (k : Nat) : Prop := k < 14 ∨ (15 ≤ k ∧ k < 51) ∨ (135 ≤ k ∧ k < 147) ∨ k = 1329 ∨ k = 1331 ∨ k = 1332
def Md (M T : Nat) (b : Int32) (N0 N O W : Nat → Int32) (j : Nat) : Prop :=
  IC M N ∧ (∀ k, keepK k → N k = N0 k) ∧ (∀ s, j ≤ s → s < M → ∀ k, k < 16 → N (1179 + 16 * s + k) = N0 (1179 + 16 * s + k)) ∧ (∀ s, s < M → s < j → Tr M b N0 N O W s) ∧ (∀ y, y < M → Ow N0 N O W j y) ∧ ∀ s, s < M → ∃ u, u ≤ T + (if s < j then 36 else 0) ∧ N (1275 + 9 * s + 1) = nI u
theorem n01' : ¬ nI 0 = nI 1 := by decide
theorem n02' : ¬ nI 0 = nI 2 := by decide
theorem n12' : ¬ nI 1 = nI 2 := by decide
theorem n13' : ¬ nI 1 = nI 3 := by decide
theorem n23' : ¬ nI 2 = nI 3 := by decide
theorem nm1 (h : n < 2147483648) : ¬ nI n = -1 := fun e => by
  have h1 : ¬ nI n < nI 0 := nI_nlt (by omega) (by omega)
  rw [e] at h1
  exact h1 (by decide)
theorem n_pos0 (h : 0 < v) : ¬ v = nI 0 := fun e => by
  rw [e] at h
  exact absurd h (by decide)
/-- who sends amid a clear signal: none else that is heard -/
theorem clr_one (hM : M ≤ 6) (hx1 : x1 < M) (hx2 : x2 < M) (hne : x2 ≠ x1) (hc : clr N0 b M y x1) (hq : 0 < N0 (15 + 6 * y + x2)) (hs : sn b x2) : False := by
  obtain ⟨c1, c2, c3, c4, c5⟩ := hc
  exact c5 ⟨x2, by omega, hx2, fun e => hne (nI_inj (by omega) (by omega) e), hq, hs⟩
theorem ev_hear (hI : IC M N0) (hx : x < M) (hy : y < M) (hon : N0 (1179 + 16 * x) = nI 1) (hyN : N0 (1179 + 16 * x + 1) = nI y) : 0 < N0 (15 + 6 * y + x) := by
  have hM := hI.1.2.1
  rcases hI.2.2.2.1 x hx with e | ⟨y', r, h, ph, c, q, w, p, e⟩
  · rw [e] at hon
    exact absurd hon n01'
  · have hy' : y' < M := e.2.1.1
    have e1 : y = y' := nI_inj (by omega) (by omega) (hyN.symm.trans e.1.2.1)
    subst e1
    obtain ⟨q', -, q1, q2⟩ := hI.1.2.2.2.1 x y (by omega) (by omega)
    have := e.2.1.2.2.1
    rw [q1] at this
    rw [q2]
    exact this
theorem ph_sn (hM : M ≤ 6) (hb : b = bv (pS N0) M) (hx : x < M) (hon : N0 (1179 + 16 * x) = nI 1) (hp : N0 (1179 + 16 * x + 4) = nI 0 ∨ N0 (1179 + 16 * x + 4) = nI 2) : sn b x := by
  rw [hb]
  exact (bv_sn hM (by omega)).mpr ⟨hx, Or.inl ⟨hon, hp⟩⟩
theorem md_db {E : Nat → Int32} (hD : DB M N0) (hI : IC M N0) (hb : b = bv (pS N0) M) (hm : Md M T b N0 N O W M) (eO : ∀ y, y < M → E (135 + y) = O y) (eW : ∀ y, y < M → E (141 + y) = W y) (eX : ∀ k, 1179 ≤ k → k < 1275 → E k = N k) : DB M E := by
  have hM := hI.1.2.1
  obtain ⟨-, -, -, m4, m5, -⟩ := hm
  have ex : ∀ x k, x < M → k < 16 → E (1179 + 16 * x + k) = N (1179 + 16 * x + k) := fun x k hx hk => eX _ (by omega) (by omega)
  have ex0 : ∀ x, x < M → E (1179 + 16 * x) = N (1179 + 16 * x) := fun x hx => eX _ (by omega) (by omega)
  -- two to the same, one clear: the other sends not
  have two : ∀ x1 x2 y, x1 < M → x2 < M → x2 ≠ x1 → y < M → N0 (1179 + 16 * x2) = nI 1 → N0 (1179 + 16 * x2 + 1) = nI y → (N0 (1179 + 16 * x2 + 4) = nI 0 ∨ N0 (1179 + 16 * x2 + 4) = nI 2) → ¬ clr N0 b M y x1 := fun x1 x2 y h1 h2 hne hy hon hyN hp hc => clr_one hM h1 h2 hne hc (ev_hear hI h2 hy hon hyN) (ph_sn hM hb h2 hon hp)
  have tr : ∀ x y, x < M → y < M → N (1179 + 16 * x) = nI 1 → N (1179 + 16 * x + 1) = nI y → N0 (1179 + 16 * x) = nI 1 ∧ N0 (1179 + 16 * x + 1) = nI y ∧ TrO M b N0 N O W x y := fun x y hx hy hon hyN => by
    rcases m4 x hx hx with e | ⟨e1, e2, y', hy', e3, e4, e5⟩
    · rw [e] at hon
      exact absurd hon n01'
    · have e6 : y = y' := nI_inj (by omega) (by omega) (hyN.symm.trans e4)
      subst e6
      exact ⟨e1, e3, e5⟩
  obtain ⟨d1, d2, d3, d4⟩ := hD
  refine ⟨fun y hy => ?_, fun x y hx hy hon hyN => ?_, fun x1 x2 hx1 hx2 hne on1 on2 p1 p2 hyy => ?_, fun y x1 x2 hy hx1 hx2 ho hne on2 p2 hy2 => ?_⟩
  · rw [eO y hy, eW y hy]
    rcases m5 y hy with e | ⟨x, hx, e1, -, e2, e3, e4, e5⟩
    · exact Or.inl e
    · refine Or.inr ⟨x, hx, e1, ?_, ?_, ?_, ?_⟩
      · rw [ex0 x hx]; exact e2
      · rw [ex x 1 hx (by omega)]; exact e3
      · rw [ex x 15 hx (by omega)]; exact e4
      · rw [ex x 4 hx (by omega)]; exact e5
  · rw [ex0 x hx] at hon
    rw [ex x 1 hx (by omega)] at hyN
    rw [ex x 15 hx (by omega), ex x 4 hx (by omega), eO y hy, eW y hy]
    obtain ⟨-, -, t⟩ := tr x y hx hy hon hyN
    rcases t with ⟨-, t1, t2⟩ | ⟨t1, t2, -⟩ | ⟨-, t1, t2, -⟩ | ⟨-, t1, t2⟩
    · rw [t1]
      rcases t2 with ⟨t3, t4, t5, -⟩ | t3
      · exact ⟨Or.inl t3, fun _ => t3, fun _ _ => ⟨t4, t5⟩, fun e => absurd e (by decide)⟩
      · exact ⟨Or.inr t3, fun e => absurd e (by decide), fun _ e => absurd e (n_pos0 t3), fun e => absurd e (by decide)⟩
    · rw [t1]
      exact ⟨Or.inl t2, fun _ => t2, fun e => absurd e (by decide), fun e => absurd e (by decide)⟩
    · rw [t1]
      exact ⟨Or.inl t2, fun _ => t2, fun e => absurd e (by decide), fun e => absurd e (by decide)⟩
    · rw [t1]
      rcases t2 with ⟨t3, t4, t5, -⟩ | t3
      · exact ⟨Or.inl t3, fun _ => t3, fun e => absurd e (by decide), fun _ _ => ⟨t4, t5⟩⟩
      · exact ⟨Or.inr t3, fun e => absurd e (by decide), fun e => absurd e (by decide), fun _ e => absurd e (n_pos0 t3)⟩
  · rw [ex0 x1 hx1] at on1
    rw [ex0 x2 hx2] at on2
    rw [ex x1 4 hx1 (by omega)] at p1
    rw [ex x2 4 hx2 (by omega)] at p2
    rw [ex x1 1 hx1 (by omega), ex x2 1 hx2 (by omega)] at hyy
    rw [ex x1 6 hx1 (by omega), ex x2 6 hx2 (by omega)]
    obtain ⟨y, hy, hy1⟩ : ∃ y, y < M ∧ N (1179 + 16 * x1 + 1) = nI y := by
      rcases m4 x1 hx1 hx1 with e | ⟨-, -, y, hy, -, e, -⟩
      · rw [e] at on1
        exact absurd on1 n01'
      · exact ⟨y, hy, e⟩
    obtain ⟨a1, a2, t1⟩ := tr x1 y hx1 hy on1 hy1
    obtain ⟨c1, c2, t2⟩ := tr x2 y hx2 hy on2 (hyy.symm.trans hy1)
    rcases t1 with ⟨-, t, -⟩ | ⟨-, -, t⟩ | ⟨q1, -, -, g1⟩ | ⟨-, t, -⟩
    · rw [t] at p1; exact absurd p1 (by decide)
    · exact Or.inl t
    · rcases t2 with ⟨-, t, -⟩ | ⟨-, -, t⟩ | ⟨q2, -, -, g2⟩ | ⟨-, t, -⟩
      · rw [t] at p2; exact absurd p2 (by decide)
      · exact Or.inr t
      · have k1 := two x1 x2 y hx1 hx2 (fun e => hne e.symm) hy c1 c2 (Or.inr q2)
        have k2 := two x2 x1 y hx2 hx1 hne hy a1 a2 (Or.inr q1)
        rcases g1 with g1 | g1
        · rcases g2 with g2 | g2
          · rw [g1, g2]
            exact d3 x1 x2 hx1 hx2 hne a1 c1 q1 q2 (a2.trans c2.symm)
          · exact absurd g2 k2
        · exact absurd g1 k1
      · rw [t] at p2; exact absurd p2 (by decide)
    · rw [t] at p1; exact absurd p1 (by decide)
  · rw [eO y hy] at ho
    rw [ex0 x2 hx2] at on2
    rw [ex x2 4 hx2 (by omega)] at p2
    rw [ex x2 1 hx2 (by omega)] at hy2
    rw [ex x2 6 hx2 (by omega)]
    obtain ⟨c1, c2, t2⟩ := tr x2 y hx2 hy on2 hy2
    rcases t2 with ⟨-, t, -⟩ | ⟨-, -, t⟩ | ⟨q2, -, -, g2⟩ | ⟨-, t, -⟩
    · rw [t] at p2; exact absurd p2 (by decide)
    · exact t
    · have k1 := two x1 x2 y hx1 hx2 hne hy c1 c2 (Or.inr q2)
      rcases m5 y hy with ⟨e, -⟩ | ⟨x, hx, e1, -, e2, e3, e4, e5⟩
      · rw [ho] at e
        exact absurd e (nm1 (by omega))
      · have e6 : x = x1 := nI_inj (by omega) (by omega) (e1.symm.trans ho)
        subst e6
        obtain ⟨a1, a2, t1⟩ := tr x y hx1 hy e2 e3
        rcases t1 with ⟨q1, t, g⟩ | ⟨t, -, -⟩ | ⟨-, t, -, -⟩ | ⟨q1, t, g⟩
        · rcases g with ⟨-, -, -, g⟩ | g
          · exact absurd g k1
          · exact absurd e4 (n_pos0 g)
        · rw [t] at e5
          rcases e5 with ⟨-, e5⟩ | ⟨-, e5⟩ <;> exact absurd e5 (by decide)
        · rw [t] at e5
          rcases e5 with ⟨-, e5⟩ | ⟨-, e5⟩ <;> exact absurd e5 (by decide)
        · have k2 := two x2 x y hx2 hx1 (fun e => hne e.symm) hy a1 a2 (Or.inr q1)
          rcases g with ⟨-, -, -, w0, g⟩ | g
          · rcases g with g | g
            · rcases g2 with g2 | g2
              · rw [g2]
                rcases d3 x x2 hx1 hx2 (fun e => hne e.symm) a1 c1 q1 q2 (a2.trans c2.symm) with f | f
                · rw [g] at w0
                  exact absurd f w0
                · exact f
              · exact absurd g2 k2
            · exact absurd g k1
          · exact absurd e4 (n_pos0 g)
    · rw [t] at p2; exact absurd p2 (by decide)
end MD

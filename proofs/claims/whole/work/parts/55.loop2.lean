/-! Amid a slot: from one sender to the next -/
section ME
variable {M K T s r i j n m k d h x y z x1 x2 : Nat} {F G N0 N C P Q O W C' N' P' Q' O' W' : Nat → Int32} {v u t : Int32} {b : Int32} {w1 : Prop} {wb : Nat → Prop}
theorem Rl.pq (hR : Rl M C N P Q) (e : ∀ z, z < M → P' z = P z ∧ Q' z = Q z) : Rl M C N P' Q' :=
  ⟨hR.1, hR.2.1, hR.2.2.1, hR.2.2.2.1, fun z hz => ⟨(hR.2.2.2.2 z hz).1.trans (e z hz).1.symm, (hR.2.2.2.2 z hz).2.trans (e z hz).2.symm⟩⟩
theorem Tr.mono (h : Tr M b N0 N O W s) (e : ∀ k, k < 16 → N' (1179 + 16 * s + k) = N (1179 + 16 * s + k)) (eo : ∀ y, y < M → O y = nI s → O' y = O y ∧ W' y = W y) : Tr M b N0 N' O' W' s := by
  have e0 : N' (1179 + 16 * s) = N (1179 + 16 * s) := e 0 (by omega)
  rcases h with h | ⟨h1, h2, y, hy, h3, h4, h5⟩
  · exact Or.inl (e0.trans h)
  · refine Or.inr ⟨h1, e0.trans h2, y, hy, h3, (e 1 (by omega)).trans h4, ?_⟩
    unfold TrO at h5 ⊢
    rw [e 4 (by omega), e 15 (by omega), e 6 (by omega)]
    rcases h5 with ⟨a, c, ⟨f1, f2, f3, f4⟩ | f⟩ | h5 | h5 | ⟨a, c, ⟨f1, f2, f3, f4⟩ | f⟩
    · exact Or.inl ⟨a, c, Or.inl ⟨f1, (eo y hy f2).1.trans f2, (eo y hy f2).2.trans f3, f4⟩⟩
    · exact Or.inl ⟨a, c, Or.inr f⟩
    · exact Or.inr (Or.inl h5)
    · exact Or.inr (Or.inr (Or.inl h5))
    · exact Or.inr (Or.inr (Or.inr ⟨a, c, Or.inl ⟨f1, (eo y hy f2).1.trans f2, (eo y hy f2).2.trans f3, f4⟩⟩))
    · exact Or.inr (Or.inr (Or.inr ⟨a, c, Or.inr f⟩))
/-- a debt that arises, or none -/
def OwTo (M : Nat) (N0 N' O W O' W' : Nat → Int32) (j : Nat) : Prop :=
  (O' = O ∧ W' = W) ∨ ∃ y v, y < M ∧ O y = -1 ∧ N0 (135 + y) = -1 ∧ O' = upd O y (nI j) ∧ W' = upd W y v ∧ N' (1179 + 16 * j) = nI 1 ∧ N' (1179 + 16 * j + 1) = nI y ∧ N' (1179 + 16 * j + 15) = nI 0 ∧ ((v = nI 1 ∧ N' (1179 + 16 * j + 4) = nI 1) ∨ (v = nI 2 ∧ N' (1179 + 16 * j + 4) = nI 3))
theorem Md.next (hm : Md M T b N0 N O W j) (hj : j < M) (i' : IC M N') (e1 : ∀ k, keepK k → N' k = N k) (e2 : ∀ s, s < M → s ≠ j → ∀ k, k < 16 → N' (1179 + 16 * s + k) = N (1179 + 16 * s + k)) (ht : Tr M b N0 N' O' W' j) (hd : OwTo M N0 N' O W O' W' j) (hu : ∀ s, s < M → s ≠ j → N' (1275 + 9 * s + 1) = N (1275 + 9 * s + 1)) (huj : ∀ u, N (1275 + 9 * j + 1) = nI u → ∃ u', u' ≤ u + 36 ∧ N' (1275 + 9 * j + 1) = nI u') : Md M T b N0 N' O' W' (j + 1) := by
  obtain ⟨m1, m2, m3, m4, m5, m6⟩ := hm
  have hM := m1.1.2.1
  have eo : ∀ y, y < M → O y ≠ -1 → O' y = O y ∧ W' y = W y := fun y hy hne => by
    rcases hd with ⟨c1, c2⟩ | ⟨y0, v, hy0, c1, -, c2, c3, -⟩
    · rw [c1, c2]; exact ⟨rfl, rfl⟩
    · have g : y ≠ y0 := fun e => hne (by rw [e]; exact c1)
      rw [c2, c3, upd_n g, upd_n g]
      exact ⟨rfl, rfl⟩
  refine ⟨i', fun k hk => (e1 k hk).trans (m2 k hk), fun s a c k hk => (e2 s c (by omega) k hk).trans (m3 s (by omega) c k hk), fun s a c => ?_, fun y hy => ?_, fun s hs => ?_⟩
  · by_cases g : s = j
    · rw [g]; exact ht
    · exact (m4 s a (by omega)).mono (e2 s a g) (fun y hy h => eo y hy (by rw [h]; exact nm1 (by omega)))
  · have old : O' y = O y → W' y = W y → Ow N0 N' O' W' (j + 1) y := fun a c => by
      rcases m5 y hy with f | ⟨x, hx, f1, f2, f3, f4, f5, f6⟩
      · exact Or.inl (by rw [a, c]; exact f)
      · have ex := e2 x (by omega) (by omega)
        refine Or.inr ⟨x, by omega, a.trans f1, f2, (ex 0 (by omega)).trans f3, (ex 1 (by omega)).trans f4, (ex 15 (by omega)).trans f5, ?_⟩
        rw [c, ex 4 (by omega)]
        exact f6
    rcases hd with ⟨c1, c2⟩ | ⟨y0, v, hy0, c1, c0, c2, c3, c4, c5, c6, c7⟩
    · exact old (by rw [c1]) (by rw [c2])
    · by_cases g : y = y0
      · refine Or.inr ⟨j, by omega, by rw [c2, upd_e g], by rw [g]; exact c0, c4, by rw [g]; exact c5, c6, ?_⟩
        rw [c3, upd_e g]
        exact c7
      · exact old (by rw [c2, upd_n g]) (by rw [c3, upd_n g])
  · obtain ⟨u, a, c⟩ := m6 s hs
    by_cases g : s = j
    · subst g
      rw [if_neg (by omega)] at a
      obtain ⟨u', a', c'⟩ := huj u c
      exact ⟨u', by rw [if_pos (by omega)]; omega, c'⟩
    · refine ⟨u, ?_, (hu s hs g).trans c⟩
      by_cases g2 : s < j
      · rw [if_pos g2] at a
        rw [if_pos (by omega)]
        exact a
      · rw [if_neg g2] at a
        rw [if_neg (by omega)]
        exact a
theorem nm_lt (h : n < 8) : (-1 : Int32) < nI n := by
  have : ∀ k, k < 8 → (-1 : Int32) < nI k := by decide
  exact this n h
/-- the class's debts amid a slot -/
def dP (N0 O : Nat → Int32) (j y : Nat) : Int32 := if O y = -1 then (if N0 (135 + y) < nI j then -1 else N0 (135 + y)) else O y
def dQ (N0 O W : Nat → Int32) (j y : Nat) : Int32 := if O y = -1 then (if N0 (135 + y) < nI j then nI 0 else N0 (141 + y)) else W y
theorem dP_0 (hD : DB M N0) (hM : M ≤ 6) (hy : y < M) (hO : O y = -1) : dP N0 O 0 y = N0 (135 + y) ∧ dQ N0 O W 0 y = N0 (141 + y) := by
  unfold dP dQ
  rw [if_pos hO, if_pos hO]
  rcases hD.1 y hy with ⟨e1, e2⟩ | ⟨x, hx, e1, -⟩
  · rw [e1, e2, if_pos (by decide), if_pos (by decide)]
    exact ⟨rfl, rfl⟩
  · rw [e1, if_neg (nI_nlt (by omega) (by omega)), if_neg (nI_nlt (by omega) (by omega))]
    exact ⟨rfl, rfl⟩
theorem dP_M (hD : DB M N0) (hM : M ≤ 6) (hy : y < M) (hO : Ow N0 N O W M y) : dP N0 O M y = O y ∧ dQ N0 O W M y = W y := by
  unfold dP dQ
  rcases hO with ⟨o1, o2⟩ | ⟨x, hx, o1, -⟩
  · rw [if_pos o1, if_pos o1, o1, o2]
    rcases hD.1 y hy with ⟨e1, e2⟩ | ⟨x, hx, e1, -⟩
    · rw [e1, if_pos (nm_lt (by omega)), if_pos (nm_lt (by omega))]
      exact ⟨rfl, rfl⟩
    · rw [e1, if_pos (nI_lt hx (by omega)), if_pos (nI_lt hx (by omega))]
      exact ⟨rfl, rfl⟩
  · have g : ¬ O y = -1 := by rw [o1]; exact nm1 (by omega)
    rw [if_neg g, if_neg g]
    exact ⟨rfl, rfl⟩
end ME

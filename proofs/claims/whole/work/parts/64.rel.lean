/-! The whole relation of class and reference between two calls -/
section JJ
variable {M K K' s r i n m k a b : Nat} {σ τ σ' σ'' : mS} {C D N N' C' O W P Q : Nat → Int32} {o : mO} {v w : Int32} {l : List Int64}
theorem IV.cong (h : IV M K N) (e : ∀ k, k < 1432 → N' k = N k) : IV M K N' := by
  obtain ⟨h1, h2, h3, h4, h5, h6, h7⟩ := h
  have hM := h1.2.1
  refine ⟨h1.mono fun k hk => e k (by omega), h2.mono hM fun k _ _ => e k (by omega), h3.mono hM (fun k _ _ => e k (by omega)) (fun k _ _ => e k (by omega)), fun s hs => (h4 s hs).mono hs hM (fun k _ _ => e k (by omega)) (fun k _ _ _ _ => e k (by omega)) (fun k _ _ => e k (by omega)) (fun k _ => e _ (by omega)), h5.mono hM (fun k _ _ => e k (by omega)) (fun k _ _ => e k (by omega)), h6.mono hM (e _ (by omega)) (fun k _ _ => e k (by omega)) (fun s t hs ht => e _ (by omega)), ?_⟩
  obtain ⟨t, t1, t2, t3, t4, t5⟩ := h7
  refine ⟨t, t1, t2, (e _ (by omega)).trans t3, (e _ (by omega)).trans t4, fun s hs => ?_⟩
  obtain ⟨u, u1, u2⟩ := t5 s hs
  exact ⟨u, u1, (e _ (by omega)).trans u2⟩
theorem IV.le (h : IV M K N) (hk : K ≤ K') (h24 : K' < 2 ^ 24) : IV M K' N := by
  obtain ⟨h1, h2, h3, h4, h5, h6, t, t1, t2, t3⟩ := h
  exact ⟨h1, h2, h3, h4, h5, h6, t, by omega, h24, t3⟩
theorem Rl.congN (h : Rl M C N P Q) (hM : M ≤ 6) (e : ∀ k, k < 1432 → N' k = N k) : Rl M C N' P Q :=
  ⟨h.1.mono fun k hk => Or.inr ⟨rfl, e k (by have := pd_where hk; omega)⟩, h.2.1.mono hM (fun _ _ => rfl) (fun k _ _ => e k (by omega)), h.2.2.1.mono hM (fun _ _ _ => rfl) (fun k _ _ => e k (by omega)), h.2.2.2.1.mono hM (fun _ _ _ => rfl) (fun k _ _ => e k (by omega)), h.2.2.2.2⟩
/-- where the class's row matters -/
def needC (M k : Nat) : Prop := PD M k ∨ (∃ s, s < M ∧ (k = 1436 + s ∨ k = 135 + s ∨ k = 141 + s ∨ (171 + 160 * s ≤ k ∧ k < 171 + 160 * s + 160) ∨ (1179 + 16 * s ≤ k ∧ k < 1179 + 16 * s + 12) ∨ k = 1179 + 16 * s + 15))
theorem Rl.congC (h : Rl M C N P Q) (hM : M ≤ 6) (e : ∀ k, needC M k → C' k = C k) : Rl M C' N P Q := by
  obtain ⟨h1, h2, h3, h4, h5⟩ := h
  refine ⟨fun k hk => (e k (Or.inl hk)).trans (h1 k hk), fun s hs => (e _ (Or.inr ⟨s, hs, by omega⟩)).trans (h2 s hs), fun s r n j hs hr hn hN hj => (e _ (Or.inr ⟨s, hs, by omega⟩)).trans (h3 s r n j hs hr hn hN hj), fun s hs => ?_, fun s hs => ?_⟩
  · have ex : ∀ k, k < 12 ∨ k = 15 → C' (1179 + 16 * s + k) = C (1179 + 16 * s + k) := fun k hk => e _ (Or.inr ⟨s, hs, by omega⟩)
    have ex0 : C' (1179 + 16 * s) = C (1179 + 16 * s) := ex 0 (by omega)
    obtain ⟨a0, a1⟩ := h4 s hs
    refine ⟨ex0.trans a0, fun hon => ?_⟩
    obtain ⟨e1, e2, e3, e4, e5, e6, e7, e8, e9, e10, e11, e12⟩ := a1 hon
    rw [ex 1 (by omega), ex 2 (by omega), ex 3 (by omega), ex 4 (by omega), ex 5 (by omega), ex 6 (by omega), ex 7 (by omega), ex 8 (by omega), ex 9 (by omega), ex 10 (by omega), ex 11 (by omega), ex 15 (by omega)]
    exact ⟨e1, e2, e3, e4, e5, e6, e7, e8, e9, e10, e11, e12⟩
  · rw [e (135 + s) (Or.inr ⟨s, hs, by omega⟩), e (141 + s) (Or.inr ⟨s, hs, by omega⟩)]
    exact h5 s hs
/-- an air of the class and a row of the reference -/
def PR (K : Nat) (C N : Nat → Int32) : Prop := ∃ M, IV M K N ∧ Rl M C N (dO N) (dW N)
theorem PR.congN (h : PR K C N) (e : ∀ k, k < 1432 → N' k = N k) : PR K C N' := by
  obtain ⟨M, h1, h2⟩ := h
  have hM := h1.1.2.1
  exact ⟨M, h1.cong e, (h2.congN hM e).pq fun z hz => ⟨e _ (by omega), e _ (by omega)⟩⟩
theorem PR.le (h : PR K C N) (hk : K ≤ K') (h24 : K' < 2 ^ 24) : PR K' C N := by
  obtain ⟨M, h1, h2⟩ := h
  exact ⟨M, h1.le hk h24, h2⟩
def JA (K : Nat) (σ : mS) : Prop := ∃ C, Hd 0 σ C ∧ PR K C (σ.1 (30, 0, 0, 0))
def JU (K : Nat) (σ : mS) : Prop := ∃ sz la, sz ≤ 6 ∧ la < 6 ∧ σ.1 (5, 0, 0, 0) 1 = nI sz ∧ σ.1 (5, 0, 0, 0) 2 = nI la ∧ σ.1 (10, 0, 0, 0) 17 = nI sz ∧ ∀ i, i < sz → ∃ C, Hd (4 + (la + 6 - i) % 6) σ C ∧ PR K C (fun k => σ.1 (38, 0, 0, 0) (1432 * (sz - 1 - i) + k))
def JK (K : Nat) (σ : mS) : Prop := ∀ i, i < 2 → (σ.1 (22, 0, 0, 0) i = nI 0 ∧ σ.1 (41, 0, 0, 0) i = nI 0) ∨ (σ.1 (22, 0, 0, 0) i = nI 1 ∧ σ.1 (41, 0, 0, 0) i = nI 1 ∧ ∃ C, Hd (2 + i) σ C ∧ PR K C (fun k => σ.1 (40, 0, 0, 0) (1432 * i + k)))
def JT (σ : mS) : Prop := ∃ n, n ≤ 80 ∧ σ.1 (7, 0, 0, 0) 1 = nI n ∧ σ.1 (10, 0, 0, 0) 2 = nI n ∧ ∀ k, k < n → ∃ u, u < 256 ∧ σ.1 (23, 0, 0, 0) k = nI u ∧ σ.1 (31, 0, 0, 0) k = (nI u).toInt8.toInt32
def JN (σ : mS) : Prop := ∃ n, n ≤ 16 ∧ σ.1 (4, 0, 0, 0) 1 = nI n ∧ σ.1 (10, 0, 0, 0) 4 = nI n ∧ ∀ k, k < n → σ.2 (24, 0, 0, 0) k = σ.2 (32, 0, 0, 0) k
def J (K : Nat) (σ : mS) : Prop := JA K σ ∧ JU K σ ∧ JK K σ ∧ JT σ ∧ JN σ ∧ Bo σ
/-- what no later call looks at -/
def Scr (o : mO) : Prop := o.1 = 4 ∨ o.1 = 10 ∨ o.1 = 24 ∨ o.1 = 25 ∨ (32 ≤ o.1 ∧ o.1 ≤ 37) ∨ o.1 = 39 ∨ (aK o.1 ∧ (o.2.1 = 1 ∨ o.2.1 = 10))
def Sm (σ σ' : mS) : Prop := (∀ o, ¬ Scr o → σ'.1 o = σ.1 o) ∧ σ'.1 (10, 0, 0, 0) 2 = σ.1 (10, 0, 0, 0) 2 ∧ σ'.1 (10, 0, 0, 0) 17 = σ.1 (10, 0, 0, 0) 17
theorem Sm.rf : Sm σ σ := ⟨fun _ _ => rfl, rfl, rfl⟩
theorem Sm.tr (h1 : Sm σ σ') (h2 : Sm σ' σ'') : Sm σ σ'' := ⟨fun o ho => (h2.1 o ho).trans (h1.1 o ho), h2.2.1.trans h1.2.1, h2.2.2.trans h1.2.2⟩
theorem Sm.cT : Sm σ (tC σ l) := by
  refine ⟨fun o ho => tC_same fun e => ho (Or.inl e), ?_, ?_⟩ <;> rw [tC_same (by decide)]
theorem Sm.mT : Sm σ (tM σ l) := ⟨fun o ho => tM_same fun e => ho (Or.inr (Or.inl e)), tM_10 (by decide), tM_10 (by decide)⟩
theorem Sm.s10 (h1 : i ≠ 2) (h2 : i ≠ 17) : Sm σ (st σ (10, 0, 0, 0) i v) := by
  refine ⟨fun o ho => st_ne fun e => ho (by rw [e]; exact Or.inr (Or.inl rfl)), ?_, ?_⟩
  · rw [st_self]; exact upd_n (fun e => h1 e.symm)
  · rw [st_self]; exact upd_n (fun e => h2 e.symm)
theorem Sm.so (h1 : Scr o) (h2 : o ≠ (10, 0, 0, 0)) : Sm σ (st σ o i v) := by
  refine ⟨fun o' ho => st_ne fun e => ho (by rw [e]; exact h1), ?_, ?_⟩ <;> rw [st_ne (fun e => h2 e.symm)]
theorem Sm.w1 : Sm σ (wC 1 σ C) := by
  refine ⟨fun o ho => wC_same fun e => ho (Or.inr (Or.inr (Or.inr (Or.inr (Or.inr (Or.inr ⟨e.1, Or.inl e.2⟩)))))), ?_, ?_⟩ <;> rw [wC_same (by unfold aK; decide)]
/-- from the same store but for what is told -/
theorem J.sm (h : J K σ) (hs : Sm σ σ') (hn : JN σ') (hb : Bo σ') (hK : K ≤ K') (h24 : K' < 2 ^ 24) : J K' σ' := by
  obtain ⟨⟨C, a1, a2⟩, ⟨sz, la, u1, u2, u3, u4, u5, u6⟩, hk, ⟨tn, t1, t2, t3, t4⟩, -, -⟩ := h
  obtain ⟨s1, s2, s3⟩ := hs
  have hd : ∀ {a C}, a ≠ 1 → a ≠ 10 → Hd a σ C → Hd a σ' C := fun g1 g2 h => h.mono fun o ho hk => s1 o (by unfold Scr; unfold aK at hk ⊢; omega)
  have o30 : σ'.1 (30, 0, 0, 0) = σ.1 (30, 0, 0, 0) := s1 _ (by unfold Scr aK; decide)
  have o38 : σ'.1 (38, 0, 0, 0) = σ.1 (38, 0, 0, 0) := s1 _ (by unfold Scr aK; decide)
  have o40 : σ'.1 (40, 0, 0, 0) = σ.1 (40, 0, 0, 0) := s1 _ (by unfold Scr aK; decide)
  have o5 : σ'.1 (5, 0, 0, 0) = σ.1 (5, 0, 0, 0) := s1 _ (by unfold Scr aK; decide)
  have o7 : σ'.1 (7, 0, 0, 0) = σ.1 (7, 0, 0, 0) := s1 _ (by unfold Scr aK; decide)
  have o22 : σ'.1 (22, 0, 0, 0) = σ.1 (22, 0, 0, 0) := s1 _ (by unfold Scr aK; decide)
  have o23 : σ'.1 (23, 0, 0, 0) = σ.1 (23, 0, 0, 0) := s1 _ (by unfold Scr aK; decide)
  have o31 : σ'.1 (31, 0, 0, 0) = σ.1 (31, 0, 0, 0) := s1 _ (by unfold Scr aK; decide)
  have o41 : σ'.1 (41, 0, 0, 0) = σ.1 (41, 0, 0, 0) := s1 _ (by unfold Scr aK; decide)
  refine ⟨⟨C, hd (by decide) (by decide) a1, ?_⟩, ⟨sz, la, u1, u2, ?_, ?_, ?_, fun i hi => ?_⟩, fun i hi => ?_, ⟨tn, t1, ?_, ?_, fun k hk => ?_⟩, hn, hb⟩
  · rw [o30]; exact a2.le hK h24
  · rw [o5]; exact u3
  · rw [o5]; exact u4
  · rw [s3]; exact u5
  · obtain ⟨C, c1, c2⟩ := u6 i hi
    refine ⟨C, hd (by omega) (by omega) c1, ?_⟩
    rw [o38]; exact c2.le hK h24
  · rw [o22, o41]
    rcases hk i hi with c | ⟨c1, c2, C, c3, c4⟩
    · exact Or.inl c
    · refine Or.inr ⟨c1, c2, C, hd (by omega) (by omega) c3, ?_⟩
      rw [o40]; exact c4.le hK h24
  · rw [o7]; exact t2
  · rw [s2]; exact t3
  · rw [o23, o31]; exact t4 k hk
theorem JN.same (h : JN σ) (e1 : σ'.1 (4, 0, 0, 0) 1 = σ.1 (4, 0, 0, 0) 1) (e2 : σ'.1 (10, 0, 0, 0) 4 = σ.1 (10, 0, 0, 0) 4) (e3 : σ'.2 (24, 0, 0, 0) = σ.2 (24, 0, 0, 0)) (e4 : σ'.2 (32, 0, 0, 0) = σ.2 (32, 0, 0, 0)) : JN σ' := by
  obtain ⟨n, h1, h2, h3, h4⟩ := h
  exact ⟨n, h1, e1.trans h2, e2.trans h3, by rw [e3, e4]; exact h4⟩
theorem JN.told (hl : l.length ≤ 16) (e1 : σ.1 (4, 0, 0, 0) 1 = nI l.length) (e2 : ∀ k, k < l.length → l[k]? = some (σ.2 (24, 0, 0, 0) k)) : JN (tM σ l) := by
  refine ⟨l.length, hl, ?_, ?_, fun k hk => ?_⟩
  · rw [tM_same (by decide)]; exact e1
  · exact tM_len
  · show σ.2 (24, 0, 0, 0) k = (l[k]?).getD (σ.2 (32, 0, 0, 0) k)
    rw [e2 k hk]
    rfl
theorem tC_at (h : k < l.length) : l[k]? = some ((tC σ l).2 (24, 0, 0, 0) k) := by
  show l[k]? = some ((l[k]?).getD (σ.2 (24, 0, 0, 0) k))
  rw [List.getElem?_eq_getElem h]
  rfl
theorem JN.both (hl : l.length ≤ 16) (f : Nat) (hf : f ≠ 4) : JN (tM (st (tC σ l) (10, 0, 0, 0) f v) l) := by
  refine JN.told hl ?_ (fun k hk => ?_)
  · rw [st_ne (by decide)]; exact tC_len
  · rw [st_2]; exact tC_at hk
end JJ

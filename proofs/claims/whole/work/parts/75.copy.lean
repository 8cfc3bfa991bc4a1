/-! Rows copied; slots over and over -/
section CP
variable {M K K' s z r i n m k a b x t h w lo sz la : Nat} {σ τ σ' σ'' σ1 σ2 : mS} {A C D N N' C' O W P Q U F G : Nat → Int32} {o o' : mO} {v p p1 p2 : Int32} {S S' : mO → Prop} {l : List Int64}
/-- a whole row is another -/
def sF (σ : mS) (o : mO) (f : Nat → Int32) : mS := (fun o' i => if o' = o then f i else σ.1 o' i, σ.2)
theorem sF_at : (sF σ o F).1 o = F := by
  funext i
  exact if_pos rfl
theorem sF_ne (h : o' ≠ o) : (sF σ o F).1 o' = σ.1 o' := by
  funext i
  exact if_neg h
theorem sF_self : sF σ o (σ.1 o) = σ := by
  refine Prod.ext ?_ rfl
  funext o' i
  show (if o' = o then σ.1 o i else σ.1 o' i) = σ.1 o' i
  by_cases h : o' = o
  · rw [if_pos h, h]
  · rw [if_neg h]
theorem sF_st : st (sF σ o F) o i v = sF σ o (upd F i v) := by
  refine Prod.ext ?_ rfl
  funext o' j
  show (if o' = o ∧ j = i then v else (if o' = o then F j else σ.1 o' j)) = (if o' = o then (if j = i then v else F j) else σ.1 o' j)
  by_cases h : o' = o
  · rw [if_pos h, if_pos h]
    by_cases h2 : j = i
    · rw [if_pos ⟨h, h2⟩, if_pos h2]
    · rw [if_neg (fun e => h2 e.2), if_neg h2]
  · rw [if_neg h, if_neg (fun e => h e.1), if_neg h]
def cpl (F G : Nat → Int32) (n : Nat) : Nat → Int32 := fun k => if k < n then F k else G k
theorem cpl_0 : cpl F G 0 = G := by
  funext k
  exact if_neg (by omega)
theorem cpl_s : upd (cpl F G n) n (F n) = cpl F G (n + 1) := by
  funext k
  unfold upd cpl
  by_cases h : k = n
  · rw [if_pos h, if_pos (by omega), h]
  · rw [if_neg h]
    by_cases h2 : k < n
    · rw [if_pos h2, if_pos (by omega)]
    · rw [if_neg h2, if_neg (by omega)]
theorem cpl_lt (h : k < n) : cpl F G n k = F k := if_pos h
/-- what is left alone -/
def Fr (S : mO → Prop) (σ σ' : mS) : Prop := ∀ o, ¬ S o → σ'.1 o = σ.1 o
theorem Fr.rf : Fr S σ σ := fun _ _ => rfl
theorem Fr.tr (h1 : Fr S σ σ') (h2 : Fr S σ' σ'') : Fr S σ σ'' := fun o ho => (h2 o ho).trans (h1 o ho)
theorem Fr.s1 (h : S o) : Fr S σ (st σ o i v) := fun o' ho => st_ne fun e => ho (e ▸ h)
theorem Fr.sf (h : S o) : Fr S σ (sF σ o F) := fun o' ho => sF_ne fun e => ho (e ▸ h)
theorem Fr.wc (h : ∀ o : mO, aK o.1 → o.2.1 = a → S o) : Fr S σ (wC a σ C) := fun o ho => wC_same fun e => ho (h o e.1 e.2)
theorem Fr.tc (h : S (4, 0, 0, 0)) : Fr S σ (tC σ l) := fun o ho => by
  have hn : o ≠ (4, 0, 0, 0) := fun e => ho (by rw [e]; exact h)
  funext i
  show (if o = (4, 0, 0, 0) ∧ i = 1 then nI l.length else σ.1 o i) = σ.1 o i
  exact if_neg (fun q => hn q.1)
theorem Fr.tm (h : S (10, 0, 0, 0)) : Fr S σ (tM σ l) := fun o ho => by
  have hn : o ≠ (10, 0, 0, 0) := fun e => ho (by rw [e]; exact h)
  funext i
  show (if o = (10, 0, 0, 0) ∧ i = 4 then nI l.length else σ.1 o i) = σ.1 o i
  exact if_neg (fun q => hn q.1)
theorem Fr.wm {bb : Int32} (h : S (30, 0, 0, 0) ∧ S (34, 0, 0, 0) ∧ S (35, 0, 0, 0) ∧ S (10, 0, 0, 0)) : Fr S σ (wM σ N O W bb) := fun o ho => by
  have h1 : o ≠ (30, 0, 0, 0) := fun e => ho (by rw [e]; exact h.1)
  have h2 : o ≠ (34, 0, 0, 0) := fun e => ho (by rw [e]; exact h.2.1)
  have h3 : o ≠ (35, 0, 0, 0) := fun e => ho (by rw [e]; exact h.2.2.1)
  have h4 : o ≠ (10, 0, 0, 0) := fun e => ho (by rw [e]; exact h.2.2.2)
  funext i
  simp only [wM]
  rw [if_neg h1, if_neg h2, if_neg h3, if_neg (fun q => h4 q.1)]
/-- what the class's calls, and the reference's, may change -/
def BC (o : mO) : Prop := o.1 = 5 ∨ o.1 = 4 ∨ o.1 = 7 ∨ o.1 = 25 ∨ (aK o.1 ∧ (o.2.1 < 2 ∨ 4 ≤ o.2.1))
def BM (o : mO) : Prop := o.1 = 10 ∨ o.1 = 30 ∨ (32 ≤ o.1 ∧ o.1 ≤ 39)
/-- laid aside, and back -/
theorem m_lay_from : ∀ d i, i + d = 1432 → b_X10_layAside_2 (nI i) (sF σ (36, 0, 0, 0) (cpl (σ.1 (30, 0, 0, 0)) (σ.1 (36, 0, 0, 0)) i)) = some (some none, sF σ (36, 0, 0, 0) (cpl (σ.1 (30, 0, 0, 0)) (σ.1 (36, 0, 0, 0)) 1432))
  | 0, i, hi => by
    rw [show i = 1432 from by omega, q_X10_layAside_2, if_neg (by decide)]
  | d + 1, i, hi => by
    rw [q_X10_layAside_2, if_pos (nI_lt (by omega) (by omega)), if_neg (nI_in (by omega) (by omega)), if_neg (nI_in (by omega) (by omega)), nI_clamp (by omega), sF_ne (o' := (30, 0, 0, 0)) (by decide), sF_st, cpl_s, nI_1]
    exact m_lay_from d (i + 1) (by omega)
theorem m_lay : e_X10_layAside σ = some (some none, sF σ (36, 0, 0, 0) (cpl (σ.1 (30, 0, 0, 0)) (σ.1 (36, 0, 0, 0)) 1432)) := by
  have h := m_lay_from (σ := σ) 1432 0 (by omega)
  rw [cpl_0, sF_self] at h
  rw [q_X10_layAside]
  exact h
theorem m_back_from : ∀ d i, i + d = 1432 → b_X10_comesBack_2 (nI i) (sF σ (30, 0, 0, 0) (cpl (σ.1 (36, 0, 0, 0)) (σ.1 (30, 0, 0, 0)) i)) = some (some none, sF σ (30, 0, 0, 0) (cpl (σ.1 (36, 0, 0, 0)) (σ.1 (30, 0, 0, 0)) 1432))
  | 0, i, hi => by
    rw [show i = 1432 from by omega, q_X10_comesBack_2, if_neg (by decide)]
  | d + 1, i, hi => by
    rw [q_X10_comesBack_2, if_pos (nI_lt (by omega) (by omega)), if_neg (nI_in (by omega) (by omega)), if_neg (nI_in (by omega) (by omega)), nI_clamp (by omega), sF_ne (o' := (36, 0, 0, 0)) (by decide), sF_st, cpl_s, nI_1]
    exact m_back_from d (i + 1) (by omega)
theorem m_back : e_X10_comesBack σ = some (some none, sF σ (30, 0, 0, 0) (cpl (σ.1 (36, 0, 0, 0)) (σ.1 (30, 0, 0, 0)) 1432)) := by
  have h := m_back_from (σ := σ) 1432 0 (by omega)
  rw [cpl_0, sF_self] at h
  rw [q_X10_comesBack]
  exact h
/-- the undo rows: the class's half, the reference's half -/
def UC (σ : mS) (sz la : Nat) (E : Nat → Nat → Int32) : Prop := sz ≤ 6 ∧ la < 6 ∧ σ.1 (5, 0, 0, 0) 1 = nI sz ∧ σ.1 (5, 0, 0, 0) 2 = nI la ∧ ∀ i, i < sz → Hd (4 + (la + 6 - i) % 6) σ (E i)
def UM (σ : mS) (sz : Nat) (E : Nat → Nat → Int32) : Prop := sz ≤ 6 ∧ σ.1 (10, 0, 0, 0) 17 = nI sz ∧ ∀ i, i < sz → ∀ k, k < 1432 → σ.1 (38, 0, 0, 0) (1432 * (sz - 1 - i) + k) = E i k
theorem ju_get (h : JU K σ) : ∃ sz la E E', UC σ sz la E ∧ UM σ sz E' ∧ ∀ i, i < sz → PR K (E i) (E' i) := by
  obtain ⟨sz, la, u1, u2, u3, u4, u5, u6⟩ := h
  have hx : ∀ i, ∃ C, i < sz → (Hd (4 + (la + 6 - i) % 6) σ C ∧ PR K C (fun k => σ.1 (38, 0, 0, 0) (1432 * (sz - 1 - i) + k))) := fun i => by
    by_cases hi : i < sz
    · obtain ⟨C, h1⟩ := u6 i hi
      exact ⟨C, fun _ => h1⟩
    · exact ⟨fun _ => 0, fun q => absurd q hi⟩
  refine ⟨sz, la, fun i => Classical.choose (hx i), fun i k => σ.1 (38, 0, 0, 0) (1432 * (sz - 1 - i) + k), ⟨u1, u2, u3, u4, fun i hi => ((Classical.choose_spec (hx i)) hi).1⟩, ⟨u1, u5, fun _ _ _ _ => rfl⟩, fun i hi => ((Classical.choose_spec (hx i)) hi).2⟩
theorem ju_mk {E E' : Nat → Nat → Int32} (h1 : UC σ sz la E) (h2 : UM σ sz E') (h3 : ∀ i, i < sz → PR K (E i) (E' i)) : JU K σ :=
  ⟨sz, la, h1.1, h1.2.1, h1.2.2.1, h1.2.2.2.1, h2.2.1, fun i hi => ⟨E i, h1.2.2.2.2 i hi, (h3 i hi).congN fun k hk => h2.2.2 i hi k hk⟩⟩
def nx (sz : Nat) : Nat := if sz < 6 then sz + 1 else 6
def nl (la : Nat) : Nat := if la + 1 < 6 then la + 1 else 0
def cons0 (C : Nat → Int32) (E : Nat → Nat → Int32) : Nat → Nat → Int32 := fun i => match i with | 0 => C | i + 1 => E i
theorem nl_i (hla : la < 6) (hi : i + 1 ≤ 5) : (nl la + 6 - (i + 1)) % 6 = (la + 6 - i) % 6 := by
  unfold nl
  split <;> omega
/-- the class keeps an air for undo -/
theorem c_push {E : Nat → Nat → Int32} (hU : UC σ sz la E) (hd : Hd a σ C) (ha : a < 2) (hB : Bo σ) (hM : M ≤ 6) (h0 : C 0 = nI M) : ∃ σp C', e_X5_push a σ = some (some none, σp) ∧ UC σp (nx sz) (nl la) (cons0 C' E) ∧ (∀ m, needC M m → C' m = C m) ∧ (∀ o : mO, o ≠ (5, 0, 0, 0) → ¬ (aK o.1 ∧ 4 ≤ o.2.1) → σp.1 o = σ.1 o) ∧ σp.2 = σ.2 := by
  obtain ⟨u1, u2, u3, u4, u5⟩ := hU
  have main : ∀ L, L = nl la → ∃ C', (∃ σp, bdV (e_X0_become (4 + L) a (st σ (5, 0, 0, 0) 2 (nI L))) (fun σ2 => if σ2.1 (5, 0, 0, 0) 1 < nI 6 then some (some none, st σ2 (5, 0, 0, 0) 1 (σ2.1 (5, 0, 0, 0) 1 + nI 1)) else some (some none, σ2)) = some (some none, σp) ∧ UC σp (nx sz) L (cons0 C' E) ∧ (∀ m, needC M m → C' m = C m) ∧ (∀ o : mO, o ≠ (5, 0, 0, 0) → ¬ (aK o.1 ∧ 4 ≤ o.2.1) → σp.1 o = σ.1 o) ∧ σp.2 = σ.2) := by
    intro L hL
    have hL6 : L < 6 := by rw [hL]; unfold nl; split <;> omega
    have hd1 : Hd a (st σ (5, 0, 0, 0) 2 (nI L)) C := hd.mono fun o _ hk => st_ne fun e => by rw [e] at hk; unfold aK at hk; omega
    have hB1 : Bo (st σ (5, 0, 0, 0) 2 (nI L)) := (Gn.s1 (by decide) (fun hb => absurd hb (by decide))).2 hB
    obtain ⟨C', c1, c2⟩ := c_become (b := 4 + L) hd1 (by omega) hB1 hM h0
    have e1 : ((wC (4 + L) (st σ (5, 0, 0, 0) 2 (nI L)) C').1 (5, 0, 0, 0)) = upd (σ.1 (5, 0, 0, 0)) 2 (nI L) := by
      rw [wC_same (by unfold aK; omega), st_self]
    have e2 : ((wC (4 + L) (st σ (5, 0, 0, 0) 2 (nI L)) C').1 (5, 0, 0, 0)) 1 = nI sz := by rw [e1, upd_n (by decide)]; exact u3
    refine ⟨C', ?_⟩
    rw [c1]
    dsimp only [bdV]
    rw [e2]
    have fr : ∀ o : mO, o ≠ (5, 0, 0, 0) → ¬ (aK o.1 ∧ 4 ≤ o.2.1) → (wC (4 + L) (st σ (5, 0, 0, 0) 2 (nI L)) C').1 o = σ.1 o := fun o g1 g2 => by
      rw [wC_same (fun e => g2 ⟨e.1, by omega⟩), st_ne g1]
    have hnew : Hd (4 + L) (wC (4 + L) (st σ (5, 0, 0, 0) 2 (nI L)) C') C' := Hd.mk'
    have hold : ∀ i, i < sz → i + 1 ≤ 5 → Hd (4 + (L + 6 - (i + 1)) % 6) (wC (4 + L) (st σ (5, 0, 0, 0) 2 (nI L)) C') (E i) := fun i hi h5 => by
      have hx := u5 i hi
      rw [← nl_i u2 h5, ← hL] at hx
      refine Hd.oth (hx.mono fun o _ hk => st_ne fun e => by rw [e] at hk; unfold aK at hk; omega) (by omega)
    by_cases h6 : sz < 6
    · rw [if_pos (nI_lt h6 (by omega)), nI_add]
      have hk5 : ∀ {b D}, Hd b (wC (4 + L) (st σ (5, 0, 0, 0) 2 (nI L)) C') D → Hd b (st (wC (4 + L) (st σ (5, 0, 0, 0) 2 (nI L)) C') (5, 0, 0, 0) 1 (nI (sz + 1))) D := fun h => h.mono fun o _ hk => st_ne fun e => by rw [e] at hk; unfold aK at hk; omega
      refine ⟨_, rfl, ⟨?_, hL6, ?_, ?_, fun i hi => ?_⟩, c2, fun o g1 g2 => ?_, rfl⟩
      · unfold nx; split <;> omega
      · rw [st_self, upd_s]; unfold nx; rw [if_pos h6]
      · rw [st_self, upd_n (by decide), e1]; exact upd_s
      · unfold nx at hi
        rw [if_pos h6] at hi
        cases i with
        | zero =>
          rw [show (L + 6 - 0) % 6 = L from by omega]
          exact hk5 hnew
        | succ i => exact hk5 (hold i (by omega) (by omega))
      · rw [st_ne g1]; exact fr o g1 g2
    · rw [if_neg (nI_nlt (by omega) (by omega))]
      refine ⟨_, rfl, ⟨?_, hL6, ?_, ?_, fun i hi => ?_⟩, c2, fr, rfl⟩
      · unfold nx; split <;> omega
      · rw [e2]; unfold nx; rw [if_neg h6, show sz = 6 from by omega]
      · rw [e1]; exact upd_s
      · unfold nx at hi
        rw [if_neg h6] at hi
        cases i with
        | zero =>
          rw [show (L + 6 - 0) % 6 = L from by omega]
          exact hnew
        | succ i => exact hold i (by omega) (by omega)
  by_cases h5 : la + 1 < 6
  · obtain ⟨C', σp, m1, m2, m3, m4, m5⟩ := main (la + 1) (by unfold nl; rw [if_pos h5])
    refine ⟨σp, C', ?_, by rw [show nl la = la + 1 from if_pos h5]; exact m2, m3, m4, m5⟩
    rw [q_X5_push, u4, nI_add, if_pos (nI_lt h5 (by omega))]
    dsimp only
    rw [st_self, upd_s, if_neg (nI_in h5 (by omega)), nI_clamp (by omega)]
    exact m1
  · obtain ⟨C', σp, m1, m2, m3, m4, m5⟩ := main 0 (by unfold nl; rw [if_neg h5])
    refine ⟨σp, C', ?_, by rw [show nl la = 0 from if_neg h5]; exact m2, m3, m4, m5⟩
    rw [q_X5_push, u4, nI_add, if_neg (nI_nlt (by omega) (by omega))]
    dsimp only
    rw [st_self, upd_s, if_neg (nI_in (by omega) (by omega)), nI_clamp (by omega)]
    exact m1
end CP

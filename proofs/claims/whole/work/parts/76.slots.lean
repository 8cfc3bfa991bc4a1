/-! The reference keeps for undo; slots over and over -/
section CQ
variable {M K K' s z r i n m k a b x t h w lo sz la u : Nat} {σ τ σ' σ'' σ1 σ2 : mS} {A C D N N' C' O W P Q U F G : Nat → Int32} {o o' : mO} {v p p1 p2 : Int32} {S S' : mO → Prop} {l : List Int64}
def shf (U : Nat → Int32) (i : Nat) : Nat → Int32 := fun k => if k < i then U (k + 1432) else U k
theorem shf_0 : shf U 0 = U := by
  funext k
  exact if_neg (by omega)
theorem shf_s : upd (shf U i) i (shf U i (i + 1432)) = shf U (i + 1) := by
  funext k
  unfold upd shf
  by_cases h : k = i
  · rw [if_pos h, if_neg (by omega), if_pos (by omega), h]
  · rw [if_neg h]
    by_cases h2 : k < i
    · rw [if_pos h2, if_pos (by omega)]
    · rw [if_neg h2, if_neg (by omega)]
theorem m_sh_from : ∀ d i, i + d = 7160 → b_X10_note_11 (nI i) (sF σ (38, 0, 0, 0) (shf U i)) = b_X10_note_11 (nI 7160) (sF σ (38, 0, 0, 0) (shf U 7160))
  | 0, i, hi => by rw [show i = 7160 from by omega]
  | d + 1, i, hi => by
    rw [q_X10_note_11, if_pos (nI_lt (by omega) (by omega)), nI_add, if_neg (nI_in (by omega) (by omega)), if_neg (nI_in (by omega) (by omega)), nI_clamp (n := i) (by omega), nI_clamp (by omega), sF_at, sF_st, shf_s, nI_1]
    exact m_sh_from d (i + 1) (by omega)
/-- a row comes into the undo rows -/
def inU (U F : Nat → Int32) (u i : Nat) : Nat → Int32 := fun k => if 1432 * u ≤ k ∧ k < 1432 * u + i then F (k - 1432 * u) else U k
theorem inU_0 : inU U F u 0 = U := by
  funext k
  exact if_neg (by omega)
theorem inU_s : upd (inU U F u i) (1432 * u + i) (F i) = inU U F u (i + 1) := by
  funext k
  unfold upd inU
  by_cases h : k = 1432 * u + i
  · rw [if_pos h, if_pos (by omega), h, Nat.add_sub_cancel_left]
  · rw [if_neg h]
    by_cases h2 : 1432 * u ≤ k ∧ k < 1432 * u + i
    · rw [if_pos h2, if_pos (by omega)]
    · rw [if_neg h2, if_neg (by omega)]
theorem m_in_from (hu : u < 6) (h17 : σ.1 (10, 0, 0, 0) 17 = nI u) (hF : σ.1 (39, 0, 0, 0) = F) : ∀ d i, i + d = 1432 → b_X10_note_52 (nI i) (sF σ (38, 0, 0, 0) (inU U F u i)) = some (some none, st (sF σ (38, 0, 0, 0) (inU U F u 1432)) (10, 0, 0, 0) 17 (nI (u + 1)))
  | 0, i, hi => by
    rw [show i = 1432 from by omega, q_X10_note_52, if_neg (by decide)]
    dsimp only
    rw [sF_ne (o' := (10, 0, 0, 0)) (by decide), h17, nI_add]
  | d + 1, i, hi => by
    rw [q_X10_note_52, if_pos (nI_lt (by omega) (by omega)), sF_ne (o' := (10, 0, 0, 0)) (by decide), sF_ne (o' := (39, 0, 0, 0)) (by decide), h17, hF, pk_mul, nI_add, if_neg (nI_in (by omega) (by omega)), if_neg (nI_in (by omega) (by omega)), nI_clamp (n := i) (by omega), nI_clamp (by omega), sF_st, inU_s, nI_1]
    exact m_in_from hu h17 hF d (i + 1) (by omega)
theorem m_was_from : ∀ d i, i + d = 1432 → b_X10_change_2 (nI i) (sF σ (39, 0, 0, 0) (cpl (σ.1 (30, 0, 0, 0)) (σ.1 (39, 0, 0, 0)) i)) = b_X10_change_2 (nI 1432) (sF σ (39, 0, 0, 0) (cpl (σ.1 (30, 0, 0, 0)) (σ.1 (39, 0, 0, 0)) 1432))
  | 0, i, hi => by rw [show i = 1432 from by omega]
  | d + 1, i, hi => by
    rw [q_X10_change_2, if_pos (nI_lt (by omega) (by omega)), if_neg (nI_in (by omega) (by omega)), if_neg (nI_in (by omega) (by omega)), nI_clamp (by omega), sF_ne (o' := (30, 0, 0, 0)) (by decide), sF_st, cpl_s, nI_1]
    exact m_was_from d (i + 1) (by omega)
/-- note(): what was becomes the latest row -/
theorem m_note {E : Nat → Nat → Int32} (hU : UM σ sz E) : ∃ σm, e_X10_note σ = some (some none, σm) ∧ UM σm (nx sz) (cons0 (σ.1 (39, 0, 0, 0)) E) ∧ (∀ o : mO, o ≠ (10, 0, 0, 0) → o ≠ (38, 0, 0, 0) → σm.1 o = σ.1 o) ∧ (∀ f, f ≠ 17 → σm.1 (10, 0, 0, 0) f = σ.1 (10, 0, 0, 0) f) ∧ σm.2 = σ.2 := by
  obtain ⟨u1, u2, u3⟩ := hU
  by_cases h6 : sz = 6
  · subst h6
    have e1 := m_sh_from (σ := σ) (U := σ.1 (38, 0, 0, 0)) 7160 0 (by omega)
    rw [shf_0, sF_self] at e1
    have e2 := m_in_from (σ := st (sF σ (38, 0, 0, 0) (shf (σ.1 (38, 0, 0, 0)) 7160)) (10, 0, 0, 0) 17 (nI 5)) (u := 5) (U := shf (σ.1 (38, 0, 0, 0)) 7160) (F := σ.1 (39, 0, 0, 0)) (by omega) (by rw [st_self]; exact upd_s) (by rw [st_ne (by decide), sF_ne (by decide)]) 1432 0 (by omega)
    rw [inU_0] at e2
    have e3 : sF (st (sF σ (38, 0, 0, 0) (shf (σ.1 (38, 0, 0, 0)) 7160)) (10, 0, 0, 0) 17 (nI 5)) (38, 0, 0, 0) (shf (σ.1 (38, 0, 0, 0)) 7160) = st (sF σ (38, 0, 0, 0) (shf (σ.1 (38, 0, 0, 0)) 7160)) (10, 0, 0, 0) 17 (nI 5) := by
      have h := sF_self (σ := st (sF σ (38, 0, 0, 0) (shf (σ.1 (38, 0, 0, 0)) 7160)) (10, 0, 0, 0) 17 (nI 5)) (o := (38, 0, 0, 0))
      rw [st_ne (o' := (38, 0, 0, 0)) (by decide), sF_at] at h
      exact h
    rw [e3] at e2
    have hq : e_X10_note σ = b_X10_note_52 (nI 0) (st (sF σ (38, 0, 0, 0) (shf (σ.1 (38, 0, 0, 0)) 7160)) (10, 0, 0, 0) 17 (nI 5)) := by
      rw [q_X10_note, u2, if_pos rfl, e1, q_X10_note_11, if_neg (by decide)]
      dsimp only
      rw [sF_ne (o' := (10, 0, 0, 0)) (by decide), u2, pk_sub (by omega)]
    refine ⟨_, hq.trans e2, ⟨?_, ?_, fun i hi k hk => ?_⟩, fun o g1 g2 => ?_, fun f hf => ?_, ?_⟩
    · unfold nx; split <;> omega
    · rw [st_self, upd_s]; rfl
    · have hi' : i < 6 := hi
      rw [st_ne (by decide), sF_at]
      show inU (shf (σ.1 (38, 0, 0, 0)) 7160) (σ.1 (39, 0, 0, 0)) 5 1432 (1432 * (6 - 1 - i) + k) = _
      unfold inU
      cases i with
      | zero =>
        rw [if_pos (by omega), show 1432 * (6 - 1 - 0) + k - 1432 * 5 = k from by omega]
        rfl
      | succ i =>
        rw [if_neg (by omega)]
        unfold shf
        rw [if_pos (by omega), show 1432 * (6 - 1 - (i + 1)) + k + 1432 = 1432 * (6 - 1 - i) + k from by omega]
        exact u3 i (by omega) k hk
    · rw [st_ne g1, sF_ne g2, st_ne g1, sF_ne g2]
    · rw [st_self, upd_n hf, sF_ne (by decide), st_self, upd_n hf, sF_ne (by decide)]
    · rfl
  · have e2 := m_in_from (σ := σ) (u := sz) (U := σ.1 (38, 0, 0, 0)) (F := σ.1 (39, 0, 0, 0)) (by omega) u2 rfl 1432 0 (by omega)
    rw [inU_0, sF_self] at e2
    have hq : e_X10_note σ = b_X10_note_52 (nI 0) σ := by
      rw [q_X10_note, u2, if_neg (fun e => h6 (nI_inj (by omega) (by omega) e))]
    refine ⟨_, hq.trans e2, ⟨?_, ?_, fun i hi k hk => ?_⟩, fun o g1 g2 => ?_, fun f hf => ?_, ?_⟩
    · unfold nx; split <;> omega
    · rw [st_self, upd_s]; unfold nx; rw [if_pos (by omega)]
    · unfold nx at hi ⊢
      rw [if_pos (show sz < 6 from by omega)] at hi ⊢
      rw [st_ne (by decide), sF_at]
      unfold inU
      cases i with
      | zero =>
        rw [if_pos (by omega), show 1432 * (sz + 1 - 1 - 0) + k - 1432 * sz = k from by omega]
        rfl
      | succ i =>
        rw [if_neg (by omega), show 1432 * (sz + 1 - 1 - (i + 1)) + k = 1432 * (sz - 1 - i) + k from by omega]
        exact u3 i (by omega) k hk
    · rw [st_ne g1, sF_ne g2]
    · rw [st_self, upd_n hf, sF_ne (by decide)]
    · rfl
theorem UM.mono {E : Nat → Nat → Int32} (h : UM σ sz E) (e1 : σ'.1 (10, 0, 0, 0) 17 = σ.1 (10, 0, 0, 0) 17) (e2 : σ'.1 (38, 0, 0, 0) = σ.1 (38, 0, 0, 0)) : UM σ' sz E := ⟨h.1, e1.trans h.2.1, by rw [e2]; exact h.2.2⟩
/-- change(): now becomes the latest row -/
theorem m_change {E : Nat → Nat → Int32} (hU : UM σ sz E) : ∃ σm, e_X10_change σ = some (some none, σm) ∧ UM σm (nx sz) (cons0 (cpl (σ.1 (30, 0, 0, 0)) (σ.1 (39, 0, 0, 0)) 1432) E) ∧ (∀ o : mO, o ≠ (10, 0, 0, 0) → o ≠ (38, 0, 0, 0) → o ≠ (39, 0, 0, 0) → σm.1 o = σ.1 o) ∧ (∀ f, f ≠ 17 → σm.1 (10, 0, 0, 0) f = σ.1 (10, 0, 0, 0) f) ∧ σm.2 = σ.2 := by
  have e1 := m_was_from (σ := σ) 1432 0 (by omega)
  rw [cpl_0, sF_self] at e1
  obtain ⟨σm, n1, n2, n3, n4, n5⟩ := m_note (σ := sF σ (39, 0, 0, 0) (cpl (σ.1 (30, 0, 0, 0)) (σ.1 (39, 0, 0, 0)) 1432)) (hU.mono (by rw [sF_ne (by decide)]) (by rw [sF_ne (by decide)]))
  rw [sF_at] at n2
  refine ⟨σm, ?_, n2, fun o g1 g2 g3 => ?_, fun f hf => ?_, n5⟩
  · rw [q_X10_change, e1, q_X10_change_2, if_neg (by decide), n1]
    rfl
  · rw [n3 o g1 g2, sF_ne g3]
  · rw [n4 f hf, sF_ne (by decide)]
/-- so many times -/
def rep (e : mS → Option mR) : Nat → mS → Option mR
  | 0, σ => some (some none, σ)
  | n + 1, σ => bdV (e σ) (rep e n)
theorem pr_slot {a : Nat} (h : PR K C N) (hK : K + 1 < 2 ^ 24) (O W : Nat → Int32) (b0 : Int32) : ∃ C' N' O' W' b', (∀ σ, e_X0_passSlot a (wC a σ C) = some (some none, wC a σ C')) ∧ (∀ σ, e_X10_slot (wM σ N O W b0) = some (some none, wM σ N' O' W' b')) ∧ PR (K + 1) C' N' ∧ N' 1 = N 1 + nI 1 := by
  obtain ⟨M, h1, h2⟩ := h
  obtain ⟨C', N', O', W', b', s1, s2, s3, s4, s5⟩ := j_slot (a := a) h1 hK h2 O W b0
  exact ⟨C', N', O', W', b', s1, s2, ⟨M, s3, s4⟩, s5⟩
theorem pr_slots {a : Nat} : ∀ (n K : Nat) (C N O W : Nat → Int32) (b0 : Int32), PR K C N → K + n < 2 ^ 24 → ∃ C' N' O' W' b', (∀ σ, rep (e_X0_passSlot a) n (wC a σ C) = some (some none, wC a σ C')) ∧ (∀ σ, rep e_X10_slot n (wM σ N O W b0) = some (some none, wM σ N' O' W' b')) ∧ PR (K + n) C' N'
  | 0, K, C, N, O, W, b0, h, hK => ⟨C, N, O, W, b0, fun _ => rfl, fun _ => rfl, h⟩
  | n + 1, K, C, N, O, W, b0, h, hK => by
    obtain ⟨C1, N1, O1, W1, b1, s1, s2, s3, -⟩ := pr_slot (a := a) h (by omega) O W b0
    obtain ⟨C2, N2, O2, W2, b2, t1, t2, t3⟩ := pr_slots (a := a) n (K + 1) C1 N1 O1 W1 b1 s3 (by omega)
    refine ⟨C2, N2, O2, W2, b2, fun σ => ?_, fun σ => ?_, by rw [show K + (n + 1) = K + 1 + n from by omega]; exact t3⟩
    · show bdV (e_X0_passSlot a (wC a σ C)) _ = _
      rw [s1]
      exact t1 σ
    · show bdV (e_X10_slot (wM σ N O W b0)) _ = _
      rw [s2]
      exact t2 σ
theorem m_go_from (hn : n < 2 ^ 31) : ∀ d i, i + d = n → ∀ σ, b_X10_goSlots_2 (nI n) (nI i) σ = bdV (rep e_X10_slot d σ) (fun σ => some (some none, σ))
  | 0, i, hi => fun σ => by
    rw [show i = n from by omega, q_X10_goSlots_2, if_neg (nI_nlt (by omega) (by omega))]
    rfl
  | d + 1, i, hi => fun σ => by
    rw [q_X10_goSlots_2, if_pos (nI_lt (by omega) (by omega)), nI_1]
    show _ = bdV (bdV (e_X10_slot σ) (rep e_X10_slot d)) _
    rw [← bdV_as]
    congr 1
    funext σ1
    exact m_go_from hn d (i + 1) (by omega) σ1
theorem m_go (hn : n < 2 ^ 31) : e_X10_goSlots (nI n) σ = bdV (rep e_X10_slot n σ) (fun σ => some (some none, σ)) := by
  rw [q_X10_goSlots]
  exact m_go_from hn n 0 (by omega) σ
end CQ

/-! Both rows: data, the whole step -/
section D2
variable {M x y r n k : Nat} {F C N P Q O W : Nat → Int32} {v : Int32} {b : Int32} {pS hp : Nat → Prop}
theorem or_pow {w c : Nat} (hw : w < 2 ^ c) (hc : c < 31) : nI w ||| (nI 1 <<< (nI c &&& 31)) = nI (2 ^ c + w) := by
  rw [nI_shl hc, nI_or]
  have := Nat.two_pow_add_eq_or_of_lt hw 1
  rw [Nat.mul_one] at this
  rw [this, Nat.or_comm]
theorem sm_ge {p : Nat → Nat} : ∀ (d c : Nat), (∀ k, c ≤ k → k < c + d → 1 ≤ p k) → d ≤ sm p c d
  | 0, _, _ => Nat.le_refl _
  | d + 1, c, h => by
    have h1 := sm_ge (p := p) d (c + 1) (fun k a b => h k (by omega) (by omega))
    have h2 := h c (Nat.le_refl _) (by omega)
    show d + 1 ≤ p c + sm p (c + 1) d
    omega
theorem spo1_u {z j : Nat} (hz : z < 6) (hj : j < 1360 + 6 * x ∨ 1360 + 6 * x + 6 ≤ j) : spo1 hp x z (upd F j v) = upd (spo1 hp x z F) j v := by
  unfold spo1
  split
  · rw [upd_n (by omega), upd_c (by omega)]
  · rfl
theorem spo_u {j : Nat} (hj : j < 1360 + 6 * x ∨ 1360 + 6 * x + 6 ≤ j) : ∀ (d i : Nat) (F : Nat → Int32), i + d ≤ 6 → spo hp x d i (upd F j v) = upd (spo hp x d i F) j v
  | 0, _, _, _ => rfl
  | d + 1, i, F, h => by
    unfold spo
    rw [spo1_u (by omega) hj, spo_u hj d (i + 1) _ (by omega)]
/-- one place goes by: the reference -/
theorem m_place {q c w h lf : Nat} {p : Nat → Nat} (hx : x < 6) (hq : N (1179 + 16 * x + 8) = nI q) (hq1 : 1 ≤ q) (hq2 : q ≤ 9) (hc : N (1179 + 16 * x + 7) = nI c) (hch : c < h) (hh : h ≤ 4) (hhN : N (1179 + 16 * x + 3) = nI h) (hw : N (1179 + 16 * x + 6) = nI w) (hl : N (1179 + 16 * x + 5) = nI lf) (hl1 : 1 ≤ lf)
    (hp : ∀ k, k < h → N (1179 + 16 * x + 11 + k) = nI (p k)) :
    ∃ N', (∀ σ O W, b_X10_stepData_159 (nI x) (nI (1179 + 16 * x)) (nI y) (wM σ N O W b) = b_X10_stepData_307 (nI x) (nI (1179 + 16 * x)) (nI y) (wM σ N' O W b)) ∧ (∀ k, k < 1179 + 16 * x + 5 ∨ 1179 + 16 * x + 9 < k → N' k = N k) ∧ N' (1179 + 16 * x + 5) = nI (lf - 1) ∧
      (2 ≤ q → N' (1179 + 16 * x + 8) = nI (q - 1) ∧ N' (1179 + 16 * x + 9) = N (1179 + 16 * x + 9) ∧ N' (1179 + 16 * x + 6) = nI w ∧ N' (1179 + 16 * x + 7) = nI c) ∧
      (q = 1 → N' (1179 + 16 * x + 7) = nI (c + 1) ∧ N' (1179 + 16 * x + 9) = nI 1 ∧ N' (1179 + 16 * x + 6) = (if N (1179 + 16 * x + 9) = nI 1 then nI w ||| (nI 1 <<< (nI c &&& 31)) else nI w) ∧ N' (1179 + 16 * x + 8) = nI (if c + 1 < h then p (c + 1) else 0)) := by
  by_cases hq3 : 2 ≤ q
  · refine ⟨upd (upd N (1179 + 16 * x + 8) (nI (q - 1))) (1179 + 16 * x + 5) (nI (lf - 1)), fun σ O W => ?_, fun k hk => ?_, upd_e rfl, fun _ => ⟨?_, ?_, ?_, ?_⟩, fun q1 => by omega⟩
    · rw [q_X10_stepData_159]
      simp (disch := omega) only [nI_add, nI_clamp, ck2, if_false, wM_N, wM_stN, upd_e, upd_n, hq, hl, pk_sub]
      rw [if_neg (nI_ne0 (by omega) (by omega))]
    · rw [upd_n (by omega), upd_n (by omega)]
    · rw [upd_n (by omega), upd_e rfl]
    · rw [upd_n (by omega), upd_n (by omega)]
    · rw [upd_n (by omega), upd_n (by omega), hw]
    · rw [upd_n (by omega), upd_n (by omega), hc]
  · have hq4 : q = 1 := by omega
    subst hq4
    -- the new places left
    have pl : ∃ v, v = nI (if c + 1 < h then p (c + 1) else 0) := ⟨_, rfl⟩
    obtain ⟨v, hv0⟩ := pl
    have hv2 : c + 1 < h → v = nI (p (c + 1)) := fun q => by rw [hv0, if_pos q]
    have hv3 : ¬ c + 1 < h → v = nI 0 := fun q => by rw [hv0, if_neg q]
    by_cases hg : N (1179 + 16 * x + 9) = nI 1
    · refine ⟨upd (upd (upd (upd (upd (upd N (1179 + 16 * x + 8) (nI 0)) (1179 + 16 * x + 5) (nI (lf - 1))) (1179 + 16 * x + 6) (nI w ||| (nI 1 <<< (nI c &&& 31)))) (1179 + 16 * x + 7) (nI (c + 1))) (1179 + 16 * x + 9) (nI 1)) (1179 + 16 * x + 8) v, fun σ O W => ?_, fun k hk => ?_, ?_, fun q1 => by omega, fun _ => ⟨?_, ?_, ?_, by rw [upd_e rfl, hv0]⟩⟩
      · rw [q_X10_stepData_159]
        simp (disch := omega) only [nI_add, nI_clamp, ck2, if_false, wM_N, wM_stN, upd_e, upd_n, hq, hl, pk_sub, hg, hw, hc, hhN, Nat.sub_self]
        rw [if_pos n00, if_pos trivial]
        by_cases k : nI (c + 1) < nI h
        · have k2 := (nI_ltI (by omega) (by omega)).mp k
          rw [if_pos k]
          simp (disch := omega) only [ck2, if_false, upd_n, nI_clamp, hp]
          rw [hv2 k2]
        · rw [if_neg k]
          rw [hv3 (fun q => k (nI_lt q (by omega)))]
      · rw [upd_n (by omega), upd_n (by omega), upd_n (by omega), upd_n (by omega), upd_n (by omega), upd_n (by omega)]
      · rw [upd_n (by omega), upd_n (by omega), upd_n (by omega), upd_n (by omega), upd_e rfl]
      · rw [upd_n (by omega), upd_n (by omega), upd_e rfl]
      · rw [upd_n (by omega), upd_e rfl]
      · rw [upd_n (by omega), upd_n (by omega), upd_n (by omega), upd_e rfl, if_pos hg]
    · refine ⟨upd (upd (upd (upd (upd N (1179 + 16 * x + 8) (nI 0)) (1179 + 16 * x + 5) (nI (lf - 1))) (1179 + 16 * x + 7) (nI (c + 1))) (1179 + 16 * x + 9) (nI 1)) (1179 + 16 * x + 8) v, fun σ O W => ?_, fun k hk => ?_, ?_, fun q1 => by omega, fun _ => ⟨?_, ?_, ?_, by rw [upd_e rfl, hv0]⟩⟩
      · rw [q_X10_stepData_159]
        simp (disch := omega) only [nI_add, nI_clamp, ck2, if_false, wM_N, wM_stN, upd_e, upd_n, hq, hl, pk_sub, hw, hc, hhN, Nat.sub_self]
        rw [if_pos n00, if_neg hg]
        by_cases k : nI (c + 1) < nI h
        · have k2 := (nI_ltI (by omega) (by omega)).mp k
          rw [if_pos k]
          simp (disch := omega) only [ck2, if_false, upd_n, nI_clamp, hp]
          rw [hv2 k2]
        · rw [if_neg k]
          rw [hv3 (fun q => k (nI_lt q (by omega)))]
      · rw [upd_n (by omega), upd_n (by omega), upd_n (by omega), upd_n (by omega), upd_n (by omega)]
      · rw [upd_n (by omega), upd_n (by omega), upd_n (by omega), upd_e rfl]
      · rw [upd_n (by omega), upd_n (by omega), upd_e rfl]
      · rw [upd_n (by omega), upd_e rfl]
      · rw [upd_n (by omega), upd_n (by omega), upd_n (by omega), upd_n (by omega), upd_n (by omega), hw, if_neg hg]
/-- behind a place -/
theorem m_end_go {l : Nat} {σ : mS} (hx : x < 6) (hl : N (1179 + 16 * x + 5) = nI l) (h1 : 1 ≤ l) (h2 : l < 2 ^ 31) : b_X10_stepData_307 (nI x) (nI (1179 + 16 * x)) (nI y) (wM σ N O W b) = some (some none, wM σ N O W b) := by
  rw [q_X10_stepData_307]
  simp (disch := omega) only [nI_add, nI_clamp, ck2, if_false, wM_N, hl]
  rw [if_pos (by rw [nI_0lt h2]; omega)]
theorem m_end {σ : mS} {w : Nat} (hM : M ≤ 6) (hN0 : N 0 = nI M) (hx : x < M) (hy : y < M) (hl : N (1179 + 16 * x + 5) = nI 0) (hph : N (1179 + 16 * x + 4) = nI 2) (hw : N (1179 + 16 * x + 6) = nI w) (hw2 : w < 64) {N1 : Nat → Int32} (hN1 : N1 = spV (fun z => clr N b M z x) (nI y) (N 1 + nI 2) x (nI 2) M 0 N) :
    (w = 0 → b_X10_stepData_307 (nI x) (nI (1179 + 16 * x)) (nI y) (wM σ N O W b) = some (some none, wM σ (upd (upd N1 (1179 + 16 * x + 15) (nI 5)) (1179 + 16 * x + 4) (nI 3)) O W b)) ∧
    (w ≠ 0 → ¬ (N (1179 + 16 * y) = 0 ∧ N (135 + y) = -1 ∧ O y = -1) → b_X10_stepData_307 (nI x) (nI (1179 + 16 * x)) (nI y) (wM σ N O W b) = some (some none, wM σ (upd (upd N1 (1179 + 16 * x + 15) (nI 6)) (1179 + 16 * x + 4) (nI 3)) O W b)) ∧
    (w ≠ 0 → (N (1179 + 16 * y) = 0 ∧ N (135 + y) = -1 ∧ O y = -1) → b_X10_stepData_307 (nI x) (nI (1179 + 16 * x)) (nI y) (wM σ N O W b) = some (some none, wM σ (upd (upd N1 (1179 + 16 * x + 15) (nI 0)) (1179 + 16 * x + 4) (nI 3)) (upd O y (nI x)) (upd W y (nI 2)) b)) := by
  have hn : ∀ k, ¬ spc k → N1 k = N k := fun k hk => by rw [hN1, spV_n hk M 0 N (by omega)]
  have h0 : b_X10_stepData_307 (nI x) (nI (1179 + 16 * x)) (nI y) (wM σ N O W b) = (
    if N1 (1179 + 16 * x + 6) = 0 then (
      some (some none, wM σ (upd (upd N1 (1179 + 16 * x + 15) (nI 5)) (1179 + 16 * x + 4) (nI 3)) O W b))
    else (
      bdI (e_X10_isFree (nI y) (wM σ N1 O W b)) (fun v7 σ6 =>
      if v7 = 0 then (
        if nI (1179 + 16 * x) + (nI 15) < 0 ∨ 1432 ≤ (nI (1179 + 16 * x) + (nI 15)).toNatClampNeg then none else (
        let σ8 := st σ6 (30, 0, 0, 0) ((nI (1179 + 16 * x) + (nI 15)).toNatClampNeg) (nI 6)
        if nI (1179 + 16 * x) + (nI 15) < 0 ∨ 1432 ≤ (nI (1179 + 16 * x) + (nI 15)).toNatClampNeg then none else (
        if σ8.1 (30, 0, 0, 0) ((nI (1179 + 16 * x) + (nI 15)).toNatClampNeg) = 0 then (
          bdV (e_X10_owes (nI y) (nI x) (nI 2) σ8) (fun σ9 =>
          if nI (1179 + 16 * x) + (nI 4) < 0 ∨ 1432 ≤ (nI (1179 + 16 * x) + (nI 4)).toNatClampNeg then none else (
          let σ10 := st σ9 (30, 0, 0, 0) ((nI (1179 + 16 * x) + (nI 4)).toNatClampNeg) (nI 3)
          some (some none, σ10))))
        else (
          if nI (1179 + 16 * x) + (nI 4) < 0 ∨ 1432 ≤ (nI (1179 + 16 * x) + (nI 4)).toNatClampNeg then none else (
          let σ11 := st σ8 (30, 0, 0, 0) ((nI (1179 + 16 * x) + (nI 4)).toNatClampNeg) (nI 3)
          some (some none, σ11))))))
      else (
        if nI (1179 + 16 * x) + (nI 15) < 0 ∨ 1432 ≤ (nI (1179 + 16 * x) + (nI 15)).toNatClampNeg then none else (
        let σ12 := st σ6 (30, 0, 0, 0) ((nI (1179 + 16 * x) + (nI 15)).toNatClampNeg) (nI 0)
        if nI (1179 + 16 * x) + (nI 15) < 0 ∨ 1432 ≤ (nI (1179 + 16 * x) + (nI 15)).toNatClampNeg then none else (
        if σ12.1 (30, 0, 0, 0) ((nI (1179 + 16 * x) + (nI 15)).toNatClampNeg) = 0 then (
          bdV (e_X10_owes (nI y) (nI x) (nI 2) σ12) (fun σ13 =>
          if nI (1179 + 16 * x) + (nI 4) < 0 ∨ 1432 ≤ (nI (1179 + 16 * x) + (nI 4)).toNatClampNeg then none else (
          let σ14 := st σ13 (30, 0, 0, 0) ((nI (1179 + 16 * x) + (nI 4)).toNatClampNeg) (nI 3)
          some (some none, σ14))))
        else (
          if nI (1179 + 16 * x) + (nI 4) < 0 ∨ 1432 ≤ (nI (1179 + 16 * x) + (nI 4)).toNatClampNeg then none else (
          let σ15 := st σ12 (30, 0, 0, 0) ((nI (1179 + 16 * x) + (nI 4)).toNatClampNeg) (nI 3)
          some (some none, σ15))))))))) := by
    rw [q_X10_stepData_307]
    simp (disch := omega) only [nI_add, nI_clamp, ck2, if_false, wM_N, hl]
    rw [if_neg (by decide), m_spans hM hN0 (by omega) (by omega), nSp_e hM (by omega) (by omega) hph, ← hN1]
    dsimp only [bdV]
    by_cases k : N1 (1179 + 16 * x + 6) = 0
    · rw [wM_N, if_pos k, if_pos k]
      simp (disch := omega) only [wM_stN, wM_N, upd_e]
      rw [if_neg (by decide)]
    · rw [wM_N, if_neg k, if_neg k]
  have e6 : N1 (1179 + 16 * x + 6) = nI w := by rw [hn _ (by unfold spc; omega), hw]
  refine ⟨fun h => ?_, fun h hf => ?_, fun h hf => ?_⟩
  · rw [h0, if_pos (by rw [e6, h]; exact n00)]
  · have hf1 : ¬ (N1 (1179 + 16 * y) = 0 ∧ N1 (135 + y) = -1 ∧ O y = -1) := by rw [hn _ (by unfold spc; omega), hn _ (by unfold spc; omega)]; exact hf
    rw [h0, if_neg (by rw [e6]; exact nI_ne0 (by omega) (by omega)), m_isFree (by omega)]
    dsimp only [bdI]
    rw [if_nbI hf1]
    simp (disch := omega) only [nI_add, nI_clamp, ck2, if_false, wM_stN, wM_N, upd_e]
    rw [if_neg (by decide)]
  · have hf1 : (N1 (1179 + 16 * y) = 0 ∧ N1 (135 + y) = -1 ∧ O y = -1) := by rw [hn _ (by unfold spc; omega), hn _ (by unfold spc; omega)]; exact hf
    rw [h0, if_neg (by rw [e6]; exact nI_ne0 (by omega) (by omega)), m_isFree (by omega)]
    dsimp only [bdI]
    rw [if_bI hf1]
    simp (disch := omega) only [nI_add, nI_clamp, ck2, if_false, wM_stN, wM_N, upd_e]
    rw [if_pos n00, m_owes (by omega)]
    dsimp only [bdV]
    rw [wM_stN]
/-- the reference, up to the places -/
noncomputable def nBad (N : Nat → Int32) (b : Int32) (M x y : Nat) : Nat → Int32 := @ite _ (¬ clr N b M y x ∨ N (15 + 6 * x + y) < N (51 + 6 * x + y)) (Classical.propDecidable _) (upd N (1179 + 16 * x + 9) (nI 0)) N
noncomputable def nGone (N : Nat → Int32) (b : Int32) (M x y : Nat) : Nat → Int32 := upd (nBad N b M x y) (1396 + x) (N (1396 + x) + nI 1)
noncomputable def nSpoilt (N : Nat → Int32) (b : Int32) (M x y : Nat) : Nat → Int32 := @ite _ (clr N b M y x) (Classical.propDecidable _) (nGone N b M x y) (spo (fun z => hpN N b M y z ∧ z ≠ x) x M 0 (nGone N b M x y))
theorem me_data {σ : mS} (hI : IS M N) (hx : x < M) (hy : y < M) (hyN : N (1179 + 16 * x + 1) = nI y) (hph : N (1179 + 16 * x + 4) = nI 2) :
    e_X10_stepSender (nI x) (wM σ N O W b) = bdV (b_X10_stepData_159 (nI x) (nI (1179 + 16 * x)) (nI y) (wM σ (nSpoilt N b M x y) O W b)) (fun σ12 => some (some none, σ12)) := by
  have hM := hI.2.1
  have hb51 : ∀ k, k < 51 → nGone N b M x y k = N k := fun k hk => by
    unfold nGone nBad
    rw [upd_n (by omega)]
    split
    · rw [upd_n (by omega)]
    · rfl
  have e1 : ¬ N (1179 + 16 * x + 4) = nI 0 := by rw [hph]; decide
  have e2 : ¬ N (1179 + 16 * x + 4) = nI 1 := by rw [hph]; decide
  have hg : e_X10_stepData (nI x) (wM σ N O W b) = b_X10_stepData_85 (nI x) (nI (1179 + 16 * x)) (nI y) (nI 0) (wM σ (nGone N b M x y) O W b) := by
    rw [q_X10_stepData, m_exAt]
    dsimp only [bdI]
    rw [nI_add, nI_clamp (by omega), if_neg (ckn (by omega) (by omega)), wM_N, hyN, m_isClear hM hI.1 (by omega) (by omega)]
    dsimp only
    by_cases k1 : clr N b M y x
    · rw [if_bI k1, m_quality (by omega) (by omega)]
      dsimp only
      simp (disch := omega) only [pk_mul, nI_add, nI_clamp, ck2, if_false, wM_N]
      by_cases k2 : N (15 + 6 * x + y) < N (51 + 6 * x + y)
      · rw [if_pos k2, if_pos n00]
        simp (disch := omega) only [wM_stN, wM_N, upd_n]
        unfold nGone nBad
        rw [if_pos (Or.inr k2)]
      · rw [if_neg k2, if_neg n10]
        simp (disch := omega) only [wM_stN, wM_N]
        unfold nGone nBad
        rw [if_neg (fun q => q.elim (fun q => q k1) k2)]
    · rw [if_nbI k1, if_pos n00]
      simp (disch := omega) only [nI_add, nI_clamp, ck2, if_false, wM_stN, wM_N, upd_n]
      unfold nGone nBad
      rw [if_pos (Or.inl k1)]
  rw [q_X10_stepSender, m_exAt]
  dsimp only [bdI]
  rw [nI_add, nI_add, nI_clamp (by omega), nI_clamp (by omega), if_neg (ckn (by omega) (by omega)), if_neg (ckn (by omega) (by omega)), wM_N, if_neg e1, if_neg e2, if_pos hph, hg]
  unfold nSpoilt
  by_cases k1 : clr N b M y x
  · rw [if_pos k1]
    rw [q_X10_stepData_85, if_neg c0, c0c, wM_N, hb51 0 (by omega), hI.1, if_pos (nI_lt (by omega) (by omega)), m_isClear hM (by rw [hb51 0 (by omega)]; exact hI.1) (by omega) (by omega)]
    dsimp only [bdI]
    rw [if_bI ((clr_N hM (by omega) (by omega) (fun j a c => hb51 j (by omega))).mpr k1)]
  · rw [if_neg k1, m_spoil_from hI hx hy k1 M 0 _ hb51 (by omega)]
end D2

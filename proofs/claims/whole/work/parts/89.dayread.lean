/-! A day's text, read by both -/
section DT
variable {M K K' s z r i n m k a b x y t h w lo hi j u : Nat} {σ τ σ' σ1 σ2 : mS} {C N F F' G O W : Nat → Int32} {o : mO} {v p p1 p2 wr : Int32} {T : Nat → Nat}
def alen (T : Nat → Nat) (j : Nat) : Nat := if T j = 102 then 5 else if T j = 115 then 3 else 1
def okA (n : Nat) (T : Nat → Nat) (j : Nat) : Prop := j < n ∧ (T j = 100 ∨ (T j = 115 ∧ rg 48 10 n T (j + 1) ∧ rg 48 10 n T (j + 2)) ∨ (T j = 102 ∧ rg 97 6 n T (j + 1) ∧ rg 48 4 n T (j + 2) ∧ rg 97 6 n T (j + 3) ∧ rg 49 9 n T (j + 4)))
def AC (F : Nat → Int32) (T : Nat → Nat) (i j : Nat) : Prop := F (5 * i) = nI (T j) ∧ (T j = 115 → F (5 * i + 1) = nI (10 * (T (j + 1) - 48) + (T (j + 2) - 48))) ∧ (T j = 102 → F (5 * i + 1) = nI (T (j + 1) - 97) ∧ F (5 * i + 2) = nI (T (j + 2) - 48) ∧ F (5 * i + 3) = nI (T (j + 3) - 97) ∧ F (5 * i + 4) = nI (T (j + 4) - 48))
theorem TX.sF (hX : TX τ n T) : TX (sF τ (37, 0, 0, 0) F) n T := ⟨by rw [sF_ne (by decide)]; exact hX.1, by rw [sF_ne (by decide)]; exact hX.2⟩
theorem rd_F : st (rd (sF τ (37, 0, 0, 0) F) j wr) (37, 0, 0, 0) i v = rd (sF τ (37, 0, 0, 0) (upd F i v)) j wr := by rw [rd_o (by decide), sF_st]
theorem c_len (hT : TC σ n T) (hn : n ≤ 80) (hj : j < n) : e_X9_actLength (nI j) σ = some (some (some (.inl (nI (alen T j)))), σ) := by
  have hb := (hT.2 j hj).1
  rw [q_X9_actLength, c_at hT hn hj]
  dsimp only [bdI]
  unfold alen
  by_cases h1 : T j = 102
  · rw [h1, if_pos rfl, if_pos rfl]
  · rw [if_neg (fun e => h1 (nI_inj (by omega) (by omega) e)), if_neg h1]
    by_cases h2 : T j = 115
    · rw [h2, if_pos rfl, if_pos rfl]
    · rw [if_neg (fun e => h2 (nI_inj (by omega) (by omega) e)), if_neg h2]
/-- what one act's reading comes to, for both -/
def A1 (n : Nat) (T : Nat → Nat) (i j : Nat) : Prop :=
  (okA n T j ∧ (∀ σ, TC σ n T → e_X9_faultInAct (nI j) σ = some (some (some (.inl (-1))), σ)) ∧ ∀ τ F, TX τ n T → ∃ F', e_X10_readAct (nI (5 * i)) (rd (sF τ (37, 0, 0, 0) F) j (-1)) = some (some none, rd (sF τ (37, 0, 0, 0) F') (j + alen T j) (-1)) ∧ AC F' T i j ∧ ∀ k, k < 5 * i → F' k = F k) ∨
  (∃ p, p < 2 ^ 30 ∧ (∀ σ, TC σ n T → e_X9_faultInAct (nI j) σ = some (some (some (.inl (nI p))), σ)) ∧ ∀ τ F, TX τ n T → ∃ j' F', e_X10_readAct (nI (5 * i)) (rd (sF τ (37, 0, 0, 0) F) j (-1)) = some (some none, rd (sF τ (37, 0, 0, 0) F') j' (nI p)))
theorem wrn (h : m < 2 ^ 30) : nI m ≠ (-1 : Int32) := nI_nm1 h
theorem j_act_d (hn : n ≤ 80) (hj : j < n) (hi : i < 80) (h : T j = 100) : A1 n T i j := by
  have al : alen T j = 1 := by unfold alen; rw [if_neg (by omega), if_neg (by omega)]
  refine Or.inl ⟨⟨hj, Or.inl h⟩, fun σ hT => ?_, fun τ F hX => ⟨upd F (5 * i) (nI 100), ?_, ⟨?_, fun e => by omega, fun e => by omega⟩, fun k hk => upd_n (by omega)⟩⟩
  · rw [q_X9_faultInAct, c_at hT hn hj, h]
    dsimp only [bdI]
    rw [if_pos rfl]
  · rw [q_X10_readAct, m_here hX.sF hn hj, h]
    dsimp only [bdI]
    rw [if_neg (by decide), if_neg (by decide), if_pos rfl, rd_at, nI_add, rd_7, if_neg (nI_in (by omega) (by omega)), nI_clamp (by omega), rd_F, if_neg (by decide), q_X10_readAct_67, if_neg (by decide), al]
  · rw [upd_e rfl, h]
theorem j_act_n (hn : n ≤ 80) (hj : j < n) (h1 : T j ≠ 100) (h2 : T j ≠ 115) (h3 : T j ≠ 102) : A1 n T i j := by
  refine Or.inr ⟨j, by omega, fun σ hT => ?_, fun τ F hX => ⟨j, F, ?_⟩⟩
  · have hb := (hT.2 j hj).1
    rw [q_X9_faultInAct, c_at hT hn hj]
    dsimp only [bdI]
    rw [if_neg (fun e => h1 (nI_inj (by omega) (by omega) e)), if_neg (fun e => h2 (nI_inj (by omega) (by omega) e)), if_neg (fun e => h3 (nI_inj (by omega) (by omega) e))]
  · have hb := (hX.2 j hj).1
    rw [q_X10_readAct, m_here hX.sF hn hj]
    dsimp only [bdI]
    rw [if_neg (fun e => h3 (nI_inj (by omega) (by omega) e)), if_neg (fun e => h2 (nI_inj (by omega) (by omega) e)), if_neg (fun e => h1 (nI_inj (by omega) (by omega) e)), rd_at, m_fault_t]
    rfl
theorem j_act_s (hn : n ≤ 80) (hj : j < n) (hi : i < 80) (h : T j = 115) : A1 n T i j := by
  have al : alen T j = 3 := by unfold alen; rw [if_neg (by omega), if_pos h]
  have ch : ∀ σ, TC σ n T → e_X9_faultInAct (nI j) σ = bdI (e_X7_digitAt (nI (j + 1)) (nI 0) (nI 9) σ) (fun v4 σ3 => if v4 < 0 then (some (some (some (.inl (nI (j + 1)))), σ3)) else (bdI (e_X7_digitAt (nI (j + 2)) (nI 0) (nI 9) σ3) (fun v6 σ5 => if v6 < 0 then (some (some (some (.inl (nI (j + 2)))), σ5)) else (some (some (some (.inl (-1))), σ5))))) := fun σ hT => by
    rw [q_X9_faultInAct, c_at hT hn hj, h]
    dsimp only [bdI]
    rw [if_neg (by decide), if_pos rfl, nI_add, nI_add]
  have rh : ∀ τ F, TX τ n T → e_X10_readAct (nI (5 * i)) (rd (sF τ (37, 0, 0, 0) F) j (-1)) = bdI (e_X10_oneOf (nI 48) (nI 10) (rd (sF τ (37, 0, 0, 0) (upd F (5 * i) (nI 115))) (j + 1) (-1))) (fun v2 σ1 => bdI (e_X10_oneOf (nI 48) (nI 10) σ1) (fun v4 σ3 => some (some none, st σ3 (37, 0, 0, 0) (5 * i + 1) (nI 10 * v2 + v4)))) := fun τ F hX => by
    rw [q_X10_readAct, m_here hX.sF hn hj, h]
    dsimp only [bdI]
    rw [if_neg (by decide), if_pos rfl, rd_at, nI_add, rd_7, if_neg (nI_in (by omega) (by omega)), nI_clamp (n := 5 * i) (by omega), rd_F, if_pos rfl, q_X10_twoDigits, nI_add]
    have rest : ∀ σ7, b_X10_readAct_67 (nI (5 * i)) (nI 115) σ7 = some (some none, σ7) := fun σ7 => by rw [q_X10_readAct_67, if_neg (by decide)]
    cases h1 : e_X10_oneOf (nI 48) (nI 10) (rd (sF τ (37, 0, 0, 0) (upd F (5 * i) (nI 115))) (j + 1) (-1)) with
    | none => rfl
    | some q =>
      obtain ⟨q1, q2⟩ := q
      rcases q1 with _ | _ | q1
      · rfl
      · rfl
      · cases q1 with
        | inr q1 => rfl
        | inl q1 =>
          dsimp only [bdI]
          cases h2 : e_X10_oneOf (nI 48) (nI 10) q2 with
          | none => rfl
          | some q' =>
            obtain ⟨q1', q2'⟩ := q'
            rcases q1' with _ | _ | q1'
            · rfl
            · rfl
            · cases q1' with
              | inr q1' => rfl
              | inl q1' =>
                dsimp only
                rw [if_neg (nI_in (by omega) (by omega)), nI_clamp (n := 5 * i + 1) (by omega)]
                exact rest _
  by_cases r1 : rg 48 10 n T (j + 1)
  · by_cases r2 : rg 48 10 n T (j + 2)
    · refine Or.inl ⟨⟨hj, Or.inr (Or.inl ⟨h, r1, r2⟩)⟩, fun σ hT => ?_, fun τ F hX => ⟨upd (upd F (5 * i) (nI 115)) (5 * i + 1) (nI (10 * (T (j + 1) - 48) + (T (j + 2) - 48))), ?_, ⟨?_, fun _ => upd_e rfl, fun e => by omega⟩, fun k hk => ?_⟩⟩
      · rw [ch σ hT, c_dig_t (lo := 0) (hi := 9) hT hn (by omega) (by omega) r1]
        dsimp only [bdI]
        rw [if_neg (nI_pos (by have := r1.2.2; omega)), c_dig_t (lo := 0) (hi := 9) hT hn (by omega) (by omega) r2]
        dsimp only
        rw [if_neg (nI_pos (by have := r2.2.2; omega))]
      · rw [rh τ F hX, m_one_t hX.sF hn (by omega) (by omega) r1]
        dsimp only [bdI]
        rw [m_one_t hX.sF hn (by omega) (by omega) r2]
        dsimp only
        rw [rd_F, pk_mul, nI_add, al]
      · rw [upd_n (by omega), upd_e rfl, h]
      · rw [upd_n (by omega), upd_n (by omega)]
    · refine Or.inr ⟨j + 2, by omega, fun σ hT => ?_, fun τ F hX => ⟨j + 2, upd (upd F (5 * i) (nI 115)) (5 * i + 1) (nI 10 * nI (T (j + 1) - 48) + nI 0), ?_⟩⟩
      · rw [ch σ hT, c_dig_t (lo := 0) (hi := 9) hT hn (by omega) (by omega) r1]
        dsimp only [bdI]
        rw [if_neg (nI_pos (by have := r1.2.2; omega)), c_dig_f (lo := 0) (hi := 9) hT hn (by omega) (by omega) (by omega) r2]
        dsimp only
        rw [if_pos (by decide)]
      · rw [rh τ F hX, m_one_t hX.sF hn (by omega) (by omega) r1]
        dsimp only [bdI]
        rw [m_one_f hX.sF hn (by omega) (by omega) (by omega) r2]
        dsimp only
        rw [rd_F]
  · refine Or.inr ⟨j + 1, by omega, fun σ hT => ?_, fun τ F hX => ⟨j + 1, upd (upd F (5 * i) (nI 115)) (5 * i + 1) (nI 10 * nI 0 + nI 0), ?_⟩⟩
    · rw [ch σ hT, c_dig_f (lo := 0) (hi := 9) hT hn (by omega) (by omega) (by omega) r1]
      dsimp only [bdI]
      rw [if_pos (by decide)]
    · rw [rh τ F hX, m_one_f hX.sF hn (by omega) (by omega) (by omega) r1]
      dsimp only [bdI]
      rw [m_one_s (wrn (by omega))]
      dsimp only
      rw [rd_F]
theorem j_act_f (hn : n ≤ 80) (hj : j < n) (hi : i < 80) (h : T j = 102) : A1 n T i j := by
  have al : alen T j = 5 := by unfold alen; rw [if_pos h]
  have c1 : ∀ σ, TC σ n T → e_X9_faultInAct (nI j) σ = bdI (e_X7_letterAt (nI (j + 1)) (nI 6) σ) (fun v8 σ7 => if v8 < 0 then (some (some (some (.inl (nI (j + 1)))), σ7)) else (bdI (e_X7_digitAt (nI (j + 2)) (nI 0) (nI 3) σ7) (fun v10 σ9 => if v10 < 0 then (some (some (some (.inl (nI (j + 2)))), σ9)) else (bdI (e_X7_letterAt (nI (j + 3)) (nI 6) σ9) (fun v12 σ11 => if v12 < 0 then (some (some (some (.inl (nI (j + 3)))), σ11)) else (bdI (e_X7_digitAt (nI (j + 4)) (nI 1) (nI 9) σ11) (fun v14 σ13 => if v14 < 0 then (some (some (some (.inl (nI (j + 4)))), σ13)) else (some (some (some (.inl (-1))), σ13))))))))) := fun σ hT => by
    rw [q_X9_faultInAct, c_at hT hn hj, h]
    dsimp only [bdI]
    rw [if_neg (by decide), if_neg (by decide), if_pos rfl, nI_add, nI_add, nI_add, nI_add]
  have rh : ∀ τ F, TX τ n T → e_X10_readAct (nI (5 * i)) (rd (sF τ (37, 0, 0, 0) F) j (-1)) = bdI (e_X10_oneOf (nI 97) (nI 6) (rd (sF τ (37, 0, 0, 0) (upd F (5 * i) (nI 102))) (j + 1) (-1))) (fun v2 σ1 => bdI (e_X10_oneOf (nI 48) (nI 4) (st σ1 (37, 0, 0, 0) (5 * i + 1) v2)) (fun v5 σ4 => bdI (e_X10_oneOf (nI 97) (nI 6) (st σ4 (37, 0, 0, 0) (5 * i + 2) v5)) (fun v8 σ7 => bdI (e_X10_oneOf (nI 49) (nI 9) (st σ7 (37, 0, 0, 0) (5 * i + 3) v8)) (fun v11 σ10 => some (some none, st σ10 (37, 0, 0, 0) (5 * i + 4) (v11 + nI 1)))))) := fun τ F hX => by
    rw [q_X10_readAct, m_here hX.sF hn hj, h]
    dsimp only [bdI]
    rw [if_pos rfl, rd_at, nI_add, rd_7, if_neg (nI_in (by omega) (by omega)), nI_clamp (n := 5 * i) (by omega), rd_F, if_neg (by decide), q_X10_readAct_67, if_pos rfl]
    simp (disch := omega) only [nI_add, nI_clamp, ck2, if_false]
    rfl
  by_cases r1 : rg 97 6 n T (j + 1)
  · have b1 := r1.2.2
    by_cases r2 : rg 48 4 n T (j + 2)
    · have b2 := r2.2.2
      by_cases r3 : rg 97 6 n T (j + 3)
      · have b3 := r3.2.2
        by_cases r4 : rg 49 9 n T (j + 4)
        · have b4 := r4.2
          refine Or.inl ⟨⟨hj, Or.inr (Or.inr ⟨h, r1, r2, r3, r4⟩)⟩, fun σ hT => ?_, fun τ F hX => ⟨upd (upd (upd (upd (upd F (5 * i) (nI 102)) (5 * i + 1) (nI (T (j + 1) - 97))) (5 * i + 2) (nI (T (j + 2) - 48))) (5 * i + 3) (nI (T (j + 3) - 97))) (5 * i + 4) (nI (T (j + 4) - 49) + nI 1), ?_, ⟨?_, fun e => by omega, fun _ => ⟨?_, ?_, ?_, ?_⟩⟩, fun k hk => ?_⟩⟩
          · rw [c1 σ hT, c_let_t hT hn (by omega) r1]
            dsimp only [bdI]
            rw [if_neg (nI_pos (by omega)), c_dig_t (lo := 0) (hi := 3) hT hn (by omega) (by omega) r2]
            dsimp only
            rw [if_neg (nI_pos (by omega)), c_let_t hT hn (by omega) r3]
            dsimp only
            rw [if_neg (nI_pos (by omega)), c_dig_t (lo := 1) (hi := 9) hT hn (by omega) (by omega) r4]
            dsimp only
            rw [if_neg (nI_pos (by omega))]
          · rw [rh τ F hX, m_one_t hX.sF hn (by omega) (by omega) r1]
            dsimp only [bdI]
            rw [rd_F, m_one_t hX.sF hn (by omega) (by omega) r2]
            dsimp only
            rw [rd_F, m_one_t hX.sF hn (by omega) (by omega) r3]
            dsimp only
            rw [rd_F, m_one_t hX.sF hn (by omega) (by omega) r4]
            dsimp only
            rw [rd_F, al]
          · rw [upd_n (by omega), upd_n (by omega), upd_n (by omega), upd_n (by omega), upd_e rfl, h]
          · rw [upd_n (by omega), upd_n (by omega), upd_n (by omega), upd_e rfl]
          · rw [upd_n (by omega), upd_n (by omega), upd_e rfl]
          · rw [upd_n (by omega), upd_e rfl]
          · rw [upd_e rfl, nI_add]
            congr 1
            omega
          · rw [upd_n (by omega), upd_n (by omega), upd_n (by omega), upd_n (by omega), upd_n (by omega)]
        · refine Or.inr ⟨j + 4, by omega, fun σ hT => ?_, fun τ F hX => ⟨j + 4, upd (upd (upd (upd (upd F (5 * i) (nI 102)) (5 * i + 1) (nI (T (j + 1) - 97))) (5 * i + 2) (nI (T (j + 2) - 48))) (5 * i + 3) (nI (T (j + 3) - 97))) (5 * i + 4) (nI 0 + nI 1), ?_⟩⟩
          · rw [c1 σ hT, c_let_t hT hn (by omega) r1]
            dsimp only [bdI]
            rw [if_neg (nI_pos (by omega)), c_dig_t (lo := 0) (hi := 3) hT hn (by omega) (by omega) r2]
            dsimp only
            rw [if_neg (nI_pos (by omega)), c_let_t hT hn (by omega) r3]
            dsimp only
            rw [if_neg (nI_pos (by omega)), c_dig_f (lo := 1) (hi := 9) hT hn (by omega) (by omega) (by omega) r4]
            dsimp only
            rw [if_pos (by decide)]
          · rw [rh τ F hX, m_one_t hX.sF hn (by omega) (by omega) r1]
            dsimp only [bdI]
            rw [rd_F, m_one_t hX.sF hn (by omega) (by omega) r2]
            dsimp only
            rw [rd_F, m_one_t hX.sF hn (by omega) (by omega) r3]
            dsimp only
            rw [rd_F, m_one_f hX.sF hn (by omega) (by omega) (by omega) r4]
            dsimp only
            rw [rd_F]
      · refine Or.inr ⟨j + 3, by omega, fun σ hT => ?_, fun τ F hX => ⟨j + 3, upd (upd (upd (upd (upd F (5 * i) (nI 102)) (5 * i + 1) (nI (T (j + 1) - 97))) (5 * i + 2) (nI (T (j + 2) - 48))) (5 * i + 3) (nI 0)) (5 * i + 4) (nI 0 + nI 1), ?_⟩⟩
        · rw [c1 σ hT, c_let_t hT hn (by omega) r1]
          dsimp only [bdI]
          rw [if_neg (nI_pos (by omega)), c_dig_t (lo := 0) (hi := 3) hT hn (by omega) (by omega) r2]
          dsimp only
          rw [if_neg (nI_pos (by omega)), c_let_f hT hn (by omega) (by omega) r3]
          dsimp only
          rw [if_pos (by decide)]
        · rw [rh τ F hX, m_one_t hX.sF hn (by omega) (by omega) r1]
          dsimp only [bdI]
          rw [rd_F, m_one_t hX.sF hn (by omega) (by omega) r2]
          dsimp only
          rw [rd_F, m_one_f hX.sF hn (by omega) (by omega) (by omega) r3]
          dsimp only
          rw [rd_F, m_one_s (wrn (by omega))]
          dsimp only
          rw [rd_F]
    · refine Or.inr ⟨j + 2, by omega, fun σ hT => ?_, fun τ F hX => ⟨j + 2, upd (upd (upd (upd (upd F (5 * i) (nI 102)) (5 * i + 1) (nI (T (j + 1) - 97))) (5 * i + 2) (nI 0)) (5 * i + 3) (nI 0)) (5 * i + 4) (nI 0 + nI 1), ?_⟩⟩
      · rw [c1 σ hT, c_let_t hT hn (by omega) r1]
        dsimp only [bdI]
        rw [if_neg (nI_pos (by omega)), c_dig_f (lo := 0) (hi := 3) hT hn (by omega) (by omega) (by omega) r2]
        dsimp only
        rw [if_pos (by decide)]
      · rw [rh τ F hX, m_one_t hX.sF hn (by omega) (by omega) r1]
        dsimp only [bdI]
        rw [rd_F, m_one_f hX.sF hn (by omega) (by omega) (by omega) r2]
        dsimp only
        rw [rd_F, m_one_s (wrn (by omega))]
        dsimp only
        rw [rd_F, m_one_s (wrn (by omega))]
        dsimp only
        rw [rd_F]
  · refine Or.inr ⟨j + 1, by omega, fun σ hT => ?_, fun τ F hX => ⟨j + 1, upd (upd (upd (upd (upd F (5 * i) (nI 102)) (5 * i + 1) (nI 0)) (5 * i + 2) (nI 0)) (5 * i + 3) (nI 0)) (5 * i + 4) (nI 0 + nI 1), ?_⟩⟩
    · rw [c1 σ hT, c_let_f hT hn (by omega) (by omega) r1]
      dsimp only [bdI]
      rw [if_pos (by decide)]
    · rw [rh τ F hX, m_one_f hX.sF hn (by omega) (by omega) (by omega) r1]
      dsimp only [bdI]
      rw [rd_F, m_one_s (wrn (by omega))]
      dsimp only
      rw [rd_F, m_one_s (wrn (by omega))]
      dsimp only
      rw [rd_F, m_one_s (wrn (by omega))]
      dsimp only
      rw [rd_F]
theorem j_act1 (hn : n ≤ 80) (hj : j < n) (hi : i < 80) : A1 n T i j := by
  by_cases h1 : T j = 100
  · exact j_act_d hn hj hi h1
  · by_cases h2 : T j = 115
    · exact j_act_s hn hj hi h2
    · by_cases h3 : T j = 102
      · exact j_act_f hn hj hi h3
      · exact j_act_n hn hj h1 h2 h3
end DT

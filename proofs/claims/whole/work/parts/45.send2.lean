/-! Both rows: step (b), together -/
section S2
variable {M K s r i n m k d h x y T c : Nat} {F G N C P Q O W C' N' : Nat → Int32} {v u t : Int32} {b : Int32} {q fr rn hd : Nat → Prop} {hp : Nat → Nat → Prop}
def hpD (fr rn hd : Nat → Prop) (z j : Nat) : Prop := fr z ∧ ((j = 0 ∧ rn z) ∨ (j = 1 ∧ ¬ rn z ∧ hd z) ∨ (j = 2 ∧ ¬ rn z ∧ ¬ hd z))
theorem stG {i j k : Nat} (hi : i ≤ 6) (hj : j ≤ 6) (hk : k < 1275 ∨ (1329 ≤ k ∧ k < 1402) ∨ 1420 ≤ k) : hiM (GH hp i) (hiM (GT q j) F) k = F k := by
  unfold hiM
  rw [GT_no (fun z hz => by omega), GH_no (by omega)]
theorem wt_c (h : ∀ r, r < 4 → F (147 + (4 * s + r)) = G (147 + (4 * s + r))) : wt F s = wt G s := by
  unfold wt
  rw [h 0 (by omega), h 1 (by omega), h 2 (by omega), h 3 (by omega)]
theorem c_note_from {a : Nat} {σ : mS} (hM : M ≤ 6) (h0 : F 0 = nI M) (hb : F 1329 = b) (hq : ∀ z, z < M → (q z ↔ sn b z)) (hf : ∀ z, z < M → (fr z ↔ ((F (1179 + 16 * z) = 0 ∧ F (141 + z) = 0) ∧ 0 < wt F z))) (hr : ∀ z, z < M → (rn z ↔ sn (F 1331) z)) (hh : ∀ z, z < M → (hd z ↔ ¬ F (1436 + z) &&& b = 0)) : ∀ d i, i + d = M →
    b_X0_noteSlot_66 a (nI i) (wC a σ (hiM (GH (hpD fr rn hd) i) (hiM (GT q i) F))) = some (some none, wC a σ (hiM (GH (hpD fr rn hd) M) (hiM (GT q M) F)))
  | 0, i, hi => by
    rw [show i = M from by omega, q_X0_noteSlot_66, rC_many, stG hM hM (by omega), h0, if_neg (nI_nlt (by omega) (by omega))]
  | d + 1, i, hi => by
    have ih := c_note_from (a := a) (σ := σ) hM h0 hb hq hf hr hh d (i + 1) (by omega)
    have hiM' : i < M := by omega
    have hi6 : i < 6 := by omega
    have ci : ¬ (nI i < 0 ∨ 6 ≤ i) := ckn (by omega) (by omega)
    -- the held part
    have held : ∀ σ1, σ1 = wC a σ (hiM (GH (hpD fr rn hd) i) (hiM (GT q (i + 1)) F)) → (bdI (e_X8_isFree a i σ1) (fun v13 σ12 =>
      if v13 = 0 then (
        b_X0_noteSlot_66 a (nI (i + 1)) σ12)
      else (
        bdI (e_X8_waiting a i σ12) (fun v15 σ14 =>
        if 0 < v15 then (
          if ((σ14.1 (0, a, 0, 0) 7) >>> (nI i &&& 31)) &&& (nI 1) = 0 then (
            if (σ14.1 (8, a, i, 0) 6) &&& (σ14.1 (0, a, 0, 0) 5) = 0 then (
              let σ16 := st σ14 (3, a, i, 0) 8 ((σ14.1 (3, a, i, 0) 8) + (nI 1))
              b_X0_noteSlot_66 a (nI (i + 1)) σ16)
            else (
              let σ17 := st σ14 (3, a, i, 0) 7 ((σ14.1 (3, a, i, 0) 7) + (nI 1))
              b_X0_noteSlot_66 a (nI (i + 1)) σ17))
          else (
            let σ18 := st σ14 (3, a, i, 0) 6 ((σ14.1 (3, a, i, 0) 6) + (nI 1))
            b_X0_noteSlot_66 a (nI (i + 1)) σ18))
        else (
          b_X0_noteSlot_66 a (nI (i + 1)) σ14))))) = some (some none, wC a σ (hiM (GH (hpD fr rn hd) M) (hiM (GT q M) F))) := by
      intro σ1 hσ1
      subst hσ1
      have e1 : ∀ k, (k < 1275 ∨ (1329 ≤ k ∧ k < 1402) ∨ 1420 ≤ k) → hiM (GH (hpD fr rn hd) i) (hiM (GT q (i + 1)) F) k = F k := fun k hk => stG (by omega) (by omega) hk
      have ew : wt (hiM (GH (hpD fr rn hd) i) (hiM (GT q (i + 1)) F)) i = wt F i := wt_c fun r hr => e1 _ (by omega)
      rw [c_isFree hi6, e1 _ (by omega), e1 _ (by omega)]
      dsimp only [bdI]
      by_cases k1 : F (1179 + 16 * i) = 0 ∧ F (141 + i) = 0
      · rw [if_bI k1, c_swait hi6, ew]
        dsimp only
        by_cases k2 : 0 < wt F i
        · have hfr : fr i := (hf i hiM').mpr ⟨k1, k2⟩
          rw [if_pos k2, rC_ran, e1 _ (by omega), rC_hears hi6, rC_sending, e1 _ (by omega), e1 _ (by omega), hb]
          by_cases k3 : sn (F 1331) i
          · rw [if_sn k3, rC_hspan hi6, sC_hspan hi6]
            have := GH_t (F := hiM (GT q (i + 1)) F) (hp := hpD fr rn hd) (i := i) (j := 0) (by omega) ⟨hfr, Or.inl ⟨rfl, (hr i hiM').mpr k3⟩⟩ (fun j' h1 h2 h3 => by
              rcases h3.2 with ⟨g, -⟩ | ⟨-, g, -⟩ | ⟨-, g, -⟩
              · exact h2 g
              · exact g ((hr i hiM').mpr k3)
              · exact g ((hr i hiM').mpr k3))
            rw [show 1402 + 3 * i + 0 = 1402 + 3 * i from rfl] at this
            rw [this]
            exact ih
          · rw [if_ns k3]
            have hnr : ¬ rn i := fun g => k3 ((hr i hiM').mp g)
            by_cases k4 : F (1436 + i) &&& b = 0
            · have hnh : ¬ hd i := fun g => (hh i hiM').mp g k4
              rw [if_pos k4, rC_helse hi6, sC_helse hi6]
              have := GH_t (F := hiM (GT q (i + 1)) F) (hp := hpD fr rn hd) (i := i) (j := 2) (by omega) ⟨hfr, Or.inr (Or.inr ⟨rfl, hnr, hnh⟩)⟩ (fun j' h1 h2 h3 => by
                rcases h3.2 with ⟨-, g⟩ | ⟨-, -, g⟩ | ⟨g, -⟩
                · exact hnr g
                · exact hnh g
                · exact h2 g)
              rw [this]
              exact ih
            · have hyh : hd i := (hh i hiM').mpr k4
              rw [if_neg k4, rC_hhear hi6, sC_hhear hi6]
              have := GH_t (F := hiM (GT q (i + 1)) F) (hp := hpD fr rn hd) (i := i) (j := 1) (by omega) ⟨hfr, Or.inr (Or.inl ⟨rfl, hnr, hyh⟩)⟩ (fun j' h1 h2 h3 => by
                rcases h3.2 with ⟨-, g⟩ | ⟨g, -⟩ | ⟨-, -, g⟩
                · exact hnr g
                · exact h2 g
                · exact g hyh)
              rw [this]
              exact ih
        · rw [if_neg k2, GH_f (fun j hj g => k2 ((hf i hiM').mp g.1).2)]
          exact ih
      · rw [if_nbI k1, GH_f (fun j hj g => k1 ((hf i hiM').mp g.1).1)]
        exact ih
    rw [q_X0_noteSlot_66, rC_many, stG (by omega) (by omega) (by omega), h0, if_pos (nI_lt (by omega) (by omega)), nI_clamp (n := i) (by omega), if_neg ci, nI_clamp (n := 5) (by omega), if_neg (ckn (by omega) (by omega)), c_sendsNow hi6, stG (by omega) (by omega) (by omega), hb, nI_1]
    dsimp only [bdI]
    have hT : ∀ v, upd (hiM (GH (hpD fr rn hd) i) (hiM (GT q i) F)) (1275 + 9 * i + 5) v = hiM (GH (hpD fr rn hd) i) (upd (hiM (GT q i) F) (1275 + 9 * i + 5) v) := fun v => (hiM_u (GH_no (by omega))).symm
    have hT2 : hiM (GH (hpD fr rn hd) i) (hiM (GT q i) F) (1275 + 9 * i + 5) = hiM (GT q i) F (1275 + 9 * i + 5) := GH_no (by omega)
    by_cases k0 : sn b i
    · rw [if_bI k0, if_neg (ckn (by omega) (by omega)), rC_tally hi6 (by omega), sC_tally hi6 (by omega), hT, hT2, GT_t ((hq i hiM').mpr k0)]
      exact held _ rfl
    · rw [if_nbI k0, if_neg (ckn (by omega) (by omega)), rC_tally hi6 (by omega), sC_tally hi6 (by omega), add_n0, upd_id, GT_f (fun g => k0 ((hq i hiM').mp g))]
      exact held _ rfl
theorem m_send_from {σ : mS} (hM : M ≤ 6) (h0 : N 0 = nI M) : ∀ d i, i + d = M → b_X10_stepSend_9 (nI (zcnt (pS N) i)) (nI i) (wM σ (hiM (GT (pS N) i) N) O W (bv (pS N) i)) = b_X10_stepSend_9 (nI (zcnt (pS N) M)) (nI M) (wM σ (hiM (GT (pS N) M) N) O W (bv (pS N) M))
  | 0, i, hi => by rw [show i = M from by omega]
  | d + 1, i, hi => by
    have ih := m_send_from (σ := σ) hM h0 d (i + 1) (by omega)
    have e1 : ∀ k, (k < 1275 ∨ 1329 ≤ k) → hiM (GT (pS N) i) N k = N k := fun k hk => GT_no (fun z hz => by omega)
    have yes : pS N i → b_X10_stepSend_78 (nI (zcnt (pS N) i)) (nI i) (nI 1) (wM σ (hiM (GT (pS N) i) N) O W (bv (pS N) i)) = b_X10_stepSend_9 (nI (zcnt (pS N) (i + 1))) (nI (i + 1)) (wM σ (hiM (GT (pS N) (i + 1)) N) O W (bv (pS N) (i + 1))) := by
      intro hy
      rw [q_X10_stepSend_78, if_neg n10, wM_b, wM_stb, bv_t (by omega) hy]
      dsimp only
      rw [m_had (by omega) (by omega)]
      dsimp only [bdV]
      rw [GT_t hy, nI_1, nI_1, show zcnt (pS N) i + 1 = zcnt (pS N) (i + 1) from by
        show _ = @ite _ (pS N i) (Classical.propDecidable _) (zcnt (pS N) i + 1) (zcnt (pS N) i)
        rw [if_pos hy]]
    have no : ¬ pS N i → b_X10_stepSend_78 (nI (zcnt (pS N) i)) (nI i) (nI 0) (wM σ (hiM (GT (pS N) i) N) O W (bv (pS N) i)) = b_X10_stepSend_9 (nI (zcnt (pS N) (i + 1))) (nI (i + 1)) (wM σ (hiM (GT (pS N) (i + 1)) N) O W (bv (pS N) (i + 1))) := by
      intro hn
      rw [q_X10_stepSend_78, if_pos n00, GT_f hn, bv_f hn, nI_1, show zcnt (pS N) i = zcnt (pS N) (i + 1) from by
        show _ = @ite _ (pS N i) (Classical.propDecidable _) (zcnt (pS N) i + 1) (zcnt (pS N) i)
        rw [if_neg hn]]
    rw [← ih, q_X10_stepSend_9, if_neg c0, c0c, wM_N, e1 0 (by omega), h0, if_pos (nI_lt (by omega) (by omega)), m_exAt]
    dsimp only [bdI]
    rw [nI_add (1179 + 16 * i) 0, Nat.add_zero, nI_clamp (n := 1179 + 16 * i) (by omega), if_neg (ckn (by omega) (by omega)), wM_N, e1 _ (by omega), nI_add (1179 + 16 * i) 4, nI_clamp (n := 1179 + 16 * i + 4) (by omega), if_neg (ckn (by omega) (by omega)), wM_N, e1 _ (by omega), nI_add 135 i, nI_clamp (n := 135 + i) (by omega), if_neg (ckn (by omega) (by omega)), wM_N, e1 _ (by omega)]
    by_cases k1 : N (1179 + 16 * i) = nI 1
    · rw [if_pos k1]
      by_cases k2 : N (1179 + 16 * i + 4) = 0
      · rw [if_pos k2]; exact yes (Or.inl ⟨k1, Or.inl k2⟩)
      · rw [if_neg k2]
        by_cases k3 : N (1179 + 16 * i + 4) = nI 2
        · rw [if_pos k3]; exact yes (Or.inl ⟨k1, Or.inr k3⟩)
        · rw [if_neg k3]
          by_cases k4 : N (135 + i) = -1
          · rw [if_neg (ckn (by omega) (by omega)), if_pos k4]; exact no (fun g => g.elim (fun g => g.2.elim k2 k3) (fun g => g k4))
          · rw [if_neg (ckn (by omega) (by omega)), if_neg k4]; exact yes (Or.inr k4)
    · rw [if_neg k1]
      by_cases k4 : N (135 + i) = -1
      · rw [if_neg (ckn (by omega) (by omega)), if_pos k4]; exact no (fun g => g.elim (fun g => k1 g.1) (fun g => g k4))
      · rw [if_neg (ckn (by omega) (by omega)), if_neg k4]; exact yes (Or.inr k4)
theorem or_idem {a c : Int32} : (a ||| c) ||| c = a ||| c := by
  apply Int32.toBitVec_inj.mp
  show (a.toBitVec ||| c.toBitVec) ||| c.toBitVec = a.toBitVec ||| c.toBitVec
  rw [BitVec.or_assoc, BitVec.or_self]
theorem m_193 {σ : mS} (hM : M ≤ 6) (h0 : N 0 = nI M) (hy : y < M) : ∀ d x (v : Int32), x + d = M → b_X10_stepSend_193 (nI y) (nI x) (wM σ (upd N 1330 v) O W b) = b_X10_stepSend_181 (nI (y + 1)) (wM σ (upd N 1330 (@ite _ (∃ z, x ≤ z ∧ z < M ∧ clr N b M y z) (Classical.propDecidable _) (v ||| (nI 1 <<< (nI y &&& 31))) v)) O W b)
  | 0, x, v, hx => by
    rw [q_X10_stepSend_193, if_neg c0, c0c, wM_N, upd_n (by omega), h0, if_neg (nI_nlt (by omega) (by omega)), if_neg (fun ⟨z, h1, h2, _⟩ => by omega), nI_1]
  | d + 1, x, v, hx => by
    have hc : clr (upd N 1330 v) b M y x ↔ clr N b M y x := clr_N hM (by omega) (by omega) (fun k _ _ => upd_n (by omega))
    rw [q_X10_stepSend_193, if_neg c0, c0c, wM_N, upd_n (by omega), h0, if_pos (nI_lt (by omega) (by omega)), m_isClear hM (by rw [upd_n (by omega)]; exact h0) (by omega) (by omega), bI_c hc]
    dsimp only [bdI]
    rw [nI_1]
    by_cases k1 : clr N b M y x
    · rw [if_bI k1, nI_clamp (n := 1330) (by omega), if_neg (ckn (by omega) (by omega)), if_neg (ckn (by omega) (by omega)), wM_N, upd_e rfl, wM_stN, upd_u, m_193 hM h0 hy d (x + 1) _ (by omega), if_pos (c := ∃ z, x ≤ z ∧ z < M ∧ clr N b M y z) ⟨x, Nat.le_refl _, by omega, k1⟩]
      split
      · rw [or_idem]
      · rfl
    · rw [if_nbI k1, m_193 hM h0 hy d (x + 1) v (by omega)]
      have e : (∃ z, x + 1 ≤ z ∧ z < M ∧ clr N b M y z) ↔ (∃ z, x ≤ z ∧ z < M ∧ clr N b M y z) := ⟨fun ⟨z, g1, g2, g3⟩ => ⟨z, by omega, g2, g3⟩, fun ⟨z, g1, g2, g3⟩ => ⟨z, by
        by_cases q : z = x
        · rw [q] at g3; exact absurd g3 k1
        · omega, g2, g3⟩⟩
      by_cases k2 : ∃ z, x ≤ z ∧ z < M ∧ clr N b M y z
      · rw [if_pos k2, if_pos (e.mpr k2)]
      · rw [if_neg k2, if_neg (fun g => k2 (e.mp g))]
theorem m_181 {σ : mS} (hM : M ≤ 6) (h0 : N 0 = nI M) : ∀ d y, y + d = M → b_X10_stepSend_181 (nI y) (wM σ (upd N 1330 (bv (fun y => ∃ x, x < M ∧ clr N b M y x) y)) O W b) = some (some none, wM σ (upd N 1330 (bv (fun y => ∃ x, x < M ∧ clr N b M y x) M)) O W b)
  | 0, y, hy => by
    rw [show y = M from by omega, q_X10_stepSend_181, if_neg c0, c0c, wM_N, upd_n (by omega), h0, if_neg (nI_nlt (by omega) (by omega))]
  | d + 1, y, hy => by
    have ih := m_181 (σ := σ) hM h0 d (y + 1) (by omega)
    rw [q_X10_stepSend_181, if_neg c0, c0c, wM_N, upd_n (by omega), h0, if_pos (nI_lt (by omega) (by omega)), m_193 hM h0 (by omega) M 0 _ (by omega)]
    have e : (∃ z, 0 ≤ z ∧ z < M ∧ clr N b M y z) ↔ (∃ x, x < M ∧ clr N b M y x) := ⟨fun ⟨z, _, g2, g3⟩ => ⟨z, g2, g3⟩, fun ⟨z, g2, g3⟩ => ⟨z, Nat.zero_le _, g2, g3⟩⟩
    by_cases k : ∃ x, x < M ∧ clr N b M y x
    · rw [if_pos (e.mpr k), bv_t (p := fun y => ∃ x, x < M ∧ clr N b M y x) (by omega) k]
      exact ih
    · rw [if_neg (fun g => k (e.mp g)), bv_f (p := fun y => ∃ x, x < M ∧ clr N b M y x) k]
      exact ih
end S2

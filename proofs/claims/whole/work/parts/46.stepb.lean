/-! Both rows: the whole of step (b) and what is had -/
section SB
variable {M K s r i n m k d h x y T c : Nat} {F G N C P Q O W C' N' : Nat → Int32} {v u t : Int32} {b : Int32} {q fr rn hd : Nat → Prop} {hp : Nat → Nat → Prop}
theorem m_waiting {σ : mS} (hs : s < 6) : e_X10_waiting (nI s) (wM σ N O W b) = some (some (some (.inl (wt N s))), wM σ N O W b) := by
  have st1 : ∀ (q : Nat) (x : Int32), q < 4 → b_X10_waiting_4 (nI s) x (nI q) (wM σ N O W b) = b_X10_waiting_4 (nI s) (x + N (147 + (4 * s + q))) (nI (q + 1)) (wM σ N O W b) := by
    intro q x hq
    rw [q_X10_waiting_4, if_pos (nI_lt hq (by omega)), r_at]
    dsimp only [bdI]
    rw [nI_add 147 (4 * s + q), nI_clamp (n := 147 + (4 * s + q)) (by omega), if_neg (ckn (by omega) (by omega)), wM_N, nI_1]
  rw [q_X10_waiting, st1 0 _ (by omega), st1 1 _ (by omega), st1 2 _ (by omega), st1 3 _ (by omega), q_X10_waiting_4]
  rw [if_neg (by decide)]
  rfl
theorem wt_nI (hq : IQ M N) (hs : s < M) : ∃ w, w ≤ 32 ∧ wt N s = nI w := by
  obtain ⟨n0, a0, b0, -⟩ := hq s 0 hs (by omega)
  obtain ⟨n1, a1, b1, -⟩ := hq s 1 hs (by omega)
  obtain ⟨n2, a2, b2, -⟩ := hq s 2 hs (by omega)
  obtain ⟨n3, a3, b3, -⟩ := hq s 3 hs (by omega)
  refine ⟨0 + n0 + n1 + n2 + n3, by omega, ?_⟩
  unfold wt
  rw [b0, b1, b2, b3, nI_add, nI_add, nI_add, nI_add]
theorem m_held_from {σ : mS} (hM : M ≤ 6) (h0 : F 0 = nI M) (hOz : ∀ z, z < M → O z = -1) (hf : ∀ z, z < M → (fr z ↔ ((F (1179 + 16 * z) = 0 ∧ F (135 + z) = -1) ∧ ¬ wt F z = 0))) (hr : ∀ z, z < M → (rn z ↔ sn (F 1331) z)) (hh : ∀ z, z < M → (hd z ↔ hO F b M z (-1) 0)) : ∀ d i, i + d = M →
    b_X10_stepHeld_2 (nI i) (wM σ (hiM (GH (hpD fr rn hd) i) F) O W b) = some (some none, wM σ (hiM (GH (hpD fr rn hd) M) F) O W b)
  | 0, i, hi => by
    rw [show i = M from by omega, q_X10_stepHeld_2, if_neg c0, c0c, wM_N, show hiM (GH (hpD fr rn hd) M) F 0 = F 0 from GH_no (by omega), h0, if_neg (nI_nlt (by omega) (by omega))]
  | d + 1, i, hi => by
    have ih := m_held_from (σ := σ) hM h0 hOz hf hr hh d (i + 1) (by omega)
    have hiM' : i < M := by omega
    have hi6 : i < 6 := by omega
    have e1 : ∀ k, (k < 1402 ∨ 1420 ≤ k) → hiM (GH (hpD fr rn hd) i) F k = F k := fun k hk => GH_no (by omega)
    have ew : wt (hiM (GH (hpD fr rn hd) i) F) i = wt F i := wt_c fun r hr => e1 _ (by omega)
    have ehO : hO (hiM (GH (hpD fr rn hd) i) F) b M i (-1) 0 ↔ hO F b M i (-1) 0 := by
      unfold hO
      constructor
      · rintro ⟨z, g1, g2, g3, g4, g5⟩
        rw [e1 _ (by omega)] at g4
        exact ⟨z, g1, g2, g3, g4, g5⟩
      · rintro ⟨z, g1, g2, g3, g4, g5⟩
        exact ⟨z, g1, g2, g3, by rw [e1 _ (by omega)]; exact g4, g5⟩
    have ef : (hiM (GH (hpD fr rn hd) i) F (1179 + 16 * i) = 0 ∧ hiM (GH (hpD fr rn hd) i) F (135 + i) = -1 ∧ O i = -1) ↔ (F (1179 + 16 * i) = 0 ∧ F (135 + i) = -1) := by
      rw [e1 _ (by omega), e1 _ (by omega)]
      exact ⟨fun g => ⟨g.1, g.2.1⟩, fun g => ⟨g.1, g.2, hOz i hiM'⟩⟩
    rw [q_X10_stepHeld_2, if_neg c0, c0c, wM_N, e1 0 (by omega), h0, if_pos (nI_lt (by omega) (by omega)), m_isFree hi6, bI_c ef, nI_1]
    dsimp only [bdI]
    by_cases k1 : F (1179 + 16 * i) = 0 ∧ F (135 + i) = -1
    · rw [if_bI k1, m_waiting hi6, ew]
      dsimp only
      by_cases k2 : wt F i = 0
      · rw [if_pos k2, GH_f (fun j hj g => ((hf i hiM').mp g.1).2 k2)]
        exact ih
      · have hfr : fr i := (hf i hiM').mpr ⟨k1, k2⟩
        rw [if_neg k2, nI_clamp (n := 1331) (by omega), if_neg (ckn (by omega) (by omega)), wM_N, e1 _ (by omega), m_has]
        dsimp only
        rw [pk_mul, nI_add 1402 (3 * i)]
        by_cases k3 : sn (F 1331) i
        · rw [if_bI k3, nI_add (1402 + 3 * i) 0, nI_clamp (n := 1402 + 3 * i + 0) (by omega), if_neg (ckn (by omega) (by omega)), if_neg (ckn (by omega) (by omega)), wM_N, wM_stN]
          have := GH_t (F := F) (hp := hpD fr rn hd) (i := i) (j := 0) (by omega) ⟨hfr, Or.inl ⟨rfl, (hr i hiM').mpr k3⟩⟩ (fun j' h1 h2 h3 => by
            rcases h3.2 with ⟨g, -⟩ | ⟨-, g, -⟩ | ⟨-, g, -⟩
            · exact h2 g
            · exact g ((hr i hiM').mpr k3)
            · exact g ((hr i hiM').mpr k3))
          rw [this]
          exact ih
        · have hnr : ¬ rn i := fun g => k3 ((hr i hiM').mp g)
          rw [if_nbI k3, m_hearsOthers hM (by rw [e1 0 (by omega)]; exact h0) hi6, bI_c ehO]
          dsimp only
          by_cases k4 : hO F b M i (-1) 0
          · have hyh : hd i := (hh i hiM').mpr k4
            rw [if_bI k4, nI_add (1402 + 3 * i) 1, nI_clamp (n := 1402 + 3 * i + 1) (by omega), if_neg (ckn (by omega) (by omega)), if_neg (ckn (by omega) (by omega)), wM_N, wM_stN]
            have := GH_t (F := F) (hp := hpD fr rn hd) (i := i) (j := 1) (by omega) ⟨hfr, Or.inr (Or.inl ⟨rfl, hnr, hyh⟩)⟩ (fun j' h1 h2 h3 => by
              rcases h3.2 with ⟨-, g⟩ | ⟨g, -⟩ | ⟨-, -, g⟩
              · exact hnr g
              · exact h2 g
              · exact g hyh)
            rw [this]
            exact ih
          · have hnh : ¬ hd i := fun g => k4 ((hh i hiM').mp g)
            rw [if_nbI k4, nI_add (1402 + 3 * i) 2, nI_clamp (n := 1402 + 3 * i + 2) (by omega), if_neg (ckn (by omega) (by omega)), if_neg (ckn (by omega) (by omega)), wM_N, wM_stN]
            have := GH_t (F := F) (hp := hpD fr rn hd) (i := i) (j := 2) (by omega) ⟨hfr, Or.inr (Or.inr ⟨rfl, hnr, hnh⟩)⟩ (fun j' h1 h2 h3 => by
              rcases h3.2 with ⟨-, g⟩ | ⟨-, -, g⟩ | ⟨g, -⟩
              · exact hnr g
              · exact hnh g
              · exact h2 g)
            rw [this]
            exact ih
    · rw [if_nbI k1, GH_f (fun j hj g => k1 ((hf i hiM').mp g.1).1)]
      exact ih
/-- the reference's row behind sending -/
noncomputable def nSent (N : Nat → Int32) (b : Int32) (M : Nat) : Nat → Int32 := upd (nCount (zcnt (pS N) M) (upd (upd (hiM (GT (pS N) M) N) 1329 b) 1332 (nI 1))) 1330 (bv (fun y => ∃ x, x < M ∧ clr N b M y x) M)
theorem nSent_n (hM : M ≤ 6) (hk : k < 1275 ∨ 1336 ≤ k ∨ k = 1331) : nSent N b M k = N k := by
  unfold nSent
  rw [upd_n (by omega), nCount_n (by omega), upd_n (by omega), upd_n (by omega)]
  exact GT_no (fun z hz => by omega)
theorem m_stepSend {σ : mS} (hM : M ≤ 6) (h0 : N 0 = nI M) : e_X10_stepSend (wM σ N O W b) = some (some none, wM σ (nSent N (bv (pS N) M) M) O W (bv (pS N) M)) := by
  have hz := m_send_from (σ := σ) (O := O) (W := W) hM h0 M 0 (by omega)
  have hz0 : hiM (GT (pS N) 0) N = N := by
    funext k
    exact GT_no (fun z hz => by omega)
  have hc0 : zcnt (pS N) 0 = 0 := rfl
  rw [hz0, bv_0, hc0] at hz
  have e1 : ∀ k, (k < 1275 ∨ 1329 ≤ k) → hiM (GT (pS N) M) N k = N k := fun k hk => GT_no (fun z hz => by omega)
  have hcl : ∀ (F : Nat → Int32), (∀ k, k < 1275 → F k = N k) → bv (fun y => ∃ x, x < M ∧ clr F (bv (pS N) M) M y x) M = bv (fun y => ∃ x, x < M ∧ clr N (bv (pS N) M) M y x) M := fun F hF => bv_c fun y hy => ⟨fun ⟨x, g1, g2⟩ => ⟨x, g1, (clr_N hM (by omega) (by omega) (fun k _ _ => hF k (by omega))).mp g2⟩, fun ⟨x, g1, g2⟩ => ⟨x, g1, (clr_N hM (by omega) (by omega) (fun k _ _ => hF k (by omega))).mpr g2⟩⟩
  have hend : ∀ (F : Nat → Int32), (∀ k, k < 1275 → F k = N k) → b_X10_stepSend_181 (nI 0) (wM σ (upd F 1330 (nI 0)) O W (bv (pS N) M)) = some (some none, wM σ (upd F 1330 (bv (fun y => ∃ x, x < M ∧ clr N (bv (pS N) M) M y x) M)) O W (bv (pS N) M)) := fun F hF => by
    have := m_181 (σ := σ) (O := O) (W := W) (b := bv (pS N) M) (N := F) hM (by rw [hF 0 (by omega)]; exact h0) M 0 (by omega)
    rw [bv_0, hcl F hF] at this
    exact this
  have hcz := zcnt_le (pS N) M
  rw [q_X10_stepSend, wM_stb]
  dsimp only
  rw [hz, q_X10_stepSend_9, if_neg c0, c0c, wM_N, e1 0 (by omega), h0, if_neg (nI_nlt (by omega) (by omega))]
  unfold nSent nCount
  generalize zcnt (pS N) M = cc at hcz ⊢
  rw [nI_clamp (n := 1329) (by omega), if_neg (ckn (by omega) (by omega)), nI_clamp (n := 1332) (by omega), if_neg (ckn (by omega) (by omega)), wM_b, wM_stN, wM_stN]
  dsimp only
  rcases Nat.eq_zero_or_pos cc with k1 | k1
  · subst k1
    rw [if_pos n00, if_pos rfl, nI_clamp (n := 1334) (by omega), if_neg (ckn (by omega) (by omega)), if_neg (ckn (by omega) (by omega)), nI_clamp (n := 1330) (by omega), if_neg (ckn (by omega) (by omega)), wM_N, wM_stN, wM_stN]
    exact hend _ (fun k hk => by rw [upd_n (by omega), upd_n (by omega), upd_n (by omega), e1 k (by omega)])
  · rw [if_neg (nI_ne0 k1 (by omega)), if_neg (show ¬ cc = 0 by omega)]
    by_cases k2 : cc = 1
    · subst k2
      rw [if_pos rfl, if_pos rfl, nI_clamp (n := 1333) (by omega), if_neg (ckn (by omega) (by omega)), if_neg (ckn (by omega) (by omega)), nI_clamp (n := 1330) (by omega), if_neg (ckn (by omega) (by omega)), wM_N, wM_stN, wM_stN]
      exact hend _ (fun k hk => by rw [upd_n (by omega), upd_n (by omega), upd_n (by omega), e1 k (by omega)])
    · rw [if_neg (fun g => k2 ((nI_eq (by omega) (by omega)).mp g)), if_neg k2, nI_clamp (n := 1335) (by omega), if_neg (ckn (by omega) (by omega)), if_neg (ckn (by omega) (by omega)), nI_clamp (n := 1330) (by omega), if_neg (ckn (by omega) (by omega)), wM_N, wM_stN, wM_stN]
      exact hend _ (fun k hk => by rw [upd_n (by omega), upd_n (by omega), upd_n (by omega), e1 k (by omega)])
end SB

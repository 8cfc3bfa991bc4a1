/-! Both rows: the whole of step (a) -/
section SA
variable {M K s r i n m k d h x y T : Nat} {F G N C P Q O W C' N' : Nat → Int32} {v u t : Int32} {b : Int32} {p : Nat → Nat}
theorem db_free (hd : DB M N) (hM : M ≤ 6) (hy : y < M) : N (141 + y) = 0 ↔ N (135 + y) = -1 := by
  rcases hd.1 y hy with ⟨g1, g2⟩ | ⟨x, g1, g2, g3, g4, g5, g6⟩
  · exact ⟨fun _ => g1, fun _ => g2⟩
  · have h1 : ¬ N (141 + y) = 0 := by
      rcases g6 with ⟨g, -⟩ | ⟨g, -⟩
      · rw [g]; decide
      · rw [g]; decide
    have h2 : ¬ N (135 + y) = -1 := fun q => by
      rw [g2] at q
      exact nI_pos (n := x) (by omega) (by rw [q]; decide)
    exact ⟨fun q => absurd q h1, fun q => absurd q h2⟩
theorem j_begins {a : Nat} : ∀ (d s : Nat) (C N : Nat → Int32), s + d = M → IC M N → DB M N → Rl M C N P Q → (∀ z, z < M → P z = N (135 + z) ∧ Q z = N (141 + z)) → (∀ z, z < M → (sn (N 1331) z ↔ N 1 < N (129 + z))) →
    ∃ C' N', (∀ σ, b_X0_passSlot_15 a (nI s) (wC a σ C) = b_X0_passSlot_15 a (nI M) (wC a σ C')) ∧ (∀ σ O W b, (∀ z, z < M → O z = -1) → b_X10_stepBegin_85 (nI s) (wM σ N O W b) = some (some none, wM σ N' O W b)) ∧ IC M N' ∧ DB M N' ∧ Rl M C' N' P Q ∧ (∀ k, k ≠ 14 → (k < 147 ∨ 1329 ≤ k) → k ≠ 1337 → k ≠ 1339 → k ≠ 1341 → N' k = N k) ∧ ∀ z, z < M → N' (1275 + 9 * z + 1) = N (1275 + 9 * z + 1)
  | 0, s, C, N, hs, hI, hD, hR, _, _ => by
    have hM := hI.1.2.1
    have : s = M := by omega
    subst this
    refine ⟨C, N, fun σ => rfl, fun σ O W b hO => ?_, hI, hD, hR, fun _ _ _ _ _ _ => rfl, fun _ _ => rfl⟩
    rw [q_X10_stepBegin_85, if_neg c0, c0c, wM_N, hI.1.1, if_neg (nI_nlt (by omega) (by omega))]
  | d + 1, s, C, N, hs, hI, hD, hR, hPQ, hran => by
    have hM := hI.1.2.1
    have hsM : s < M := by omega
    have hlt : nI s < nI M := nI_lt (by omega) (by omega)
    have cs : ¬ (nI s < 0 ∨ 6 ≤ s) := ckn (by omega) (by omega)
    have hfr : (C (1179 + 16 * s) = 0 ∧ C (141 + s) = 0) ↔ (N (1179 + 16 * s) = 0 ∧ N (135 + s) = -1) := by
      rw [hR.on hsM, (hR.2.2.2.2 s hsM).2, (hPQ s hsM).2, db_free hD hM hsM]
    have hc0 : ∀ (σ : mS), b_X0_passSlot_15 a (nI s) (wC a σ C) = (
      if bI (N (1179 + 16 * s) = 0 ∧ N (135 + s) = -1) = 0 then b_X0_passSlot_15 a (nI (s + 1)) (wC a σ C)
      else if N 1 < N (129 + s) then b_X0_passSlot_15 a (nI (s + 1)) (wC a σ C)
      else bdV (b_X0_beginOf_4 a (nI s) (-1) (nI 0) (wC a σ C)) (fun σ3 => b_X0_passSlot_15 a (nI (s + 1)) σ3)) := by
      intro σ
      rw [q_X0_passSlot_15, rC_many, hR.pl (pd_lo (by omega)), hI.1.1, if_pos hlt, nI_clamp (n := s) (by omega), if_neg cs, c_isFree (by omega), bI_c hfr]
      dsimp only [bdI]
      simp only [if_neg cs]
      rw [rC_time, rC_span (by omega), hR.pl (pd_lo (k := 1) (by omega)), hR.pl (pd_sp hM hsM), q_X0_beginOf, nI_1]
    have hm0 : ∀ (σ : mS) (O W : Nat → Int32) (b : Int32), (∀ z, z < M → O z = -1) → b_X10_stepBegin_85 (nI s) (wM σ N O W b) = (
      if bI (N (1179 + 16 * s) = 0 ∧ N (135 + s) = -1) = 0 then b_X10_stepBegin_85 (nI (s + 1)) (wM σ N O W b)
      else if bI (sn (N 1331) s) = 0 then b_X10_stepBegin_125 (nI s) (nI 0) (nI 0) (wM σ N O W b)
      else b_X10_stepBegin_85 (nI (s + 1)) (wM σ N O W b)) := by
      intro σ O W b hO
      have hfo : (N (1179 + 16 * s) = 0 ∧ N (135 + s) = -1 ∧ O s = -1) ↔ (N (1179 + 16 * s) = 0 ∧ N (135 + s) = -1) := ⟨fun q => ⟨q.1, q.2.1⟩, fun q => ⟨q.1, q.2, hO s hsM⟩⟩
      rw [q_X10_stepBegin_85, if_neg c0, c0c, wM_N, hI.1.1, if_pos hlt, m_isFree (by omega), bI_c hfo]
      dsimp only [bdI]
      rw [nI_clamp (n := 1331) (by omega), if_neg (ckn (by omega) (by omega)), wM_N, m_has, nI_1]
    by_cases k1 : N (1179 + 16 * s) = 0 ∧ N (135 + s) = -1
    · by_cases k2 : N 1 < N (129 + s)
      · obtain ⟨C', N', c2, m2, I2, D2, R2, B2, T2⟩ := j_begins (a := a) d (s + 1) C N (by omega) hI hD hR hPQ hran
        refine ⟨C', N', fun σ => ?_, fun σ O W b hO => ?_, I2, D2, R2, B2, T2⟩
        · rw [hc0, if_bI k1, if_pos k2]; exact c2 σ
        · rw [hm0 _ _ _ _ hO, if_bI k1, if_bI ((hran s hsM).mpr k2)]; exact m2 σ O W b hO
      · obtain ⟨C1, N1, c1, m1, I1, D1, R1, B1⟩ := j_ranks (a := a) hsM 4 0 C N (-1) (nI 0) rfl hI hD hR (Or.inl ⟨rfl, rfl, k1.1⟩)
        have e1 : ∀ k, k ≠ 14 → (k < 147 ∨ 1329 ≤ k) → k ≠ 1337 → k ≠ 1339 → k ≠ 1341 → N1 k = N k := fun k a1 a2 a3 a4 a5 => B1 k a1 (by omega) (by omega) (by omega) (by omega) (by omega) a3 a4 a5
        obtain ⟨C', N', c2, m2, I2, D2, R2, B2, T2⟩ := j_begins (a := a) d (s + 1) C1 N1 (by omega) I1 D1 R1 (fun z hz => by rw [e1 _ (by omega) (by omega) (by omega) (by omega) (by omega), e1 _ (by omega) (by omega) (by omega) (by omega) (by omega)]; exact hPQ z hz) (fun z hz => by rw [e1 _ (by omega) (by omega) (by omega) (by omega) (by omega), e1 _ (by omega) (by omega) (by omega) (by omega) (by omega), e1 _ (by omega) (by omega) (by omega) (by omega) (by omega)]; exact hran z hz)
        refine ⟨C', N', fun σ => ?_, fun σ O W b hO => ?_, I2, D2, R2, fun k a1 a2 a3 a4 a5 => by rw [B2 k a1 a2 a3 a4 a5, e1 k a1 a2 a3 a4 a5], fun z hz => by rw [T2 z hz, B1 _ (by omega) (by omega) (by omega) (by omega) (by omega) (by omega) (by omega) (by omega) (by omega)]⟩
        · rw [hc0, if_bI k1, if_neg k2, c1]
          exact c2 σ
        · rw [hm0 _ _ _ _ hO, if_bI k1, if_nbI (fun q => k2 ((hran s hsM).mp q)), m1]
          exact m2 σ O W b hO
    · obtain ⟨C', N', c2, m2, I2, D2, R2, B2, T2⟩ := j_begins (a := a) d (s + 1) C N (by omega) hI hD hR hPQ hran
      refine ⟨C', N', fun σ => ?_, fun σ O W b hO => ?_, I2, D2, R2, B2, T2⟩
      · rw [hc0, if_nbI k1]; exact c2 σ
      · rw [hm0 _ _ _ _ hO, if_nbI k1]; exact m2 σ O W b hO
theorem c_ran_from {a : Nat} {σ : mS} (hM : M ≤ 6) (h0 : C 0 = nI M) : ∀ d i, i + d = M → b_X0_runningSpans_4 a (bv (fun z => C 1 < C (129 + z)) i) (nI i) (wC a σ C) = some (some (some (.inl (bv (fun z => C 1 < C (129 + z)) M))), wC a σ C)
  | 0, i, hi => by
    rw [show i = M from by omega, q_X0_runningSpans_4, rC_many, h0, if_neg (nI_nlt (by omega) (by omega))]
  | d + 1, i, hi => by
    have ih := c_ran_from (a := a) (σ := σ) hM h0 d (i + 1) (by omega)
    rw [q_X0_runningSpans_4, rC_many, h0, if_pos (nI_lt (by omega) (by omega)), nI_clamp (n := i) (by omega), if_neg (ckn (by omega) (by omega)), rC_time, rC_span (by omega), nI_1]
    by_cases k1 : C 1 < C (129 + i)
    · rw [if_pos k1, bv_t (p := fun z => C 1 < C (129 + z)) (by omega) k1]
      exact ih
    · rw [if_neg k1, bv_f' (p := fun z => C 1 < C (129 + z)) k1]
      exact ih
def oZ (O : Nat → Int32) (w : Int32) (i : Nat) : Nat → Int32 := fun k => if k < i then w else O k
theorem oZ_s {w : Int32} : upd (oZ O w i) i w = oZ O w (i + 1) := by
  funext k
  unfold upd oZ
  by_cases e : k = i
  · rw [if_pos e, if_pos (by omega)]
  · rw [if_neg e]
    by_cases e2 : k < i
    · rw [if_pos e2, if_pos (by omega)]
    · rw [if_neg e2, if_neg (by omega)]
theorem m_20 {σ : mS} (hM : M ≤ 6) (h0 : N 0 = nI M) : ∀ d i, i + d = M → b_X10_stepBegin_20 (nI i) (wM σ (upd N 1331 (bv (fun z => N 1 < N (129 + z)) i)) (oZ O (-1) i) (oZ W (nI 0) i) b) = b_X10_stepBegin_85 (nI 0) (wM σ (upd N 1331 (bv (fun z => N 1 < N (129 + z)) M)) (oZ O (-1) M) (oZ W (nI 0) M) b)
  | 0, i, hi => by
    rw [show i = M from by omega, q_X10_stepBegin_20, if_neg c0, c0c, wM_N, upd_n (by omega), h0, if_neg (nI_nlt (by omega) (by omega))]
  | d + 1, i, hi => by
    have ih := m_20 (σ := σ) hM h0 d (i + 1) (by omega)
    rw [q_X10_stepBegin_20, if_neg c0, c0c, wM_N, upd_n (by omega), h0, if_pos (nI_lt (by omega) (by omega)), nI_clamp (n := i) (by omega), if_neg (ckn (by omega) (by omega)), if_neg (ckn (by omega) (by omega)), wM_stO, wM_stW, oZ_s, oZ_s, nI_clamp (n := 1) (by omega), if_neg (ckn (by omega) (by omega)), nI_add 129 i, nI_clamp (n := 129 + i) (by omega), if_neg (ckn (by omega) (by omega))]
    dsimp only
    rw [wM_N, wM_N, upd_n (by omega), upd_n (by omega), nI_clamp (n := 1331) (by omega), if_neg (ckn (by omega) (by omega)), if_neg (ckn (by omega) (by omega)), wM_N, wM_stN, upd_e rfl, upd_u, nI_1]
    by_cases k1 : N 1 < N (129 + i)
    · rw [if_pos k1, bv_t (p := fun z => N 1 < N (129 + z)) (by omega) k1]
      exact ih
    · rw [if_neg k1, bv_f (p := fun z => N 1 < N (129 + z)) k1]
      exact ih
/-- step (a) -/
theorem j_stepA {a : Nat} (hI : IC M N) (hD : DB M N) (hR : Rl M C N (fun z => N (135 + z)) (fun z => N (141 + z))) :
    ∃ C' N', (∀ σ, e_X0_passSlot a (wC a σ C) = b_X0_passSlot_15 a (nI M) (wC a σ C')) ∧ (∀ σ O W b, e_X10_stepBegin (wM σ N O W b) = some (some none, wM σ N' (oZ O (-1) M) (oZ W (nI 0) M) b)) ∧ IC M N' ∧ DB M N' ∧ Rl M C' N' (fun z => N' (135 + z)) (fun z => N' (141 + z)) ∧ (∀ k, k ≠ 14 → (k < 147 ∨ 1329 ≤ k) → k ≠ 1331 → k ≠ 1337 → k ≠ 1339 → k ≠ 1341 → N' k = N k) ∧ (∀ z, z < M → N' (1275 + 9 * z + 1) = N (1275 + 9 * z + 1)) ∧ N' 1331 = bv (fun z => N 1 < N (129 + z)) M := by
  have hM := hI.1.2.1
  have e0 : ∀ k, k ≠ 1331 → k ≠ 1341 → upd (upd N 1331 (bv (fun z => N 1 < N (129 + z)) M)) 1341 (nI 0) k = N k := fun k a1 a2 => by rw [upd_n a2, upd_n a1]
  have I0 : IC M (upd (upd N 1331 (bv (fun z => N 1 < N (129 + z)) M)) 1341 (nI 0)) := by
    obtain ⟨i1, i2, i3, i4, i5⟩ := hI
    exact ⟨i1.mono fun k hk => e0 k (by omega) (by omega), i2.mono hM fun k _ _ => e0 k (by omega) (by omega), i3.mono hM (fun k _ _ => e0 k (by omega) (by omega)) (fun k _ _ => e0 k (by omega) (by omega)), fun z hz => (i4 z hz).mono hz hM (fun k _ _ => e0 k (by omega) (by omega)) (fun k _ _ _ _ => e0 k (by omega) (by omega)) (fun k _ _ => e0 k (by omega) (by omega)) (fun k hk => e0 _ (by omega) (by omega)), i5.mono hM (e0 _ (by omega) (by omega)) (fun k _ _ => e0 k (by omega) (by omega)) (fun z t hz ht => e0 _ (by omega) (by omega))⟩
  have D0 : DB M (upd (upd N 1331 (bv (fun z => N 1 < N (129 + z)) M)) 1341 (nI 0)) := hD.mono hM (fun k _ _ => e0 k (by omega) (by omega)) (fun k _ _ => e0 k (by omega) (by omega))
  have R0 : Rl M (upd (upd C 1331 (bv (fun z => N 1 < N (129 + z)) M)) 1341 (nI 0)) (upd (upd N 1331 (bv (fun z => N 1 < N (129 + z)) M)) 1341 (nI 0)) (fun z => N (135 + z)) (fun z => N (141 + z)) := (hR.u hM (Or.inr (Or.inr (Or.inr (by omega))))).u hM (Or.inr (Or.inr (Or.inr (by omega))))
  have hcr : ∀ z, z < M → (C 1 < C (129 + z) ↔ N 1 < N (129 + z)) := fun z hz => by rw [hR.pl (pd_lo (k := 1) (by omega)), hR.pl (pd_sp hM hz)]
  have hbc : bv (fun z => C 1 < C (129 + z)) M = bv (fun z => N 1 < N (129 + z)) M := bv_c hcr
  have key := j_begins (a := a) M 0 _ _ (by omega) I0 D0 R0 (fun z hz => ⟨by rw [e0 _ (by omega) (by omega)], by rw [e0 _ (by omega) (by omega)]⟩) (fun z hz => by rw [upd_n (by omega), upd_e rfl, e0 _ (by omega) (by omega), e0 _ (by omega) (by omega), bv_sn hM (by omega)]; exact ⟨fun q => q.2, fun q => ⟨hz, q⟩⟩)
  obtain ⟨C', N', c1, m1, I1, D1, R1, B1, T1⟩ := key
  refine ⟨C', N', fun σ => ?_, fun σ O W b => ?_, I1, D1, ?_, fun k a1 a2 a3 a4 a5 a6 => by rw [B1 k a1 a2 a4 a5 a6, e0 k a3 a6], fun z hz => by rw [T1 z hz, e0 _ (by omega) (by omega)], ?_⟩
  · rw [q_X0_passSlot, q_X0_runningSpans]
    have := c_ran_from (C := C) (a := a) (σ := σ) hM (by rw [hR.pl (pd_lo (by omega))]; exact hI.1.1) M 0 (by omega)
    rw [bv_0] at this
    rw [this]
    dsimp only [bdI]
    rw [sC_ran, sC_beginning, hbc]
    exact c1 σ
  · rw [q_X10_stepBegin, nI_clamp (n := 1341) (by omega), if_neg (ckn (by omega) (by omega)), nI_clamp (n := 1331) (by omega), if_neg (ckn (by omega) (by omega)), wM_stN, wM_stN]
    have h20 := m_20 (σ := σ) (O := O) (W := W) (b := b) (N := upd N 1341 (nI 0)) hM (by rw [upd_n (by omega)]; exact hI.1.1) M 0 (by omega)
    rw [bv_0] at h20
    have ez : ∀ (w : Int32) (O : Nat → Int32), oZ O w 0 = O := fun w O => by
      funext k
      unfold oZ
      rw [if_neg (by omega)]
    rw [ez, ez] at h20
    have eb : bv (fun z => upd N 1341 (nI 0) 1 < upd N 1341 (nI 0) (129 + z)) M = bv (fun z => N 1 < N (129 + z)) M := bv_c fun z hz => by rw [upd_n (by omega), upd_n (by omega)]
    rw [eb] at h20
    dsimp only
    rw [h20, upd_c (k := 1341) (j := 1331) (by omega)]
    exact m1 σ _ _ b (fun z hz => if_pos hz)
  · have eP : (fun z => N' (135 + z)) = (fun z => N' (135 + z)) := rfl
    obtain ⟨r1, r2, r3, r4, r5⟩ := R1
    exact ⟨r1, r2, r3, r4, fun z hz => by
      have := r5 z hz
      dsimp only at this ⊢
      rw [B1 _ (by omega) (by omega) (by omega) (by omega) (by omega), B1 _ (by omega) (by omega) (by omega) (by omega) (by omega), e0 _ (by omega) (by omega), e0 _ (by omega) (by omega)]
      exact this⟩
  · rw [B1 _ (by omega) (by omega) (by omega) (by omega) (by omega), upd_n (by omega), upd_e rfl]
end SA

/-! A slot, both rows -/
section SL
variable {M K T s r i j n m k d h x y z : Nat} {F G N0 N C P Q C' N' P' Q' : Nat → Int32} {v u t : Int32}
theorem bdV_as {A : Option mR} {H k : mS → Option mR} : bdV A (fun s => bdV (H s) k) = bdV (bdV A H) k := by
  cases A with
  | none => rfl
  | some e =>
    obtain ⟨o, s⟩ := e
    cases o with
    | none => rfl
    | some o => cases o <;> rfl
theorem oZ_0 {O : Nat → Int32} {w : Int32} : oZ O w 0 = O := by
  funext k
  unfold oZ
  rw [if_neg (by omega)]
theorem oZ_l {O : Nat → Int32} {w : Int32} (h : k < n) : oZ O w n k = w := by
  unfold oZ
  rw [if_pos h]
theorem IS.mono1 (hI : IS M N) (e : ∀ k, k < 51 → k ≠ 1 → N' k = N k) : IS M N' := by
  obtain ⟨i0, i1, i2, i3, i4, i5⟩ := hI
  refine ⟨(e 0 (by omega) (by omega)).trans i0, i1, fun i hi => ?_, fun s z hs hz => ?_, fun s hs => (e _ (by omega) (by omega)).trans (i4 s hs), fun s z hs hz h => (e _ (by omega) (by omega)).trans (i5 s z hs hz h)⟩
  · obtain ⟨v, a, b⟩ := i2 i hi
    exact ⟨v, (e _ (by omega) (by omega)).trans a, b⟩
  · obtain ⟨q, a, b, c⟩ := i3 s z hs hz
    exact ⟨q, a, (e _ (by omega) (by omega)).trans b, (e _ (by omega) (by omega)).trans c⟩
theorem IC.tm (hI : IC M N) : IC M (upd N 1 v) := by
  obtain ⟨i1, i2, i3, i4, i5⟩ := hI
  have hM := i1.2.1
  exact ⟨i1.mono1 fun k hk g => upd_n g, i2.mono hM fun k _ _ => upd_n (by omega), i3.mono hM (fun k _ _ => upd_n (by omega)) (fun k _ _ => upd_n (by omega)), fun z hz => (i4 z hz).mono hz hM (fun k _ _ => upd_n (by omega)) (fun k _ _ _ _ => upd_n (by omega)) (fun k _ _ => upd_n (by omega)) (fun k hk => upd_n (by omega)), i5.mono hM (upd_n (by omega)) (fun k _ _ => upd_n (by omega)) (fun s t hs ht => upd_n (by omega))⟩
/-- a debt list at rest, as the class holds it -/
abbrev dO (N : Nat → Int32) : Nat → Int32 := fun z => N (135 + z)
abbrev dW (N : Nat → Int32) : Nat → Int32 := fun z => N (141 + z)
theorem IV.ic (h : IV M K N) : IC M N := ⟨h.1, h.2.1, h.2.2.1, h.2.2.2.1, h.2.2.2.2.2.1⟩
theorem IV.mk' (h : IC M N) (hd : DB M N) (ht : IT M K N) : IV M K N := ⟨h.1, h.2.1, h.2.2.1, h.2.2.2.1, hd, h.2.2.2.2, ht⟩
theorem j_slot {a : Nat} (hV : IV M K N) (hK : K + 1 < 2 ^ 24) (hR : Rl M C N (dO N) (dW N)) (O W : Nat → Int32) (b0 : Int32) :
    ∃ C' N' O' W' b', (∀ σ, e_X0_passSlot a (wC a σ C) = some (some none, wC a σ C')) ∧ (∀ σ, e_X10_slot (wM σ N O W b0) = some (some none, wM σ N' O' W' b')) ∧ IV M (K + 1) N' ∧ Rl M C' N' (dO N') (dW N') ∧ N' 1 = N 1 + nI 1 := by
  have hI := hV.ic
  have hD := hV.2.2.2.2.1
  have hT := hV.2.2.2.2.2.2
  have hM := hI.1.2.1
  obtain ⟨C1, N1, s1, s2, i1, d1, R1, f1, f2, -⟩ := j_stepA (a := a) hI hD hR
  generalize hb : bv (pS N1) M = b
  obtain ⟨C2, s3, s4, i2, d2, R2, f3, f4⟩ := j_stepB (a := a) i1 d1 R1 hb.symm
  have hn : ∀ k, k < 1275 ∨ (1336 ≤ k ∧ k < 1402) ∨ 1420 ≤ k ∨ k = 1331 → nHeld N1 b M k = N1 k := fun k hk => nHeld_n hM hk
  have hnt : ∀ z, z < M → nHeld N1 b M (1275 + 9 * z + 1) = N1 (1275 + 9 * z + 1) := fun z hz => nHeld_t hM hz (by omega) (by omega)
  generalize nHeld N1 b M = N0 at *
  have hb0 : b = bv (pS N0) M := by
    rw [← hb]
    refine bv_c fun z hz => ?_
    unfold pS
    rw [hn _ (by omega), hn _ (by omega), hn _ (by omega)]
  obtain ⟨t, t1, t2, t3, t4, t5⟩ := hT
  have oO : ∀ z, z < M → oZ O (-1) M z = -1 := fun z hz => oZ_l hz
  have oW : ∀ z, z < M → oZ W (nI 0) M z = nI 0 := fun z hz => oZ_l hz
  have md0 : Md M (36 * t) b N0 N0 (oZ O (-1) M) (oZ W (nI 0) M) 0 := by
    refine ⟨i2, fun _ _ => rfl, fun _ _ _ _ _ => rfl, fun s _ h => by omega, fun y hy => Or.inl ⟨oO y hy, oW y hy⟩, fun s hs => ?_⟩
    obtain ⟨u, u1, u2⟩ := t5 s hs
    exact ⟨u, by rw [if_neg (by omega)]; omega, (hnt s hs).trans ((f2 s hs).trans u2)⟩
  obtain ⟨C3, N3, O3, W3, s5, s6, m3, R3⟩ := snd_all_from (a := a) i2 d2 hb0 f3 M 0 C2 N0 (oZ O (-1) M) (oZ W (nI 0) M) (by omega) md0 (R2.pq fun z hz => by
    have e1 := dP_0 (O := oZ O (-1) M) (W := oZ W (nI 0) M) d2 hM hz (oO z hz)
    have e2 := hn (135 + z) (by omega)
    have e3 := hn (141 + z) (by omega)
    exact ⟨e1.1.trans e2, e1.2.trans e3⟩)
  have R3' : Rl M C3 N3 O3 W3 := R3.pq fun z hz => by
    have e := dP_M (W := W3) d2 hM hz (m3.2.2.2.2.1 z hz)
    exact ⟨e.1.symm, e.2.symm⟩
  have n30 : N3 0 = nI M := m3.1.1.1
  have n3b : N3 1329 = b := (m3.2.1 _ (by unfold keepK; omega)).trans f3
  obtain ⟨C4, s7, R4⟩ := j_end_from (a := a) hM hb0 M 0 C3 N3 (by omega) n30 n3b R3'
  have s8 := fun σ => m_end_from (σ := σ) (O := O3) (W := W3) (b := b) hM M 0 N3 (by omega) n30
  have en : ∀ k, ((k < 123 ∨ 129 ≤ k) ∧ (k < 135 ∨ 147 ≤ k) ∧ (k < 1155 ∨ 1179 ≤ k)) → eN b M O3 W3 M 0 N3 k = N3 k := fun k hk => eN_n hk M 0 N3 (by omega)
  have eo : ∀ z, z < M → eN b M O3 W3 M 0 N3 (135 + z) = O3 z ∧ eN b M O3 W3 M 0 N3 (141 + z) = W3 z := fun z hz => eN_o M 0 N3 (by omega) z (by omega) (by omega)
  generalize eN b M O3 W3 M 0 N3 = E at *
  have ic : IC M (upd E 1 (N3 1 + nI 1)) := IC.tm (m3.1.mono (fun k hk => en k (by omega)) (fun k _ _ => en k (by omega)) (fun k _ _ => en k (by omega)) (fun s t hs ht => en _ (by omega)) (fun k _ _ => en k (by omega)))
  have db : DB M (upd E 1 (N3 1 + nI 1)) := md_db d2 i2 hb0 m3 (fun y hy => by rw [upd_n (by omega)]; exact (eo y hy).1) (fun y hy => by rw [upd_n (by omega)]; exact (eo y hy).2) (fun k _ _ => by rw [upd_n (by omega)]; exact en k (by omega))
  have tm : N3 1 = nI t := (m3.2.1 1 (by unfold keepK; omega)).trans ((hn 1 (by omega)).trans ((f1 1 (by omega) (by omega) (by omega) (by omega) (by omega) (by omega)).trans t3))
  refine ⟨C4, upd E 1 (N3 1 + nI 1), oZ O3 (-1) M, W3, b, fun σ => ?_, fun σ => ?_, IV.mk' ic db ⟨t + 1, by omega, hK, ?_, ?_, fun s hs => ?_⟩, R4.pq fun z hz => ?_, ?_⟩
  · rw [s1, s3, s5, q_X0_passSlot_84, rC_many, (R3'.pl (pd_lo (by omega))).trans n30, if_neg (nI_nlt (by omega) (by omega))]
    exact s7 σ
  · rw [q_X10_slot, s2]
    show bdV (e_X10_stepSend _) _ = _
    rw [bdV_as, show bdV (e_X10_stepSend (wM σ N1 (oZ O (-1) M) (oZ W (nI 0) M) b0)) e_X10_stepHeld = some (some none, wM σ N0 (oZ O (-1) M) (oZ W (nI 0) M) b) from s4 σ _ _ _ oO]
    show b_X10_slot_14 _ _ = _
    rw [s6, q_X10_slot_14, nI_clamp (n := 0) (by omega), if_neg (ckn (n := 0) (by omega) (by omega)), wM_N, n30, if_neg (nI_nlt (by omega) (by omega)), q_X10_stepEnd]
    have h8 := s8 σ
    rw [oZ_0] at h8
    rw [h8]
    rfl
  · rw [upd_e rfl, tm]
    exact nI_add _ _
  · rw [upd_n (by omega), en _ (by omega), m3.2.1 1332 (by unfold keepK; omega), f4, if_neg (by omega)]
  · obtain ⟨u, u1, u2⟩ := m3.2.2.2.2.2 s hs
    rw [if_pos hs] at u1
    exact ⟨u, by omega, by rw [upd_n (by omega), en _ (by omega)]; exact u2⟩
  · have := eo z hz
    unfold dO dW
    rw [upd_n (by omega), upd_n (by omega)]
    exact this
  · rw [upd_e rfl, tm, t3]
end SL

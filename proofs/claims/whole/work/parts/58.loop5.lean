/-! Amid a slot: who asks -/
section MH
variable {M K T s r i j n m k d h x y z x1 x2 c q w : Nat} {F G N0 N C P Q O W C' N' P' Q' O' W' : Nat → Int32} {v u t : Int32} {b : Int32} {w1 : Prop} {wb : Nat → Prop} {p : Nat → Nat}
theorem clr_idle (hM : M ≤ 6) (hb : b = bv (pS N0) M) (hy : y < M) (hc : ¬ sn b y) : N0 (135 + y) = -1 := by
  apply Classical.byContradiction
  intro e
  apply hc
  rw [hb]
  exact (bv_sn hM (by omega)).mpr ⟨hy, Or.inr e⟩
theorem snd_ask {a : Nat} (hI0 : IC M N0) (hD : DB M N0) (hb : b = bv (pS N0) M) (hB : N0 1329 = b) (hm : Md M T b N0 N O W j) (hj : j < M) (hR : Rl M C N (dP N0 O j) (dQ N0 O W j)) (hE : EX M N j y r h 0 c q w p) : SndTo M T a b N0 N C O W j := by
  have hm' := hm
  obtain ⟨m1, m2, m3, m4, m5, m6⟩ := hm'
  have hM := m1.1.2.1
  have hN0 := m1.1.1
  have h00 : C 0 = nI M := by rw [hR.pl (pd_lo (by omega))]; exact hN0
  have hE' := hE
  obtain ⟨⟨a0, a1, a2, a3, a4, a7, a8, a6⟩, ⟨hy, b2, b3, hr, -⟩, -⟩ := hE'
  obtain ⟨e1, e2, e3, e4, e5, -⟩ := (hR.ex hj).2 a0
  have m30 : N (1179 + 16 * j) = N0 (1179 + 16 * j) := m3 j (Nat.le_refl _) hj 0 (by omega)
  have m31 := m3 j (Nat.le_refl _) hj 1 (by omega)
  have m34 := m3 j (Nat.le_refl _) hj 4 (by omega)
  have m3f := m3 j (Nat.le_refl _) hj 15 (by omega)
  have o0 : N0 (1179 + 16 * j) = nI 1 := m30.symm.trans a0
  have y0 : N0 (1179 + 16 * j + 1) = nI y := m31.symm.trans a1
  have p0 : N0 (1179 + 16 * j + 4) = nI 0 := m34.symm.trans a4
  have hr0 : N (1179 + 16 * j + 15) = nI 0 := m3f.trans ((hD.2.1 j y hj hy o0 y0).2.1 (Or.inl p0))
  have hNb : N 1329 = b := (m2 _ (by unfold keepK; omega)).trans hB
  have k135 : N (135 + y) = N0 (135 + y) := m2 _ (by unfold keepK; omega)
  obtain ⟨C', N', O', W', P', Q', c1, c2, c3, ⟨t1, t2, t3⟩⟩ := j_ask (a := a) (O := O) (W := W) m1.1 hR hb hNb hj hy a0 a1 a4 hr0 (fun hc => by
    have hf := clr_idle hM hb hy hc.2.2.2.1
    rw [dQ_free hD hM hj hy (m5 y hy) hf, k135])
  have same : ∀ k, k < 16 → k ≠ 4 → k ≠ 15 → N' (1179 + 16 * j + k) = N (1179 + 16 * j + k) := fun k hk g1 g2 => t1 _ (by unfold spc; omega) (by omega) (by omega)
  have on' : N' (1179 + 16 * j) = nI 1 := (same 0 (by omega) (by omega) (by omega)).trans a0
  have y' : N' (1179 + 16 * j + 1) = nI y := (same 1 (by omega) (by omega) (by omega)).trans a1
  have ic : IC M N' := by
    refine m1.ex hj (Or.inr ⟨y, r, h, 1, c, q, w, p, hE.phs hj hM (by omega) (by omega) (fun _ => by omega) (fun k _ _ => t1 _ (by unfold spc; omega) (by omega) (by omega)) (t1 _ (by unfold spc; omega) (by omega) (by omega)) (fun k _ _ => t1 _ (by unfold spc; omega) (by omega) (by omega)) same t2⟩) (fun k g1 g2 _ => t1 k g1 (by omega) (by omega))
  have hno : ∀ z, z < M → N0 (135 + z) ≠ nI j := fun z hz => db_ph hD hM hz hj (Or.inr (Or.inl p0))
  have hclr : clr N b M y j ↔ clr N0 b M y j := clr_N hM (by omega) (by omega) (fun k _ _ => m2 k (by unfold keepK; omega))
  have hc' : ∀ σ, b_X0_passSlot_84 a (nI j) (wC a σ C) = b_X0_passSlot_84 a (nI (j + 1)) (wC a σ C') := fun σ => by
    rw [c_snd hM hj h00 (by rw [hR.on hj]; exact a0) (by rw [e1]; exact a1) hy]
    sorry
  sorry
end MH

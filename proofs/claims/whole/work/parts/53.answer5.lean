/-! The core is kept by an answer: all of it -/
section AP
variable {M K s r i n m k d h x y z T : Nat} {F G N C P Q O W C' N' P' Q' O' W' : Nat → Int32} {v u t : Int32} {b : Int32} {w1 : Prop} {wb : Nat → Prop}
theorem IC.mono14 (hI : IC M N) (e1 : ∀ k, k < 123 → k ≠ 14 → N' k = N k) (e2 : ∀ k, 147 ≤ k → k < 1155 → N' k = N k) (e3 : ∀ k, 1179 ≤ k → k < 1275 → N' k = N k) (e4 : ∀ s t, s < M → (t = 0 ∨ t = 2 ∨ t = 4 ∨ t = 6) → N' (1275 + 9 * s + t) = N (1275 + 9 * s + t)) (e5 : ∀ k, 1336 ≤ k → k < 1341 → N' k = N k) : IC M N' := by
  obtain ⟨i1, i2, i3, i4, i5⟩ := hI
  have hM := i1.2.1
  exact ⟨i1.mono14 fun k hk g => e1 k (by omega) g, i2.mono hM fun k _ _ => e1 k (by omega) (by omega), i3.mono hM (fun k _ _ => e2 k (by omega) (by omega)) (fun k _ _ => e1 k (by omega) (by omega)), fun z hz => (i4 z hz).mono hz hM (fun k _ _ => e1 k (by omega) (by omega)) (fun k _ _ _ _ => e2 k (by omega) (by omega)) (fun k _ _ => e2 k (by omega) (by omega)) (fun k hk => e3 _ (by omega) (by omega)), i5.mono hM (e5 _ (by omega) (by omega)) (fun k _ _ => e5 k (by omega) (by omega)) e4⟩
theorem IC.off (hI : IC M N) (hx : x < M) : IC M (upd N (1179 + 16 * x) (nI 0)) := by
  have hM := hI.1.2.1
  refine hI.ex hx (Or.inl (upd_e rfl)) (fun k _ hk _ => upd_n (by omega))
theorem IC.win {w : Nat} (hI : IC M N) (hx : x < M) (hr : r < 4) (hw : w ≤ 63) : IC M (upd N (1131 + (4 * x + r)) (nI w)) := by
  obtain ⟨i1, i2, i3, i4, i5⟩ := hI
  have hM := i1.2.1
  obtain ⟨n, q1, q2, q3, q4⟩ := i3 x r hx hr
  refine ⟨i1.mono fun k hk => upd_n (by omega), i2.mono hM fun k _ _ => upd_n (by omega), i3.one hM ⟨n, q1, by rw [upd_n (by omega)]; exact q2, ⟨w, hw, upd_e rfl⟩, fun i hi => (q4 i hi).mono (by omega) hM (upd_n (by omega)) (upd_n (by omega)) (fun k _ _ => upd_n (by omega))⟩ hr (fun k _ _ _ => upd_n (by omega)) (fun k _ _ g => upd_n g) (fun k _ _ _ => upd_n (by omega)) (fun k _ _ => upd_n (by omega)), fun z hz => (i4 z hz).mono hz hM (fun k _ _ => upd_n (by omega)) (fun k _ _ _ _ => upd_n (by omega)) (fun k _ _ => upd_n (by omega)) (fun k hk => upd_n (by omega)), i5.mono hM (upd_n (by omega)) (fun k _ _ => upd_n (by omega)) (fun z t hz ht => upd_n (by omega))⟩
theorem ans_ic (hI : IC M N) (hx : x < M) (hy : y < M) (hr : r < 4) (hn : n ≤ 8) (hh : h ≤ n) (hz : N (147 + (4 * x + r)) = nI n) : IC M (nAns (nDR x r wb h 0 0 N) x r y) ∧ nAns (nDR x r wb h 0 0 N) x r y (1179 + 16 * x) = nI 0 ∧
    (∀ k, k < 147 → k ≠ 14 → k ≠ 51 + 6 * x + y → k ≠ 87 + 6 * x + y → nAns (nDR x r wb h 0 0 N) x r y k = N k) ∧
    (∀ k, 1179 ≤ k → k < 1275 → k ≠ 1179 + 16 * x → nAns (nDR x r wb h 0 0 N) x r y k = N k) ∧
    (∀ k, 1275 ≤ k → (k < 1275 + 9 * x ∨ 1275 + 9 * x + 9 ≤ k) → k ≠ 1336 → k ≠ 1337 → k ≠ 1340 → nAns (nDR x r wb h 0 0 N) x r y k = N k) ∧
    ∀ u, N (1275 + 9 * x + 1) = nI u → ∃ u', u' ≤ u + 9 * h ∧ nAns (nDR x r wb h 0 0 N) x r y (1275 + 9 * x + 1) = nI u' := by
  have hM := hI.1.2.1
  have hx6 : x < 6 := by omega
  have hsz : szq N x r = n := by unfold szq; rw [hz, nI_clamp (by omega)]
  have hoff := hI.off hx
  obtain ⟨j1, j2, j3⟩ := ndr_ic (wb := wb) hx hr h 0 0 (upd N (1179 + 16 * x) (nI 0)) hoff (upd_e rfl) ⟨n, hn, by omega, by rw [upd_n (by omega)]; exact hz⟩
  have hlo : ∀ k, (k < 147 ∨ (1179 ≤ k ∧ k < 1275)) → nDR x r wb h 0 0 N k = N k := fun k hk => nDR_at hx6 hr (by omega) hk h 0 0 (by omega)
  rw [ndr_upd hx6 hr (by omega) h 0 0 N (by omega) (by omega)] at j1 j2 j3
  obtain ⟨L, hL1, hL2, hL3⟩ := set_v hI.1 (i := 7 + r) (by omega)
  rw [show 2 + (7 + r) = 9 + r from by omega] at hL1
  have hL4 : L ≤ 63 := by
    have : mxs (7 + r) ≤ 63 := by
      rcases (by omega : r = 0 ∨ r = 1 ∨ r = 2 ∨ r = 3) with g | g | g | g <;> subst g <;> decide
    omega
  have h9 : nDR x r wb h 0 0 N (9 + r) = nI L := by rw [hlo _ (by omega), hL1]
  generalize nDR x r wb h 0 0 N = D at j1 j2 j3 hlo h9 ⊢
  have w1 := j1.win hx hr hL4
  unfold nAns
  rw [h9]
  have hdr : ∀ A : Nat → Int32, ∀ k, k ≠ 14 → k ≠ 1155 + (4 * x + r) → nDraws A x r k = A k := fun A k a c => by
    unfold nDraws nDraw
    rw [upd_n c, upd_n a]
  have w2 : IC M (nDraws (upd (upd D (1179 + 16 * x) (nI 0)) (1131 + (4 * x + r)) (nI L)) x r) := w1.mono14 (fun k _ g => hdr _ k g (by omega)) (fun k _ _ => hdr _ k (by omega) (by omega)) (fun k _ _ => hdr _ k (by omega) (by omega)) (fun s t _ _ => hdr _ _ (by omega) (by omega)) (fun k _ _ => hdr _ k (by omega) (by omega))
  have w0 : nDraws (upd (upd D (1179 + 16 * x) (nI 0)) (1131 + (4 * x + r)) (nI L)) x r (1179 + 16 * x) = nI 0 := by rw [hdr _ _ (by omega) (by omega), upd_n (by omega), upd_e rfl]
  refine ⟨nluck_ic w2 hx hy w0, by rw [nluck_n (by omega) (by omega)]; exact w0, fun k a c e f => ?_, fun k a c e => ?_, fun k a c e f g => ?_, fun u hu => ?_⟩
  · rw [nluck_n (by omega) (by omega), hdr _ _ (by omega) (by omega), upd_n (by omega), upd_n (by omega), hlo _ (by omega)]
  · rw [nluck_n (by omega) (by omega), hdr _ _ (by omega) (by omega), upd_n (by omega), upd_n (by omega), hlo _ (by omega)]
  · rw [nluck_n (by omega) (by omega), hdr _ _ (by omega) (by omega), upd_n (by omega), j2 k (by omega) (by omega) (by omega), upd_n (by omega)]
  · rw [nluck_n (by omega) (by omega), hdr _ _ (by omega) (by omega), upd_n (by omega)]
    exact j3 u (by rw [upd_n (by omega)]; exact hu)
end AP

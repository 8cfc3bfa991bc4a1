/-! The core is kept by frames that are delivered -/
section AN
variable {M K s r i n m k d h x y z T : Nat} {F G N C P Q O W C' N' P' Q' O' W' : Nat → Int32} {v u t : Int32} {b : Int32} {w1 : Prop} {wb : Nat → Prop}
theorem nI_inj (h1 : n < 2147483648) (h2 : m < 2147483648) (e : nI n = nI m) : n = m := by
  have := congrArg Int32.toNatClampNeg e
  rwa [nI_clamp h1, nI_clamp h2] at this
theorem nlv_up (hx : x < 6) (hr : r < 4) (hn : n < 8) (hk : 1131 ≤ k) : nLeaves G x r i n k = G k := by
  rw [nlv_at, if_neg (by omega), if_neg (by omega)]
/-- what a frame's fate does high up: delivered, lost, or kept -/
theorem opx_up (hx : x < 6) (hr : r < 4) (hi : i < 8) (hm : szq F x r - 1 < 8) : (w1 ∧ ∀ k, 1131 ≤ k → opx x r i w1 F k = gW x (F (fq x r i + 1)) (tkn F x r i) (F (fq x r i + 4)) k (F k)) ∨ (¬ w1 ∧ ∀ k, 1131 ≤ k → opx x r i w1 F k = gL x k (F k)) ∨ (¬ w1 ∧ ∀ k, 1131 ≤ k → opx x r i w1 F k = F k) := by
  by_cases k1 : w1
  · refine Or.inl ⟨k1, fun k hk => ?_⟩
    rw [opx_W hx hr hm k1]
    show gW _ _ _ _ k (nLeaves F x r i _ k) = _
    rw [nlv_up hx hr hm hk]
  · refine Or.inr ?_
    by_cases k2 : F (fq x r i + 2) + nI 1 < F 4
    · refine Or.inr ⟨k1, fun k hk => ?_⟩
      rw [opx_K k1 k2, nty_at, if_neg (by omega)]
    · refine Or.inl ⟨k1, fun k hk => ?_⟩
      rw [opx_L hx hr hm k1 k2]
      show gL _ k (nLeaves _ x r i _ k) = _
      rw [nlv_up hx hr hm hk, nty_at, if_neg (by omega)]
theorem opx_same (hx : x < 6) (hr : r < 4) (hi : i < 8) (hm : szq F x r - 1 < 8) (hk : 1131 ≤ k) (h1 : k ≠ 1275 + 9 * x + 0 ∧ k ≠ 1275 + 9 * x + 1 ∧ k ≠ 1336 ∧ k ≠ 1340 ∧ k ≠ 1275 + 9 * x + 7 ∧ k ≠ 1275 + 9 * x + 8) (h2 : k ≠ 1275 + 9 * x + 2 ∧ k ≠ 1337) : opx x r i w1 F k = F k := by
  rcases opx_up (w1 := w1) hx hr hi hm with ⟨-, e⟩ | ⟨-, e⟩ | ⟨-, e⟩
  · rw [e k hk, gW_no h1]
  · rw [e k hk, gL_no h2]
  · exact e k hk
/-- a frame of the queue behind: it, or the one that followed -/
theorem opx_frame (hx : x < 6) (hr : r < 4) (hn : n < 8) (hi : i ≤ n) (hz : F (147 + (4 * x + r)) = nI (n + 1)) (hmz : opx x r i w1 F (147 + (4 * x + r)) = nI m) (hm : m ≤ n + 1) (hd : d < m) : ∃ e, e ≤ n ∧ ∀ f, f < 2 → opx x r i w1 F (171 + 5 * (8 * (4 * x + r) + d) + f) = F (171 + 5 * (8 * (4 * x + r) + e) + f) := by
  have hs : szq F x r - 1 = n := by unfold szq; rw [hz, nI_clamp (by omega)]; omega
  have hlv : ∀ H : Nat → Int32, nLeaves H x r i n (147 + (4 * x + r)) = nI n := fun H => by rw [nlv_at, if_neg (by omega), if_pos rfl]
  have key : ∀ H : Nat → Int32, (∀ k', k' < 1131 → (∀ j, j ≤ 8 → k' ≠ 171 + 5 * (8 * (4 * x + r) + j) + 2) → H k' = F k') → ∀ d', d' < n → ∃ e, e ≤ n ∧ ∀ f, f < 2 → nLeaves H x r i n (171 + 5 * (8 * (4 * x + r) + d') + f) = F (171 + 5 * (8 * (4 * x + r) + e) + f) := fun H hH d' hd' => by
    by_cases g : d' < i
    · refine ⟨d', by omega, fun f hf => ?_⟩
      rw [nlv_at, if_neg (by omega), if_neg (by omega)]
      exact hH _ (by omega) (fun j hj => by omega)
    · refine ⟨d' + 1, by omega, fun f hf => ?_⟩
      rw [nlv_at, if_pos (by omega), if_neg (by omega), hH _ (by omega) (fun j hj => by omega)]
      congr 1
      omega
  by_cases k1 : w1
  · rw [opx_W hx hr (by omega) k1, hs] at hmz ⊢
    rw [hiM_n gW_id (by omega), hlv] at hmz
    have hmn : n = m := nI_inj (by omega) (by omega) hmz
    obtain ⟨e, e1, e2⟩ := key F (fun _ _ _ => rfl) d (by omega)
    exact ⟨e, e1, fun f hf => by rw [hiM_n gW_id (by omega)]; exact e2 f hf⟩
  · by_cases k2 : F (fq x r i + 2) + nI 1 < F 4
    · refine ⟨d, by omega, fun f hf => ?_⟩
      rw [opx_K k1 k2, nty_at, if_neg (by omega)]
    · rw [opx_L hx hr (by omega) k1 k2, hs] at hmz ⊢
      rw [hiM_n gL_id (by omega), hlv] at hmz
      have hmn : n = m := nI_inj (by omega) (by omega) hmz
      obtain ⟨e, e1, e2⟩ := key (nTry F (171 + 5 * (8 * (4 * x + r) + i))) (fun k' _ hk' => by rw [nty_at, if_neg (hk' i (by omega))]) d (by omega)
      exact ⟨e, e1, fun f hf => by rw [hiM_n gL_id (by omega)]; exact e2 f hf⟩
theorem opx_ic (hI : IC M F) (hx : x < M) (hr : r < 4) (hn : n < 8) (hi : i ≤ n) (hz : F (147 + (4 * x + r)) = nI (n + 1)) (h0 : F (1179 + 16 * x) = nI 0) : IC M (opx x r i w1 F) := by
  obtain ⟨i1, i2, i3, i4, i5⟩ := hI
  have hM := i1.2.1
  have hs : szq F x r - 1 < 8 := by unfold szq; rw [hz, nI_clamp (by omega)]; omega
  have lo : ∀ k, (k < 147 ∨ (147 ≤ k ∧ k < 1131 ∧ k ≠ 147 + (4 * x + r) ∧ (k < 171 + 40 * (4 * x + r) ∨ 171 + 40 * (4 * x + r) + 40 ≤ k))) → opx x r i w1 F k = F k := fun k hk => opx_lo (by omega) hr hs hk (by omega)
  have hi' : ∀ k, 1131 ≤ k → k < 1275 → opx x r i w1 F k = F k := fun k a c => opx_same (by omega) hr (by omega) hs a (by omega) (by omega)
  obtain ⟨m, m1, m2, m3⟩ := opx_szc (w1 := w1) (i := i) (by omega) hr hi hn hz
  obtain ⟨n', hq1, hq2, hq3, hq4⟩ := i3 x r hx hr
  have hnn : n' = n + 1 := nI_inj (by omega) (by omega) (hq2.symm.trans hz)
  subst hnn
  refine ⟨i1.mono fun k hk => lo k (by omega), i2.mono hM fun k _ _ => lo k (by omega), i3.one hM ⟨m, by omega, m3, ?_, fun d hd => ?_⟩ hr (fun k _ _ _ => lo k (by omega)) (fun k _ _ _ => hi' k (by omega) (by omega)) (fun k _ _ _ => lo k (by omega)) (fun k _ _ => lo k (by omega)), fun z hz' => ?_, ?_⟩
  · obtain ⟨w, a, c⟩ := hq3
    exact ⟨w, a, by rw [hi' _ (by omega) (by omega)]; exact c⟩
  · obtain ⟨e, e1, e2⟩ := opx_frame (w1 := w1) (by omega) hr hn hi hz m3 m2 hd
    exact (hq4 e (by omega)).mono (by omega) hM (e2 0 (by omega)) (e2 1 (by omega)) (fun k _ _ => lo k (by omega))
  · by_cases g : z = x
    · exact Or.inl (by rw [g, hi' _ (by omega) (by omega)]; exact h0)
    · exact (i4 z hz').mono hz' hM (fun k _ _ => lo k (by omega)) (fun k _ _ _ _ => lo k (by omega)) (fun k _ _ => lo k (by omega)) (fun k hk => hi' _ (by omega) (by omega))
  · obtain ⟨m0, a0, a2, a4, a6⟩ := i5
    refine ⟨opx_mk (by omega) hr (by omega) hs m0, ?_⟩
    have hx6 : x < 6 := by omega
    rcases opx_up (i := i) (w1 := w1) (F := F) hx6 hr (by omega) hs with ⟨-, e⟩ | ⟨-, e⟩ | ⟨-, e⟩
    · have en : ∀ k, 1131 ≤ k → (k ≠ 1275 + 9 * x + 0 ∧ k ≠ 1275 + 9 * x + 1 ∧ k ≠ 1336 ∧ k ≠ 1340 ∧ k ≠ 1275 + 9 * x + 7 ∧ k ≠ 1275 + 9 * x + 8) → opx x r i w1 F k = F k := fun k hk g => by rw [e k hk, gW_no g]
      have e0 : opx x r i w1 F (1275 + 9 * x + 0) = F (1275 + 9 * x + 0) + nI 1 := by rw [e _ (by omega)]; unfold gW; rw [if_pos rfl]
      have e9 : opx x r i w1 F 1336 = F 1336 + nI 1 := by rw [e _ (by omega)]; unfold gW; rw [if_neg (by omega), if_neg (by omega), if_pos rfl]
      refine ⟨?_, ?_, ?_, ?_⟩
      · rw [e9, sumT_u (by omega) hx e0 (fun z hz' g => en _ (by omega) (by omega)), a0]
      · rw [en _ (by omega) (by omega), sumT_c (by omega) (fun z hz' => en _ (by omega) (by omega)), a2]
      · rw [en _ (by omega) (by omega), sumT_c (by omega) (fun z hz' => en _ (by omega) (by omega)), a4]
      · rw [en _ (by omega) (by omega), sumT_c (by omega) (fun z hz' => en _ (by omega) (by omega)), a6]
    · have en : ∀ k, 1131 ≤ k → (k ≠ 1275 + 9 * x + 2 ∧ k ≠ 1337) → opx x r i w1 F k = F k := fun k hk g => by rw [e k hk, gL_no g]
      have e0 : opx x r i w1 F (1275 + 9 * x + 2) = F (1275 + 9 * x + 2) + nI 1 := by rw [e _ (by omega)]; unfold gL; rw [if_pos rfl]
      have e9 : opx x r i w1 F 1337 = F 1337 + nI 1 := by rw [e _ (by omega)]; unfold gL; rw [if_neg (by omega), if_pos rfl]
      refine ⟨?_, ?_, ?_, ?_⟩
      · rw [en _ (by omega) (by omega), sumT_c (by omega) (fun z hz' => en _ (by omega) (by omega)), a0]
      · rw [e9, sumT_u (by omega) hx e0 (fun z hz' g => en _ (by omega) (by omega)), a2]
      · rw [en _ (by omega) (by omega), sumT_c (by omega) (fun z hz' => en _ (by omega) (by omega)), a4]
      · rw [en _ (by omega) (by omega), sumT_c (by omega) (fun z hz' => en _ (by omega) (by omega)), a6]
    · refine ⟨?_, ?_, ?_, ?_⟩
      · rw [e _ (by omega), sumT_c (by omega) (fun z hz' => e _ (by omega)), a0]
      · rw [e _ (by omega), sumT_c (by omega) (fun z hz' => e _ (by omega)), a2]
      · rw [e _ (by omega), sumT_c (by omega) (fun z hz' => e _ (by omega)), a4]
      · rw [e _ (by omega), sumT_c (by omega) (fun z hz' => e _ (by omega)), a6]
end AN

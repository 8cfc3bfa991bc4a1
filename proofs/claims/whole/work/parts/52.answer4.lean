/-! The core is kept by an answer -/
section AO
variable {M K s r i n m k d h x y z T : Nat} {F G N C P Q O W C' N' P' Q' O' W' : Nat → Int32} {v u t : Int32} {b : Int32} {w1 : Prop} {wb : Nat → Prop}
theorem IS.mono14 (hI : IS M N) (e : ∀ k, k < 51 → k ≠ 14 → N' k = N k) : IS M N' := by
  obtain ⟨g1, g2, g3, g4, g5, g6⟩ := hI
  exact ⟨by rw [e _ (by omega) (by omega)]; exact g1, g2, fun j hj => by rw [e _ (by omega) (by omega)]; exact g3 j hj, fun u z hu hz => by rw [e _ (by omega) (by omega), e _ (by omega) (by omega)]; exact g4 u z hu hz, fun u hu => by rw [e _ (by omega) (by omega)]; exact g5 u hu, fun u z hu hz hm => by rw [e _ (by omega) (by omega)]; exact g6 u z hu hz hm⟩
theorem kpt_upd {j : Nat} (hx : x < 6) (hr : r < 4) (hi : i < 8) (hj : 1179 ≤ j ∧ j < 1275) : kpt (upd F j v) x r i w1 = kpt F x r i w1 := by
  unfold kpt fq
  rw [upd_n (by omega), upd_n (by omega)]
theorem ndr_upd {j : Nat} (hx : x < 6) (hr : r < 4) (hj : 1179 ≤ j ∧ j < 1275) : ∀ (d i k : Nat) (F : Nat → Int32), szq F x r ≤ 8 → i + d ≤ szq F x r → nDR x r wb d i k (upd F j v) = upd (nDR x r wb d i k F) j v
  | 0, _, _, _, _, _ => rfl
  | d + 1, i, k, F, hm, hd => by
    have hz := opx_sz (F := F) (i := i) (wb := wb k) hx hr (by omega) (by omega)
    have hq : @ite Nat (kpt F x r i (wb k)) (Classical.propDecidable _) 0 1 ≤ 1 := by split <;> omega
    unfold nDR
    rw [opx_u hx hr (by omega) (by omega) hj, kpt_upd hx hr (by omega) hj]
    exact ndr_upd hx hr hj d _ _ _ (by omega) (by omega)
theorem ndr_ic (hx : x < M) (hr : r < 4) : ∀ (d i k : Nat) (F : Nat → Int32), IC M F → F (1179 + 16 * x) = nI 0 → (∃ n, n ≤ 8 ∧ i + d ≤ n ∧ F (147 + (4 * x + r)) = nI n) → IC M (nDR x r wb d i k F) ∧ (∀ j, 1131 ≤ j → (j ≠ 1275 + 9 * x + 0 ∧ j ≠ 1275 + 9 * x + 1 ∧ j ≠ 1336 ∧ j ≠ 1340 ∧ j ≠ 1275 + 9 * x + 7 ∧ j ≠ 1275 + 9 * x + 8) → (j ≠ 1275 + 9 * x + 2 ∧ j ≠ 1337) → nDR x r wb d i k F j = F j) ∧ ∀ u, F (1275 + 9 * x + 1) = nI u → ∃ u', u' ≤ u + 9 * d ∧ nDR x r wb d i k F (1275 + 9 * x + 1) = nI u'
  | 0, _, _, _, hI, _, _ => ⟨hI, fun _ _ _ _ => rfl, fun u hu => ⟨u, by omega, hu⟩⟩
  | d + 1, i, k, F, hI, h0, ⟨n, hn1, hn2, hn3⟩ => by
    have hM := hI.1.2.1
    have hx6 : x < 6 := by omega
    obtain ⟨m, rfl⟩ : ∃ m, n = m + 1 := ⟨n - 1, by omega⟩
    have hsz : szq F x r = m + 1 := by unfold szq; rw [hn3, nI_clamp (by omega)]
    have hz := opx_sz (F := F) (i := i) (wb := wb k) hx6 hr (by omega) (by omega)
    obtain ⟨m', m1, m2, m3⟩ := opx_szc (w1 := wb k) (i := i) hx6 hr (by omega) (by omega) hn3
    have hm' : szq (opx x r i (wb k) F) x r = m' := by unfold szq; rw [m3, nI_clamp (by omega)]
    have hq : @ite Nat (kpt F x r i (wb k)) (Classical.propDecidable _) 0 1 ≤ 1 := by split <;> omega
    have hI' := opx_ic (w1 := wb k) hI hx hr (n := m) (i := i) (by omega) (by omega) hn3 h0
    have h0' : opx x r i (wb k) F (1179 + 16 * x) = nI 0 := by rw [opx_same hx6 hr (by omega) (by omega) (by omega) (by omega) (by omega)]; exact h0
    obtain ⟨j1, j2, j3⟩ := ndr_ic hx hr d (i + 1 - @ite _ (kpt F x r i (wb k)) (Classical.propDecidable _) 0 1) (k + 1) (opx x r i (wb k) F) hI' h0' ⟨m', by omega, by omega, m3⟩
    unfold nDR
    refine ⟨j1, fun j a c e => ?_, fun u hu => ?_⟩
    · rw [j2 j a c e, opx_same hx6 hr (by omega) (by omega) a c e]
    · obtain ⟨n', hq1, hq2, hq3, hq4⟩ := hI.2.2.1 x r hx hr
      have hnn : n' = m + 1 := nI_inj (by omega) (by omega) (hq2.symm.trans hn3)
      subst hnn
      obtain ⟨y', u9, -, -, -, -, f1, f2, f3⟩ := hq4 i (by omega)
      have hu' : ∃ u', u' ≤ u + 9 ∧ opx x r i (wb k) F (1275 + 9 * x + 1) = nI u' := by
        rcases opx_up (i := i) (w1 := wb k) (F := F) hx6 hr (by omega) (by omega) with ⟨-, e⟩ | ⟨-, e⟩ | ⟨-, e⟩
        · refine ⟨u + u9, by omega, ?_⟩
          rw [e _ (by omega)]
          unfold gW fq
          rw [if_neg (by omega), if_pos rfl, hu, f1, nI_add]
        · refine ⟨u, by omega, ?_⟩
          rw [e _ (by omega), gL_no (by omega)]
          exact hu
        · exact ⟨u, by omega, by rw [e _ (by omega)]; exact hu⟩
      obtain ⟨u', a, c⟩ := hu'
      obtain ⟨u2, a2, c2⟩ := j3 u' c
      exact ⟨u2, by omega, c2⟩
theorem nluck_n (h1 : k ≠ 87 + 6 * x + y) (h2 : k ≠ 51 + 6 * x + y) : nLuck N x y k = N k := by
  unfold nLuck
  split
  · rw [upd_n h1]
  · rw [upd_n h1, upd_n h2, upd_n h1]
theorem nluck_ic (hI : IC M N) (hx : x < M) (hy : y < M) (h0 : N (1179 + 16 * x) = nI 0) : IC M (nLuck N x y) := by
  obtain ⟨i1, i2, i3, i4, i5⟩ := hI
  have hM := i1.2.1
  refine ⟨i1.mono fun k hk => nluck_n (by omega) (by omega), fun s z hs hz => ?_, i3.mono hM (fun k _ _ => nluck_n (by omega) (by omega)) (fun k _ _ => nluck_n (by omega) (by omega)), fun z hz => ?_, i5.mono hM (nluck_n (by omega) (by omega)) (fun k _ _ => nluck_n (by omega) (by omega)) (fun z t hz ht => nluck_n (by omega) (by omega))⟩
  · by_cases g : 51 + 6 * s + z = 51 + 6 * x + y
    · obtain ⟨ρ, r1, r2, r3⟩ := i2 x y hx hy
      rw [g]
      unfold nLuck
      split
      · exact ⟨ρ, by rw [upd_n (by omega)]; exact r1, r2, r3⟩
      · rw [upd_n (by omega), upd_e rfl, r1, nI_add]
        by_cases g2 : ρ + 1 < 3
        · exact ⟨ρ + 1, by rw [if_pos (nI_lt g2 (by omega))], by omega, by omega⟩
        · exact ⟨3, by rw [if_neg (nI_nlt (by omega) (by omega))], by omega, by omega⟩
    · rw [nluck_n (by omega) g]
      exact i2 s z hs hz
  · rcases i4 z hz with e | ⟨y', t, h, ph, c, q, w, p, e⟩
    · exact Or.inl (by rw [nluck_n (by omega) (by omega)]; exact e)
    · by_cases g : z = x
      · subst g
        rw [e.1.1] at h0
        exact absurd h0 n10'
      · have hy' : y' < M := e.2.1.1
        have ht : t < 4 := e.2.1.2.2.2.1
        have h4 : h ≤ 4 := e.2.1.2.2.2.2.2.1
        exact Or.inr ⟨y', t, h, ph, c, q, w, p, e.mono2 (nluck_n (by omega) (by omega)) (nluck_n (by omega) (by omega)) (fun k hk => nluck_n (by omega) (by omega)) (nluck_n (by omega) (by omega)) (fun k hk => nluck_n (by omega) (by omega))⟩
end AO

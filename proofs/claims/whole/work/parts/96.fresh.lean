/-! A net anew: the class -/
section FN
variable {M K K' s z r i n m k a b x y t h w lo hi j u q : Nat} {σ τ σ' σ1 σ2 : mS} {C D N V F G O W : Nat → Int32} {o : mO} {v p p1 p2 wr bb : Int32} {g : Nat → Nat} {S S' : Nat → Prop}
/-- a fresh row: m stations, qualities g, settings and dice of N -/
def Nn (m : Nat) (g : Nat → Nat) (N : Nat → Int32) : Nat → Int32 := fun k => if k = 0 then nI m else if k < 2 then nI 0 else if k < 15 then N k else if k < 51 then nI (g (k - 15)) else if k < 87 then nI 1 else if k < 135 then nI 0 else if k < 141 then -1 else if k < 1131 then nI 0 else if k < 1155 then N (9 + (k - 1131) % 4) else nI 0
noncomputable def Vn (m : Nat) (g : Nat → Nat) (N : Nat → Int32) : Nat → Int32 := fun k => if k < 1432 then Nn m g N k else bv (fun z => 0 < g (6 * (k - 1436) + z)) 6
theorem sv_st (hx : ixA a o i = some k) (hv : v = V k) : st (wC a σ (mix S V D)) o i v = wC a σ (mix (fun q => S q ∨ q = k) V D) := by
  rw [wC_st hx, hv]
  congr 1
  funext q
  by_cases h1 : q = k
  · rw [upd_e h1, mix_t (Or.inr h1), h1]
  · rw [upd_n h1]
    by_cases h2 : S q
    · rw [mix_t h2, mix_t (Or.inl h2)]
    · rw [mix_f h2, mix_f (fun e => e.elim h2 h1)]
theorem sv_h (hx : ixA a o i = some k) (hk : k ≠ h) (hv : v = V k) : st (wC a σ (upd (mix S V D) h bb)) o i v = wC a σ (upd (mix (fun q => S q ∨ q = k) V D) h bb) := by
  rw [wC_st hx, upd_c (k := h) (j := k) (fun e => hk e.symm), hv]
  congr 2
  funext q
  by_cases h1 : q = k
  · rw [upd_e h1, mix_t (Or.inr h1), h1]
  · rw [upd_n h1]
    by_cases h2 : S q
    · rw [mix_t h2, mix_t (Or.inl h2)]
    · rw [mix_f h2, mix_f (fun e => e.elim h2 h1)]
theorem vn_0 (h : (87 ≤ k ∧ k < 135) ∨ (141 ≤ k ∧ k < 1131) ∨ (1155 ≤ k ∧ k < 1432) ∨ k = 1) : nI 0 = Vn m g N k := by
  unfold Vn Nn
  rw [if_pos (by omega), if_neg (by omega)]
  by_cases h1 : k < 2
  · rw [if_pos h1]
  · rw [if_neg h1, if_neg (by omega), if_neg (by omega), if_neg (by omega)]
    by_cases h2 : k < 135
    · rw [if_pos h2]
    · rw [if_neg h2, if_neg (by omega)]
      by_cases h3 : k < 1131
      · rw [if_pos h3]
      · rw [if_neg h3, if_neg (by omega)]
theorem vn_1 (h : 51 ≤ k ∧ k < 87) : nI 1 = Vn m g N k := by
  unfold Vn Nn
  rw [if_pos (by omega), if_neg (by omega), if_neg (by omega), if_neg (by omega), if_neg (by omega), if_pos (by omega)]
theorem vn_m (h : 135 ≤ k ∧ k < 141) : -1 = Vn m g N k := by
  unfold Vn Nn
  rw [if_pos (by omega), if_neg (by omega), if_neg (by omega), if_neg (by omega), if_neg (by omega), if_neg (by omega), if_neg (by omega), if_pos (by omega)]
theorem vn_q (h : k < 36) : nI (g k) = Vn m g N (15 + k) := by
  unfold Vn Nn
  rw [if_pos (by omega), if_neg (by omega), if_neg (by omega), if_neg (by omega), if_pos (by omega), Nat.add_sub_cancel_left]
theorem vn_w (hs : s < 6) (hr : r < 4) : N (9 + r) = Vn m g N (1131 + (4 * s + r)) := by
  unfold Vn Nn
  rw [if_pos (by omega), if_neg (by omega), if_neg (by omega), if_neg (by omega), if_neg (by omega), if_neg (by omega), if_neg (by omega), if_neg (by omega), if_neg (by omega), if_pos (by omega), show (1131 + (4 * s + r) - 1131) % 4 = r from by omega]
theorem vn_s (h : 2 ≤ k) (h2 : k < 15) : N k = Vn m g N k := by
  unfold Vn Nn
  rw [if_pos (by omega), if_neg (by omega), if_neg (by omega), if_pos (by omega)]
theorem vn_h (hs : s < 6) : bv (fun z => 0 < g (6 * s + z)) 6 = Vn m g N (1436 + s) := by
  unfold Vn
  rw [if_neg (by omega), Nat.add_sub_cancel_left]
theorem fs_z (h25 : ∀ k, k < 36 → σ.1 (25, 0, 0, 0) k = nI (g k)) (hg : ∀ k, k < 36 → g k ≤ 3) (hs : s < 6) : ∀ d z S, z + d = 6 → ∃ S' : Nat → Prop, (∀ q, S q → S' q) ∧ (∀ w, z ≤ w → w < 6 → S' (15 + 6 * s + w) ∧ S' (51 + 6 * s + w) ∧ S' (87 + 6 * s + w)) ∧ b_X0_startStation_15 a (nI s) a s (nI z) (wC a σ (upd (mix S (Vn m g N) D) (1436 + s) (bv (fun z => 0 < g (6 * s + z)) z))) = b_X0_startStation_104 a a s (nI 0) (wC a σ (upd (mix S' (Vn m g N) D) (1436 + s) (bv (fun z => 0 < g (6 * s + z)) 6)))
  | 0, z, S, hz => by
    refine ⟨S, fun _ q => q, fun w h1 h2 => by omega, ?_⟩
    rw [show z = 6 from by omega, q_X0_startStation_15, if_neg (by decide)]
  | d + 1, z, S, hz => by
    obtain ⟨S', s1, s2, s3⟩ := fs_z h25 hg hs d (z + 1) (fun q => ((S q ∨ q = 15 + 6 * s + z) ∨ q = 51 + 6 * s + z) ∨ q = 87 + 6 * s + z) (by omega)
    refine ⟨S', fun q hq => s1 q (Or.inl (Or.inl (Or.inl hq))), fun w h1 h2 => ?_, ?_⟩
    · by_cases e : w = z
      · subst e
        exact ⟨s1 _ (Or.inl (Or.inl (Or.inr rfl))), s1 _ (Or.inl (Or.inr rfl)), s1 _ (Or.inr rfl)⟩
      · exact s2 w (by omega) h2
    · rw [← s3, q_X0_startStation_15, if_pos (nI_lt (by omega) (by omega)), pk_mul, nI_add, if_pos (nI_lt (by omega) (by omega)), if_neg (nI_in (by omega) (by omega)), nI_clamp (n := s * 6 + z) (by omega), wC_same (o := (25, 0, 0, 0)) (by unfold aK; simp), h25 _ (by omega), show s * 6 + z = 6 * s + z from by omega]
      simp (disch := omega) only [nI_clamp, ck2, if_false]
      have q17 : nI (g (6 * s + z)) = Vn m g N (15 + 6 * s + z) := by rw [vn_q (m := m) (N := N) (show 6 * s + z < 36 by omega), show 15 + (6 * s + z) = 15 + 6 * s + z from by omega]
      have gz := hg (6 * s + z) (by omega)
      rw [sv_h (ix_quality hs (by omega)) (by omega) q17, sv_h (ix_rate hs (by omega)) (by omega) (vn_1 (by omega)), sv_h (ix_luck hs (by omega)) (by omega) (vn_0 (by omega)), wC_rd (ix_hears hs), upd_s, wC_st (ix_hears hs), wC_st (ix_hears hs), upd_u, upd_u, nI_1]
      by_cases e : 0 < g (6 * s + z)
      · rw [if_pos (show 0 < nI (g (6 * s + z)) from by rw [nI_0lt (by omega)]; exact e), bv_t (p := fun z => 0 < g (6 * s + z)) (by omega) e]
      · rw [if_neg (show ¬ 0 < nI (g (6 * s + z)) from by rw [nI_0lt (by omega)]; exact e), bv_f' (p := fun z => 0 < g (6 * s + z)) e]
theorem fs_r (hs : s < 6) (hD : ∀ k, 2 ≤ k → k < 15 → D k = N k) : ∀ d r S, r + d = 4 → ∃ S' : Nat → Prop, (∀ q, S q → S' q) ∧ (∀ w, r ≤ w → w < 4 → S' (147 + (4 * s + w)) ∧ S' (1155 + (4 * s + w)) ∧ S' (1131 + (4 * s + w))) ∧ b_X0_startStation_104 a a s (nI r) (wC a σ (mix S (Vn m g N) D)) = b_X0_startStation_104 a a s (nI 4) (wC a σ (mix S' (Vn m g N) D))
  | 0, r, S, hr => ⟨S, fun _ q => q, fun w h1 h2 => by omega, by rw [show r = 4 from by omega]⟩
  | d + 1, r, S, hr => by
    obtain ⟨S', s1, s2, s3⟩ := fs_r hs hD d (r + 1) (fun q => ((S q ∨ q = 147 + (4 * s + r)) ∨ q = 1155 + (4 * s + r)) ∨ q = 1131 + (4 * s + r)) (by omega)
    refine ⟨S', fun q hq => s1 q (Or.inl (Or.inl (Or.inl hq))), fun w h1 h2 => ?_, ?_⟩
    · by_cases e : w = r
      · subst e
        exact ⟨s1 _ (Or.inl (Or.inl (Or.inr rfl))), s1 _ (Or.inl (Or.inr rfl)), s1 _ (Or.inr rfl)⟩
      · exact s2 w (by omega) h2
    · rw [← s3, q_X0_startStation_104, if_pos (nI_lt (by omega) (by omega)), nI_add]
      simp (disch := omega) only [nI_clamp, ck2, if_false]
      rw [sv_st (ix_size hs (by omega)) (vn_0 (by omega)), sv_st (ix_count hs (by omega)) (vn_0 (by omega)), wC_rd (ix_set (i := 7 + r) (by omega)), sv_st (ix_window hs (by omega)) ?_, nI_1]
      have e9 : 2 + (7 + r) = 9 + r := by omega
      rw [e9, ← vn_w (m := m) (g := g) hs (show r < 4 by omega)]
      unfold mix
      split
      · exact (vn_s (by omega) (by omega)).symm
      · exact hD _ (by omega) (by omega)
theorem fs_t (hs : s < 6) : ∀ d i S, i + d = 9 → ∃ S' : Nat → Prop, (∀ q, S q → S' q) ∧ (∀ w, i ≤ w → w < 9 → S' (1275 + 9 * s + w)) ∧ b_X3_startAnew_2 a s (nI i) (wC a σ (mix S (Vn m g N) D)) = b_X3_startAnew_23 a s (nI 0) (wC a σ (mix S' (Vn m g N) D))
  | 0, i, S, hi => ⟨S, fun _ q => q, fun w h1 h2 => by omega, by rw [show i = 9 from by omega, q_X3_startAnew_2, if_neg (by decide)]⟩
  | d + 1, i, S, hi => by
    obtain ⟨S', s1, s2, s3⟩ := fs_t hs d (i + 1) (fun q => S q ∨ q = 1275 + 9 * s + i) (by omega)
    refine ⟨S', fun q hq => s1 q (Or.inl hq), fun w h1 h2 => ?_, ?_⟩
    · by_cases e : w = i
      · subst e
        exact s1 _ (Or.inr rfl)
      · exact s2 w (by omega) h2
    · rw [← s3, q_X3_startAnew_2, if_pos (nI_lt (by omega) (by omega)), if_neg (nI_in (by omega) (by omega)), nI_clamp (by omega), sv_st (ix_tally hs (by omega)) (vn_0 (by omega)), nI_1]
theorem fs_p (hs : s < 6) : ∀ d i S, i + d = 6 → ∃ S' : Nat → Prop, (∀ q, S q → S' q) ∧ (∀ w, i ≤ w → w < 6 → S' (1360 + 6 * s + w)) ∧ b_X3_startAnew_23 a s (nI i) (wC a σ (mix S (Vn m g N) D)) = b_X3_startAnew_23 a s (nI 6) (wC a σ (mix S' (Vn m g N) D))
  | 0, i, S, hi => ⟨S, fun _ q => q, fun w h1 h2 => by omega, by rw [show i = 6 from by omega]⟩
  | d + 1, i, S, hi => by
    obtain ⟨S', s1, s2, s3⟩ := fs_p hs d (i + 1) (fun q => S q ∨ q = 1360 + 6 * s + i) (by omega)
    refine ⟨S', fun q hq => s1 q (Or.inl hq), fun w h1 h2 => ?_, ?_⟩
    · by_cases e : w = i
      · subst e
        exact s1 _ (Or.inr rfl)
      · exact s2 w (by omega) h2
    · rw [← s3, q_X3_startAnew_23, if_pos (nI_lt (by omega) (by omega)), if_neg (nI_in (by omega) (by omega)), nI_clamp (by omega), sv_st (ix_spoilt hs (by omega)) (vn_0 (by omega)), nI_1]
/-- a station's cells, but for its frames and what is under way -/
def SN (s m : Nat) : Prop := (15 + 6 * s ≤ m ∧ m < 15 + 6 * s + 6) ∨ (51 + 6 * s ≤ m ∧ m < 51 + 6 * s + 6) ∨ (87 + 6 * s ≤ m ∧ m < 87 + 6 * s + 6) ∨ m = 123 + s ∨ m = 129 + s ∨ m = 135 + s ∨ m = 141 + s ∨ (147 + 4 * s ≤ m ∧ m < 147 + 4 * s + 4) ∨ (1131 + 4 * s ≤ m ∧ m < 1131 + 4 * s + 4) ∨ (1155 + 4 * s ≤ m ∧ m < 1155 + 4 * s + 4) ∨ m = 1179 + 16 * s ∨ (1275 + 9 * s ≤ m ∧ m < 1275 + 9 * s + 9) ∨ (1360 + 6 * s ≤ m ∧ m < 1360 + 6 * s + 6) ∨ m = 1396 + s ∨ (1342 + 3 * s ≤ m ∧ m < 1342 + 3 * s + 3) ∨ (1402 + 3 * s ≤ m ∧ m < 1402 + 3 * s + 3) ∨ m = 1420 + s ∨ m = 1426 + s ∨ m = 1436 + s
theorem fs_one (h25 : ∀ k, k < 36 → σ.1 (25, 0, 0, 0) k = nI (g k)) (hg : ∀ k, k < 36 → g k ≤ 3) (hs : s < 6) (hD : ∀ k, 2 ≤ k → k < 15 → D k = N k) : ∃ S' : Nat → Prop, (∀ q, S q ∨ SN s q → S' q) ∧ e_X0_startStation a (nI s) (wC a σ (mix S (Vn m g N) D)) = some (some none, wC a σ (mix S' (Vn m g N) D)) := by
  obtain ⟨S1, a1, a2, a3⟩ := fs_z (a := a) (m := m) (N := N) (D := D) h25 hg hs 6 0 S (by omega)
  obtain ⟨S2, b1, b2, b3⟩ := fs_r (a := a) (m := m) (g := g) (σ := σ) hs hD 4 0 (fun q => S1 q ∨ q = 1436 + s) (by omega)
  obtain ⟨S3, c1, c2, c3⟩ := fs_t (a := a) (m := m) (g := g) (N := N) (σ := σ) (D := D) hs 9 0 (fun q => ((((((S2 q ∨ q = 123 + s) ∨ q = 129 + s) ∨ q = 1420 + s) ∨ q = 1426 + s) ∨ q = 1179 + 16 * s) ∨ q = 135 + s) ∨ q = 141 + s) (by omega)
  obtain ⟨S4, d1, d2, d3⟩ := fs_p (a := a) (m := m) (g := g) (N := N) (σ := σ) (D := D) hs 6 0 S3 (by omega)
  refine ⟨fun q => ((((((S4 q ∨ q = 1396 + s) ∨ q = 1342 + 3 * s) ∨ q = 1342 + 3 * s + 1) ∨ q = 1342 + 3 * s + 2) ∨ q = 1402 + 3 * s) ∨ q = 1402 + 3 * s + 1) ∨ q = 1402 + 3 * s + 2, fun q hq => ?_, ?_⟩
  · have t2 : ∀ q, S2 q → S4 q := fun q h => d1 q (c1 q (Or.inl (Or.inl (Or.inl (Or.inl (Or.inl (Or.inl (Or.inl h))))))))
    have t1 : ∀ q, S1 q → S4 q := fun q h => t2 q (b1 q (Or.inl h))
    have u0 : ∀ q, S4 q → ((((((S4 q ∨ q = 1396 + s) ∨ q = 1342 + 3 * s) ∨ q = 1342 + 3 * s + 1) ∨ q = 1342 + 3 * s + 2) ∨ q = 1402 + 3 * s) ∨ q = 1402 + 3 * s + 1) ∨ q = 1402 + 3 * s + 2 := fun q h => Or.inl (Or.inl (Or.inl (Or.inl (Or.inl (Or.inl (Or.inl h))))))
    have u3 : ∀ q, (((((((S2 q ∨ q = 123 + s) ∨ q = 129 + s) ∨ q = 1420 + s) ∨ q = 1426 + s) ∨ q = 1179 + 16 * s) ∨ q = 135 + s) ∨ q = 141 + s) → S4 q := fun q h => d1 q (c1 q h)
    rcases hq with hq | hq
    · exact u0 q (t1 q (a1 q hq))
    · unfold SN at hq
      rcases hq with e | e | e | e | e | e | e | e | e | e | e | e | e | e | e | e | e | e | e
      · have := (a2 (q - (15 + 6 * s)) (by omega) (by omega)).1
        rw [show 15 + 6 * s + (q - (15 + 6 * s)) = q from by omega] at this
        exact u0 q (t1 q this)
      · have := (a2 (q - (51 + 6 * s)) (by omega) (by omega)).2.1
        rw [show 51 + 6 * s + (q - (51 + 6 * s)) = q from by omega] at this
        exact u0 q (t1 q this)
      · have := (a2 (q - (87 + 6 * s)) (by omega) (by omega)).2.2
        rw [show 87 + 6 * s + (q - (87 + 6 * s)) = q from by omega] at this
        exact u0 q (t1 q this)
      · exact u0 q (u3 q (by simp only [e, true_or, or_true]))
      · exact u0 q (u3 q (by simp only [e, true_or, or_true]))
      · exact u0 q (u3 q (by simp only [e, true_or, or_true]))
      · exact u0 q (u3 q (by simp only [e, true_or, or_true]))
      · have := (b2 (q - (147 + 4 * s)) (by omega) (by omega)).1
        rw [show 147 + (4 * s + (q - (147 + 4 * s))) = q from by omega] at this
        exact u0 q (t2 q this)
      · have := (b2 (q - (1131 + 4 * s)) (by omega) (by omega)).2.2
        rw [show 1131 + (4 * s + (q - (1131 + 4 * s))) = q from by omega] at this
        exact u0 q (t2 q this)
      · have := (b2 (q - (1155 + 4 * s)) (by omega) (by omega)).2.1
        rw [show 1155 + (4 * s + (q - (1155 + 4 * s))) = q from by omega] at this
        exact u0 q (t2 q this)
      · exact u0 q (u3 q (by simp only [e, true_or, or_true]))
      · have := c2 (q - (1275 + 9 * s)) (by omega) (by omega)
        rw [show 1275 + 9 * s + (q - (1275 + 9 * s)) = q from by omega] at this
        exact u0 q (d1 q this)
      · have := d2 (q - (1360 + 6 * s)) (by omega) (by omega)
        rw [show 1360 + 6 * s + (q - (1360 + 6 * s)) = q from by omega] at this
        exact u0 q this
      · simp only [e, true_or, or_true]
      · have : q = 1342 + 3 * s ∨ q = 1342 + 3 * s + 1 ∨ q = 1342 + 3 * s + 2 := by omega
        rcases this with e | e | e <;> simp only [e, true_or, or_true]
      · have : q = 1402 + 3 * s ∨ q = 1402 + 3 * s + 1 ∨ q = 1402 + 3 * s + 2 := by omega
        rcases this with e | e | e <;> simp only [e, true_or, or_true]
      · exact u0 q (u3 q (by simp only [e, true_or, or_true]))
      · exact u0 q (u3 q (by simp only [e, true_or, or_true]))
      · exact u0 q (t2 q (b1 q (Or.inr e)))
  · have mh : wC a σ (upd (mix S1 (Vn m g N) D) (1436 + s) (bv (fun z => 0 < g (6 * s + z)) 6)) = wC a σ (mix (fun q => S1 q ∨ q = 1436 + s) (Vn m g N) D) := by
      rw [← sv_st (σ := σ) (S := S1) (D := D) (ix_hears (a := a) hs) (vn_h (m := m) (N := N) hs), wC_st (ix_hears hs)]
    rw [q_X0_startStation, if_neg (nI_in (by omega) (by omega)), nI_clamp (by omega), wC_st (ix_hears hs)]
    dsimp only
    rw [bv_0] at a3
    rw [a3, mh, b3, q_X0_startStation_104, if_neg (by decide), if_pos z1]
    dsimp only
    rw [sv_st (ix_still hs) (vn_0 (by omega)), sv_st (ix_span hs) (vn_0 (by omega)), sv_st (ix_spanBy hs) (vn_0 (by omega)), sv_st (ix_spanStep hs) (vn_0 (by omega)), sv_st (ix_on hs) (vn_0 (by omega)), q_X8_setOwing]
    dsimp only
    rw [sv_st (ix_owesTo hs) (vn_m (by omega)), sv_st (ix_owes hs) (vn_0 (by omega))]
    dsimp only [bdV]
    rw [q_X3_startAnew, c3, d3, q_X3_startAnew_23, if_neg (by decide)]
    dsimp only
    rw [sv_st (ix_dataPlaces hs) (vn_0 (by omega)), sv_st (ix_hfail hs) (vn_0 (by omega)), sv_st (ix_hfailSlot hs) (vn_0 (by omega)), sv_st (ix_hfailWith hs) (vn_0 (by omega)), sv_st (ix_hspan hs) (vn_0 (by omega)), sv_st (ix_hhear hs) (vn_0 (by omega)), sv_st (ix_helse hs) (vn_0 (by omega))]
end FN

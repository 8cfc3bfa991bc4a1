/-! Parts in lowest terms: odds, window, even -/
section AR
variable {M K K' s z r i n m k a b x t h w : Nat} {σ τ σ' σ1 σ2 : mS} {C D N N' C' O W P Q : Nat → Int32} {o : mO} {v p p1 p2 p3 p4 : Int32} {y1 y3 : Int64} {l : List Int64} {f g : mS → Option mR}
def fp : Nat → Nat × Nat
  | 0 => (1, 1)
  | k + 1 => ((fp k).2, (fp k).1 + (fp k).2)
/-- so many steps are enough -/
def eu : Nat → Nat → Nat → Prop
  | 0, _, b => b = 0
  | k + 1, a, b => b = 0 ∨ eu k b (a % b)
theorem eu_fp : ∀ k a b, b ≤ a → ¬ eu k a b → (fp k).1 ≤ b ∧ (fp k).2 ≤ a
  | 0, a, b, h, n => by
    have n' : ¬ b = 0 := n
    show 1 ≤ b ∧ 1 ≤ a
    omega
  | k + 1, a, b, h, n => by
    have n' : ¬ (b = 0 ∨ eu k b (a % b)) := n
    have hb : b ≠ 0 := fun e => n' (Or.inl e)
    have hr := Nat.mod_lt a (by omega : b > 0)
    obtain ⟨h1, h2⟩ := eu_fp k b (a % b) (by omega) (fun e => n' (Or.inr e))
    have h3 : b + a % b ≤ a := by
      have h6 := Nat.div_add_mod a b
      have h4 : 1 ≤ a / b := Nat.div_pos h (by omega)
      have h5 : b * 1 ≤ b * (a / b) := Nat.mul_le_mul_left b h4
      omega
    show (fp k).2 ≤ b ∧ (fp k).1 + (fp k).2 ≤ a
    omega
theorem fp98 : 2 ^ 63 ≤ (fp 98).1 := by decide +kernel
theorem eu_99 (hb : b < 2 ^ 63) : eu 99 a b := by
  show b = 0 ∨ eu 98 b (a % b)
  by_cases h : b = 0
  · exact Or.inl h
  · right
    apply Classical.byContradiction
    intro q
    have hr := Nat.mod_lt a (by omega : b > 0)
    have h1 := (eu_fp 98 b (a % b) (by omega) q).1
    have h2 := fp98
    omega
theorem gcd_st : Nat.gcd b (a % b) = Nat.gcd a b := by rw [Nat.gcd_comm a b, Nat.gcd_rec b a, Nat.gcd_comm]
theorem lN_t (h : a < 2 ^ 63) : (lN a).toInt = a := lg_ofNat_toInt h
theorem lN_inj (ha : a < 2 ^ 63) (hb : b < 2 ^ 63) (e : lN a = lN b) : a = b := by
  have := congrArg Int64.toInt e
  rw [lN_t ha, lN_t hb] at this
  omega
theorem lN_dv (ha : a < 2 ^ 63) (h0 : 0 < b) (hb : b < 2 ^ 63) : lN a / lN b = lN (a / b) := by
  apply Int64.toInt_inj.mp
  have := Nat.div_le_self a b
  rw [lg_ldiv_nonneg (by rw [lN_t ha]; omega) (by rw [lN_t hb]; omega), lN_t ha, lN_t hb, lN_t (by omega)]
  rfl
theorem lN_rm (ha : a < 2 ^ 63) (h0 : 0 < b) (hb : b < 2 ^ 63) : lN a - lN a / lN b * lN b = lN (a % b) := by
  have h1 := Nat.div_add_mod a b
  have h2 := Nat.mul_comm b (a / b)
  rw [lN_dv ha h0 hb, lN_mul, lN_sub (by omega)]
  congr 1
  omega
theorem part_end (ha : 0 < a) (ha2 : a < 2 ^ 63) : (if 0 < lg_cmp (lN a) (lN 0) then (if lN a = 0 then none else (if lN a = 0 then none else bdV (e_X4_tellTwo (y1 / lN a) (y3 / lN a) σ) (fun σ1 => some (some none, σ1)))) else some (some none, σ)) = some (some none, tC σ [y1 / lN a, y3 / lN a]) := by
  have h0 : ¬ lN a = 0 := fun e => by
    have := lN_inj (b := 0) ha2 (by omega) e
    omega
  rw [if_pos ((lg_cmp_gt _ _).mpr (by rw [Int64.lt_iff_toInt_lt, lN_t ha2, lN_t (by omega)]; omega)), if_neg h0, if_neg h0, k_two]
  rfl
theorem c_part : ∀ k i a b, eu k a b → i + k ≤ 100 → 0 < Nat.gcd a b → a < 2 ^ 63 → b < 2 ^ 63 → b_X4_tellPart_9 y1 y3 (lN a) (lN b) (nI i) σ = some (some none, tC σ [y1 / lN (Nat.gcd a b), y3 / lN (Nat.gcd a b)])
  | k, i, a, b, he, hi, hg, ha, hb => by
    by_cases h0 : b = 0
    · subst h0
      rw [Nat.gcd_zero_right] at hg ⊢
      rw [q_X4_tellPart_9, if_pos ((lg_cmp_eq _ _).mpr rfl), part_end hg ha]
      split <;> rfl
    · cases k with
      | zero => exact absurd he h0
      | succ k =>
        have he' : b = 0 ∨ eu k b (a % b) := he
        have hr := Nat.mod_lt a (by omega : b > 0)
        have e1 : ¬ lg_cmp (lN b) (lN 0) = 0 := fun e => h0 (lN_inj hb (by omega) ((lg_cmp_eq _ _).mp e))
        have e2 : ¬ lN b = 0 := fun e => h0 (lN_inj (b := 0) hb (by omega) e)
        rw [q_X4_tellPart_9, if_pos (nI_lt (by omega) (by omega)), if_neg e1, if_neg e2, lN_rm ha (by omega) hb, nI_1, ← gcd_st]
        exact c_part k (i + 1) b (a % b) (he'.resolve_left h0) (by omega) (by rw [gcd_st]; exact hg) hb (by omega)
theorem m_com : ∀ k a b, eu k a b → a < 2 ^ 31 → b < 2 ^ 31 → b_X10_common_4 (nI a) (nI b) σ = some (some (some (.inl (nI (Nat.gcd a b)))), σ)
  | k, a, b, he, ha, hb => by
    by_cases h0 : b = 0
    · subst h0
      rw [q_X10_common_4, if_pos n00, Nat.gcd_zero_right]
    · cases k with
      | zero => exact absurd he h0
      | succ k =>
        have he' : b = 0 ∨ eu k b (a % b) := he
        have hr := Nat.mod_lt a (by omega : b > 0)
        have e2 : ¬ nI b = 0 := nI_ne0 (by omega) hb
        rw [q_X10_common_4, if_neg e2, if_neg e2, pk_rem ha (by omega) hb, ← gcd_st]
        exact m_com k b (a % b) (he'.resolve_left h0) hb (by omega)
theorem m_comL : ∀ k a b, eu k a b → a < 2 ^ 63 → b < 2 ^ 63 → b_X10_commonLong_6 (lN a) (lN b) σ = some (some (some (.inr (.inl (lN (Nat.gcd a b))))), σ)
  | k, a, b, he, ha, hb => by
    by_cases h0 : b = 0
    · subst h0
      rw [q_X10_commonLong_6, if_pos ((lg_cmp_eq _ _).mpr rfl), Nat.gcd_zero_right]
    · cases k with
      | zero => exact absurd he h0
      | succ k =>
        have he' : b = 0 ∨ eu k b (a % b) := he
        have hr := Nat.mod_lt a (by omega : b > 0)
        have e1 : ¬ lg_cmp (lN b) (lN 0) = 0 := fun e => h0 (lN_inj hb (by omega) ((lg_cmp_eq _ _).mp e))
        have e2 : ¬ lN b = 0 := fun e => h0 (lN_inj (b := 0) hb (by omega) e)
        rw [q_X10_commonLong_6, if_neg e1, if_neg e2, lN_rm ha (by omega) hb, ← gcd_st]
        exact m_comL k b (a % b) (he'.resolve_left h0) hb (by omega)
def su (f : Nat → Nat) : Nat → Nat
  | 0 => 0
  | k + 1 => su f k + f k
theorem c_pow (hb : b < 2 ^ 31) (ht : t < 2 ^ 31) : ∀ d i, i + d = t → b_X9_power_5 (nI b) (nI t) (lN (b ^ i)) (nI i) σ = some (some (some (.inr (.inl (lN (b ^ t))))), σ)
  | 0, i, hi => by
    have : i = t := by omega
    subst this
    rw [q_X9_power_5, if_neg (nI_nlt (by omega) (by omega))]
  | d + 1, i, hi => by
    rw [q_X9_power_5, if_pos (nI_lt (by omega) (by omega)), nI_l hb, lN_mul, ← Nat.pow_succ, nI_1]
    exact c_pow hb ht d (i + 1) (by omega)
theorem m_pow (ht : t < 2 ^ 31) : ∀ d i, i + d = t → b_X10_power_4 (nI b) (nI t) (nI (b ^ i)) (nI i) σ = some (some (some (.inl (nI (b ^ t)))), σ)
  | 0, i, hi => by
    have : i = t := by omega
    subst this
    rw [q_X10_power_4, if_neg (nI_nlt (by omega) (by omega))]
  | d + 1, i, hi => by
    rw [q_X10_power_4, if_pos (nI_lt (by omega) (by omega)), pk_mul, ← Nat.pow_succ, nI_1]
    exact m_pow ht d (i + 1) (by omega)
theorem c_way (hn : n < 5) (hw : w < 32) : ∀ d i, i + d = w + 1 → b_X9_waysAlone_5 (nI (n + 1)) (nI w) (lN (su (fun k => k ^ n) i)) (nI i) σ = some (some (some (.inr (.inl (lN ((n + 1) * su (fun k => k ^ n) (w + 1)))))), σ)
  | 0, i, hi => by
    have : i = w + 1 := by omega
    subst this
    rw [q_X9_waysAlone_5, if_pos (nI_lt (by omega) (by omega)), nI_l (by omega), lN_mul]
  | d + 1, i, hi => by
    rw [q_X9_waysAlone_5, if_neg (nI_nlt (by omega) (by omega)), pk_sub (by omega), Nat.add_sub_cancel, q_X9_power, show lN 1 = lN (i ^ 0) from rfl, c_pow (by omega) (by omega) n 0 (by omega)]
    dsimp only [bdL]
    rw [lN_add, nI_1]
    exact c_way hn hw d (i + 1) (by omega)
theorem m_way (hn : n < 5) (hw : w < 32) : ∀ d i, i + d = w + 1 → b_X10_waysAlone_4 (nI (n + 1)) (nI w) (nI (su (fun k => (w - k) ^ n) i)) (nI i) σ = some (some (some (.inl (nI ((n + 1) * su (fun k => (w - k) ^ n) (w + 1))))), σ)
  | 0, i, hi => by
    have : i = w + 1 := by omega
    subst this
    rw [q_X10_waysAlone_4, if_pos (nI_lt (by omega) (by omega)), pk_mul]
  | d + 1, i, hi => by
    rw [q_X10_waysAlone_4, if_neg (nI_nlt (by omega) (by omega)), pk_sub (a := n + 1) (by omega), Nat.add_sub_cancel, pk_sub (by omega), q_X10_power, show nI 1 = nI ((w - i) ^ 0) from rfl, m_pow (by omega) n 0 (by omega)]
    dsimp only [bdI]
    rw [nI_add, nI_1]
    exact m_way hn hw d (i + 1) (by omega)
theorem way_eq : ∀ n, n < 5 → ∀ w, w < 32 → su (fun k => (w - k) ^ n) (w + 1) = su (fun k => k ^ n) (w + 1) ∧ (n + 1) * su (fun k => k ^ n) (w + 1) < 2 ^ 31 ∧ (w + 1) ^ (n + 1) < 2 ^ 31 ∧ 0 < (w + 1) ^ (n + 1) := by decide +kernel
theorem c00 : ¬ (nI 0 < 0 ∨ 1432 ≤ 0) := by decide
theorem one5 (h : ¬ p < nI 1 ∧ ¬ nI 5 < p) : ∃ n, n < 5 ∧ p = nI (n + 1) := by
  obtain ⟨j, h1, h2⟩ := (in_S2 (k := 5) (by omega)).mp (⟨fun q => h.1 (by rw [i32_lt, nI_toInt (by omega)] at q ⊢; omega), h.2⟩ : ¬ p < nI 0 ∧ ¬ nI 5 < p)
  subst h2
  refine ⟨j - 1, by omega, ?_⟩
  have h3 : ¬ nI j < nI 1 := h.1
  rw [nI_ltI (by omega) (by omega)] at h3
  rw [show j - 1 + 1 = j from by omega]
theorem c_wayP (hn : n < 5) (hw : w < 32) : e_X9_waysAlone (nI (n + 1)) (nI w) σ = some (some (some (.inr (.inl (lN ((n + 1) * su (fun k => k ^ n) (w + 1)))))), σ) := by
  rw [q_X9_waysAlone]
  exact c_way hn hw (w + 1) 0 (by omega)
theorem c_powP (hb : b < 2 ^ 31) (ht : t < 2 ^ 31) : e_X9_power (nI b) (nI t) σ = some (some (some (.inr (.inl (lN (b ^ t))))), σ) := by
  rw [q_X9_power]
  exact c_pow hb ht t 0 (by omega)
theorem m_wayP (hn : n < 5) (hw : w < 32) : e_X10_waysAlone (nI (n + 1)) (nI w) σ = some (some (some (.inl (nI ((n + 1) * su (fun k => k ^ n) (w + 1))))), σ) := by
  rw [q_X10_waysAlone, ← (way_eq n hn w hw).1]
  exact m_way hn hw (w + 1) 0 (by omega)
theorem m_powP (ht : t < 2 ^ 31) : e_X10_power (nI b) (nI t) σ = some (some (some (.inl (nI (b ^ t)))), σ) := by
  rw [q_X10_power]
  exact m_pow ht t 0 (by omega)
theorem o_odds (hJ : J K σ) (hK : K ≤ K') (h24 : K' < 2 ^ 24) : Res K' (e_X9_odds p1 p2) (e_X10_odds p1 p2) σ := by
  by_cases h1 : ¬ p1 < nI 1 ∧ ¬ nI 5 < p1
  · by_cases h2 : ¬ p2 < nI 0 ∧ ¬ nI 31 < p2
    · have h1' := h1
      obtain ⟨n, hn, rfl⟩ := one5 h1'
      have h2' := h2
      obtain ⟨w, hw, rfl⟩ := (in_S2 (by omega)).mp h2'
      obtain ⟨-, b1, b2, b3⟩ := way_eq n hn w hw
      have hg : 0 < Nat.gcd ((n + 1) * su (fun k => k ^ n) (w + 1)) ((w + 1) ^ (n + 1)) := Nat.gcd_pos_of_pos_right _ b3
      have hg2 : Nat.gcd ((n + 1) * su (fun k => k ^ n) (w + 1)) ((w + 1) ^ (n + 1)) ≤ (w + 1) ^ (n + 1) := Nat.gcd_le_right _ b3
      refine finT (v := nI 0) hJ hK h24 (fun _ _ h => Ev_gn h) (fun _ _ h => Ev_gn h) [lN ((n + 1) * su (fun k => k ^ n) (w + 1)) / lN (Nat.gcd ((n + 1) * su (fun k => k ^ n) (w + 1)) ((w + 1) ^ (n + 1))), lN ((w + 1) ^ (n + 1)) / lN (Nat.gcd ((n + 1) * su (fun k => k ^ n) (w + 1)) ((w + 1) ^ (n + 1)))] (Nat.le_of_ble_eq_true rfl) ?_ ?_
      · rw [q_X9_odds, if_neg h1.1, if_neg h1.2, if_neg (show ¬ nI w < 0 from h2.1), if_neg h2.2, c_wayP hn hw]
        dsimp only [bdL]
        rw [nI_add, c_powP (by omega) (by omega)]
        dsimp only
        rw [q_X4_tellPart, c_part 99 0 _ _ (eu_99 (by omega)) (by omega) hg (by omega) (by omega)]
        rfl
      · rw [q_X10_odds]
        dsimp only
        rw [m_in]
        dsimp only [bdI]
        rw [if_bI h1, m_in]
        dsimp only
        rw [if_bI h2, m_wayP hn hw]
        dsimp only
        rw [nI_add, m_powP (by omega)]
        dsimp only
        rw [q_X10_common, m_com 99 _ _ (eu_99 (by omega)) b1 b2]
        dsimp only
        rw [if_neg (nI_ne0 hg (by omega)), r_empty, pk_div b1 hg (by omega), pk_div b2 hg (by omega), r_t0]
        dsimp only [bdV]
        rw [if_neg (nI_ne0 hg (by omega)), r_t1]
        dsimp only
        have d1 := Nat.div_le_self ((n + 1) * su (fun k => k ^ n) (w + 1)) (Nat.gcd ((n + 1) * su (fun k => k ^ n) (w + 1)) ((w + 1) ^ (n + 1)))
        have d2 := Nat.div_le_self ((w + 1) ^ (n + 1)) (Nat.gcd ((n + 1) * su (fun k => k ^ n) (w + 1)) ((w + 1) ^ (n + 1)))
        rw [nI_l (by omega), nI_l (by omega), lN_dv (by omega) hg (by omega), lN_dv (by omega) hg (by omega)]
    · refine fin0 (v := -1) hJ hK h24 (fun _ _ h => Ev_gn h) (fun _ _ h => Ev_gn h) ?_ ?_
      · rw [q_X9_odds, if_neg h1.1, if_neg h1.2]
        by_cases h3 : p2 < 0
        · rw [if_pos h3]
        · rw [if_neg h3, if_pos (Classical.byContradiction fun q => h2 ⟨h3, q⟩)]
      · rw [q_X10_odds]
        dsimp only
        rw [m_in]
        dsimp only [bdI]
        rw [if_bI h1, m_in]
        dsimp only
        rw [if_nbI h2]
  · refine fin0 (v := -1) hJ hK h24 (fun _ _ h => Ev_gn h) (fun _ _ h => Ev_gn h) ?_ ?_
    · rw [q_X9_odds]
      by_cases h3 : p1 < nI 1
      · rw [if_pos h3]
      · rw [if_neg h3, if_pos (Classical.byContradiction fun q => h1 ⟨h3, q⟩)]
    · rw [q_X10_odds]
      dsimp only
      rw [m_in]
      dsimp only [bdI]
      rw [if_nbI h1]
theorem win_from (hn : n < 5) (hx : x < 2 ^ 31) : ∀ d i, i + d = 32 → ∃ v, (∀ σ, b_X9_window_24 (nI (n + 1)) (nI x) (nI i) σ = some (some (some (.inl v)), σ)) ∧ ∀ σ, b_X10_window_28 (nI (n + 1)) (nI x) (nI i) σ = some (some (some (.inl v)), σ)
  | 0, i, hi => ⟨-2, fun σ => by rw [q_X9_window_24, if_pos (nI_lt (by omega) (by omega))], fun σ => by rw [q_X10_window_28, if_pos (nI_lt (by omega) (by omega))]⟩
  | d + 1, i, hi => by
    obtain ⟨v, h1, h2⟩ := win_from hn hx d (i + 1) (by omega)
    obtain ⟨-, b1, b2, b3⟩ := way_eq n hn i (by omega)
    have e1 : ∀ σ, b_X9_window_24 (nI (n + 1)) (nI x) (nI i) σ = if lg_cmp (lN 100 * lN ((n + 1) * su (fun k => k ^ n) (i + 1))) (lN x * lN ((i + 1) ^ (n + 1))) < 0 then b_X9_window_24 (nI (n + 1)) (nI x) (nI (i + 1)) σ else some (some (some (.inl (nI i))), σ) := fun σ => by
      rw [q_X9_window_24, if_neg (nI_nlt (by omega) (by omega)), c_wayP hn (by omega)]
      dsimp only [bdL]
      rw [nI_add, c_powP (by omega) (by omega), nI_l hx, nI_1]
    have e2 : ∀ σ, b_X10_window_28 (nI (n + 1)) (nI x) (nI i) σ = if lg_cmp (lN 100 * lN ((n + 1) * su (fun k => k ^ n) (i + 1))) (lN x * lN ((i + 1) ^ (n + 1))) < 0 then b_X10_window_28 (nI (n + 1)) (nI x) (nI (i + 1)) σ else some (some (some (.inl (nI i))), σ) := fun σ => by
      rw [q_X10_window_28, if_neg (nI_nlt (by omega) (by omega)), m_wayP hn (by omega)]
      dsimp only [bdI]
      rw [nI_add, m_powP (by omega), nI_l hx, nI_1]
      dsimp only
      rw [nI_l b1, nI_l b2]
    by_cases hc : lg_cmp (lN 100 * lN ((n + 1) * su (fun k => k ^ n) (i + 1))) (lN x * lN ((i + 1) ^ (n + 1))) < 0
    · exact ⟨v, fun σ => by rw [e1, if_pos hc, h1], fun σ => by rw [e2, if_pos hc, h2]⟩
    · exact ⟨nI i, fun σ => by rw [e1, if_neg hc], fun σ => by rw [e2, if_neg hc]⟩
theorem o_window (hJ : J K σ) (hK : K ≤ K') (h24 : K' < 2 ^ 24) : Res K' (e_X9_window p1 p2) (e_X10_window p1 p2) σ := by
  by_cases h1 : ¬ p1 < nI 1 ∧ ¬ nI 5 < p1
  · by_cases h2 : ¬ p2 < nI 0 ∧ ¬ nI 100 < p2
    · have h1' := h1
      obtain ⟨n, hn, rfl⟩ := one5 h1'
      have h2' := h2
      obtain ⟨x, hx, rfl⟩ := (in_S2 (by omega)).mp h2'
      obtain ⟨v, e1, e2⟩ := win_from (x := x) hn (by omega) 32 0 (by omega)
      refine fin0 (v := v) hJ hK h24 (fun _ _ h => Ev_gn h) (fun _ _ h => Ev_gn h) ?_ ?_
      · rw [q_X9_window, if_neg h1.1, if_neg h1.2, if_neg (show ¬ nI x < 0 from h2.1), if_neg h2.2, e1]
      · rw [q_X10_window]
        dsimp only
        rw [m_in]
        dsimp only [bdI]
        rw [if_bI h1, m_in]
        dsimp only
        rw [if_bI h2, e2]
    · refine fin0 (v := -1) hJ hK h24 (fun _ _ h => Ev_gn h) (fun _ _ h => Ev_gn h) ?_ ?_
      · rw [q_X9_window, if_neg h1.1, if_neg h1.2]
        by_cases h3 : p2 < 0
        · rw [if_pos h3]
        · rw [if_neg h3, if_pos (Classical.byContradiction fun q => h2 ⟨h3, q⟩)]
      · rw [q_X10_window]
        dsimp only
        rw [m_in]
        dsimp only [bdI]
        rw [if_bI h1, m_in]
        dsimp only
        rw [if_nbI h2]
  · refine fin0 (v := -1) hJ hK h24 (fun _ _ h => Ev_gn h) (fun _ _ h => Ev_gn h) ?_ ?_
    · rw [q_X9_window]
      by_cases h3 : p1 < nI 1
      · rw [if_pos h3]
      · rw [if_neg h3, if_pos (Classical.byContradiction fun q => h1 ⟨h3, q⟩)]
    · rw [q_X10_window]
      dsimp only
      rw [m_in]
      dsimp only [bdI]
      rw [if_nbI h1]
/-- units delivered -/
def uD (N : Nat → Int32) (s : Nat) : Nat := (N (1275 + 9 * s + 1)).toNatClampNeg
theorem su_le {f : Nat → Nat} {B : Nat} : ∀ n, (∀ s, s < n → f s ≤ B) → su f n ≤ n * B
  | 0, _ => Nat.zero_le _
  | n + 1, h => by
    have h1 := su_le n (fun s hs => h s (by omega))
    have h2 := h n (by omega)
    have h3 : (n + 1) * B = n * B + B := Nat.succ_mul n B
    show su f n + f n ≤ _
    omega
theorem c_ev_from (hd : Hd 0 σ C) (hR : Rl M C N P Q) (hM : M ≤ 6) (hN0 : N 0 = nI M) (hu : ∀ s, s < M → N (1275 + 9 * s + 1) = nI (uD N s) ∧ uD N s < 2 ^ 31) : ∀ d i, i + d = M → b_X9_even_7 (lN (su (uD N) i)) (lN (su (fun s => uD N s * uD N s) i)) (nI i) σ = b_X9_even_7 (lN (su (uD N) M)) (lN (su (fun s => uD N s * uD N s) M)) (nI M) σ
  | 0, i, hi => by rw [show i = M from by omega]
  | d + 1, i, hi => by
    obtain ⟨u1, u2⟩ := hu i (by omega)
    rw [q_X9_even_7, hd.rd ix_many, hR.pl (pd_lo (by omega)), hN0, if_pos (nI_lt (by omega) (by omega)), if_neg (nI_in (by omega) (by omega)), if_neg (nI_in (by omega) (by omega)), nI_clamp (by omega), nI_clamp (by omega), hd.rd (ix_tally (by omega) (by omega)), hR.pl (pd_ty hM (by omega) (by omega)), u1, nI_l u2, lN_mul, lN_add, lN_add, nI_1]
    exact c_ev_from hd hR hM hN0 hu d (i + 1) (by omega)
theorem m_ev_from (hM : M ≤ 6) (hτ : τ.1 (30, 0, 0, 0) = N) (hN0 : N 0 = nI M) (hu : ∀ s, s < M → N (1275 + 9 * s + 1) = nI (uD N s) ∧ uD N s < 2 ^ 31) : ∀ d i, i + d = M → b_X10_even_12 (lN (su (uD N) i)) (lN (su (fun s => uD N s * uD N s) i)) (nI i) τ = b_X10_even_12 (lN (su (uD N) M)) (lN (su (fun s => uD N s * uD N s) M)) (nI M) τ
  | 0, i, hi => by rw [show i = M from by omega]
  | d + 1, i, hi => by
    obtain ⟨u1, u2⟩ := hu i (by omega)
    rw [q_X10_even_12, if_neg c0, c0c, hτ, hN0, if_pos (nI_lt (by omega) (by omega)), pk_mul, nI_add, nI_add, if_neg (nI_in (by omega) (by omega)), nI_clamp (by omega), u1, nI_l u2, lN_mul, lN_add, lN_add, nI_1]
    exact m_ev_from hM hτ hN0 hu d (i + 1) (by omega)
theorem o_even (hJ : J K σ) (hK : K ≤ K') (h24 : K' < 2 ^ 24) (h20 : K ≤ 1048576) : Res K' e_X9_even e_X10_even σ := by
  obtain ⟨C, M, hd, hV, hR⟩ := jget hJ
  have hM := hV.1.2.1
  have hN0 := hV.1.1
  have h0 : C 0 = nI M := (hR.pl (pd_lo (by omega))).trans hN0
  obtain ⟨t, t1, -, -, -, t5⟩ := hV.2.2.2.2.2.2
  have hu : ∀ s, s < M → σ.1 (30, 0, 0, 0) (1275 + 9 * s + 1) = nI (uD (σ.1 (30, 0, 0, 0)) s) ∧ uD (σ.1 (30, 0, 0, 0)) s ≤ 37748736 := fun s hs => by
    obtain ⟨u, u1, u2⟩ := t5 s hs
    have : uD (σ.1 (30, 0, 0, 0)) s = u := by unfold uD; rw [u2, nI_clamp (by omega)]
    rw [this]
    exact ⟨u2, by omega⟩
  have hu' : ∀ s, s < M → σ.1 (30, 0, 0, 0) (1275 + 9 * s + 1) = nI (uD (σ.1 (30, 0, 0, 0)) s) ∧ uD (σ.1 (30, 0, 0, 0)) s < 2 ^ 31 := fun s hs => ⟨(hu s hs).1, by have := (hu s hs).2; omega⟩
  have ec := c_ev_from hd hR hM hN0 hu' M 0 (by omega)
  have em := fun (τ : mS) (hτ : τ.1 (30, 0, 0, 0) = σ.1 (30, 0, 0, 0)) => m_ev_from (τ := τ) hM hτ hN0 hu' M 0 (by omega)
  have bA : su (uD (σ.1 (30, 0, 0, 0))) M ≤ 226492416 := by
    have h1 := su_le M (fun s hs => (hu s hs).2)
    have h2 : M * 37748736 ≤ 6 * 37748736 := Nat.mul_le_mul_right _ hM
    omega
  have bB : M * su (fun s => uD (σ.1 (30, 0, 0, 0)) s * uD (σ.1 (30, 0, 0, 0)) s) M ≤ 6 * (6 * (37748736 * 37748736)) := by
    refine Nat.mul_le_mul hM ?_
    have h1 := su_le (f := fun s => uD (σ.1 (30, 0, 0, 0)) s * uD (σ.1 (30, 0, 0, 0)) s) M (fun s hs => Nat.mul_le_mul (hu s hs).2 (hu s hs).2)
    exact Nat.le_trans h1 (Nat.mul_le_mul_right _ hM)
  have bAA : su (uD (σ.1 (30, 0, 0, 0))) M * su (uD (σ.1 (30, 0, 0, 0))) M ≤ 226492416 * 226492416 := Nat.mul_le_mul bA bA
  generalize hA : su (uD (σ.1 (30, 0, 0, 0))) M = A at *
  generalize su (fun s => uD (σ.1 (30, 0, 0, 0)) s * uD (σ.1 (30, 0, 0, 0)) s) M = B at *
  have e9 : e_X9_even σ = b_X9_even_7 (lN A) (lN B) (nI M) σ := by rw [q_X9_even]; exact ec
  by_cases hA0 : A = 0
  · subst hA0
    refine fin0 (v := -2) hJ hK h24 (fun _ _ h => Ev_gn h) (fun _ _ h => Ev_gn h) ?_ ?_
    · rw [e9, q_X9_even_7, hd.rd ix_many, h0, if_neg (nI_nlt (by omega) (by omega)), if_pos ((lg_cmp_eq _ _).mpr rfl)]
    · rw [q_X10_even]
      dsimp only
      have := em (st σ (10, 0, 0, 0) 5 (nI 0)) s30
      rw [show b_X10_even_12 (lN 0) (lN 0) (nI 0) (st σ (10, 0, 0, 0) 5 (nI 0)) = _ from this, q_X10_even_12, if_neg c0, c0c, s30, hN0, if_neg (nI_nlt (by omega) (by omega)), if_pos ((lg_cmp_eq _ _).mpr rfl)]
  · have hAA : 0 < A * A := Nat.mul_pos (by omega) (by omega)
    have hg : 0 < Nat.gcd (A * A) (M * B) := Nat.gcd_pos_of_pos_left _ hAA
    have hg2 : Nat.gcd (A * A) (M * B) ≤ A * A := Nat.gcd_le_left _ hAA
    have e1 : ¬ lg_cmp (lN A) (lN 0) = 0 := fun e => hA0 (lN_inj (by omega) (by omega) ((lg_cmp_eq _ _).mp e))
    have e2 : ¬ lN (Nat.gcd (A * A) (M * B)) = 0 := fun e => by
      have := lN_inj (b := 0) (by omega) (by omega) e
      omega
    refine finT (v := nI 0) hJ hK h24 (fun _ _ h => Ev_gn h) (fun _ _ h => Ev_gn h) [lN (A * A) / lN (Nat.gcd (A * A) (M * B)), lN (M * B) / lN (Nat.gcd (A * A) (M * B))] (Nat.le_of_ble_eq_true rfl) ?_ ?_
    · rw [e9, q_X9_even_7, hd.rd ix_many, h0, if_neg (nI_nlt (by omega) (by omega)), if_neg e1, nI_l (by omega), lN_mul, lN_mul, q_X4_tellPart, c_part 99 0 _ _ (eu_99 (by omega)) (by omega) hg (by omega) (by omega)]
      rfl
    · rw [q_X10_even]
      dsimp only
      have := em (st (tC σ [lN (A * A) / lN (Nat.gcd (A * A) (M * B)), lN (M * B) / lN (Nat.gcd (A * A) (M * B))]) (10, 0, 0, 0) 5 (nI 0)) (by rw [s30, c30])
      rw [show b_X10_even_12 (lN 0) (lN 0) (nI 0) (st (tC σ [lN (A * A) / lN (Nat.gcd (A * A) (M * B)), lN (M * B) / lN (Nat.gcd (A * A) (M * B))]) (10, 0, 0, 0) 5 (nI 0)) = _ from this, q_X10_even_12, if_neg c0, c0c, s30, c30, hN0, if_neg (nI_nlt (by omega) (by omega)), if_neg e1, if_neg c00, nI_l (by omega), lN_mul, lN_mul, q_X10_commonLong, m_comL 99 _ _ (eu_99 (by omega)) (by omega) (by omega)]
      dsimp only [bdL]
      rw [r_empty, if_neg e2, r_t0]
      dsimp only [bdV]
      rw [if_neg c00, if_neg e2, t30, s30, c30, hN0, nI_l (by omega), lN_mul, r_t1]
end AR

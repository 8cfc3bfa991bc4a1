/-! One air becomes another -/
section BC
variable {M K K' s z r i n m k a b x t h w lo : Nat} {σ τ σ' σ1 σ2 : mS} {C D N N' C' O W P Q : Nat → Int32} {o : mO} {v p p1 p2 : Int32} {S S' : Nat → Prop}
noncomputable def mix (S : Nat → Prop) (C D : Nat → Int32) : Nat → Int32 := fun m => @ite _ (S m) (Classical.propDecidable _) (C m) (D m)
theorem mix_t (h : S m) : mix S C D m = C m := by unfold mix; exact if_pos h
theorem mix_f (h : ¬ S m) : mix S C D m = D m := by unfold mix; exact if_neg h
theorem mix_c (h : ∀ m, S m ↔ S' m) : mix S C D = mix S' C D := by
  funext m
  by_cases hs : S m
  · rw [mix_t hs, mix_t ((h m).mp hs)]
  · rw [mix_f hs, mix_f (fun q => hs ((h m).mpr q))]
theorem mix_0 : mix (fun _ => False) C D = D := by
  funext m
  exact mix_f (fun q => q)
theorem oth_rd (hd : Hd a σ C) (hab : a ≠ b) (hx : ixA a o i = some m) : (wC b σ D).1 o i = C m := by
  rw [wC_same (fun q => hab ((ixA_a hx).symm.trans q.2))]
  exact hd.rd hx
theorem cp_st {k s r : Nat} (hd : Hd a σ C) (hab : a ≠ b) (hx : ixA a (k, a, s, r) i = some m) (hy : ixA b (k, b, s, r) i = some m) : st (wC b σ (mix S C D)) (k, b, s, r) i ((wC b σ (mix S C D)).1 (k, a, s, r) i) = wC b σ (mix (fun q => S q ∨ q = m) C D) := by
  rw [oth_rd hd hab hx, wC_st hy]
  congr 1
  funext q
  by_cases h1 : q = m
  · rw [upd_e h1, mix_t (Or.inr h1), h1]
  · rw [upd_n h1]
    by_cases h2 : S q
    · rw [mix_t h2, mix_t (Or.inl h2)]
    · rw [mix_f h2, mix_f (fun e => e.elim h2 h1)]
theorem cp_run {k s r : Nat} (hd : Hd a σ C) (hab : a ≠ b) (hx : ∀ i, i < n → ixA a (k, a, s, r) i = some (lo + i)) (hy : ∀ i, i < n → ixA b (k, b, s, r) i = some (lo + i)) : stC (wC b σ (mix S C D)) (k, a, s, r) 0 (k, b, s, r) 0 n = wC b σ (mix (fun q => S q ∨ (lo ≤ q ∧ q < lo + n)) C D) := by
  refine Prod.ext ?_ rfl
  funext o' i'
  show (if o' = (k, b, s, r) ∧ 0 ≤ i' ∧ i' < 0 + n then (wC b σ (mix S C D)).1 (k, a, s, r) (0 + (i' - 0)) else (wC b σ (mix S C D)).1 o' i') = _
  by_cases q : o' = (k, b, s, r) ∧ i' < n
  · rw [if_pos ⟨q.1, by omega, by omega⟩, oth_rd hd hab (hx _ (by omega)), q.1, wC_rd (hy i' q.2), mix_t (Or.inr ⟨by omega, by omega⟩), Nat.zero_add, Nat.sub_zero]
  · rw [if_neg (fun e => q ⟨e.1, by omega⟩)]
    cases hq : ixA b o' i' with
    | none => rw [wC_ot hq, wC_ot hq]
    | some k' =>
      rw [wC_rd hq, wC_rd hq]
      have hn : ¬ (lo ≤ k' ∧ k' < lo + n) := fun e => by
        have h1 := hy (k' - lo) (by omega)
        rw [show lo + (k' - lo) = k' from by omega] at h1
        have h2 := ixA_inj hq h1
        exact q ⟨h2.1, by omega⟩
      by_cases h2 : S k'
      · rw [mix_t h2, mix_t (Or.inl h2)]
      · rw [mix_f h2, mix_f (fun e => e.elim h2 hn)]
def S6 (S : Nat → Prop) (s r : Nat) : Nat → Prop := fun m => S m ∨ ((171 + 40 * (4 * s + r) ≤ m ∧ m < 171 + 40 * (4 * s + r) + 40) ∨ m = 147 + (4 * s + r) ∨ m = 1131 + (4 * s + r) ∨ m = 1155 + (4 * s + r))
theorem c_bec6 (hd : Hd a σ C) (hab : a ≠ b) (hs : s < 6) (hr : r < 4) : e_X6_become b s r a s r (wC b σ (mix S C D)) = some (some none, wC b σ (mix (S6 S s r) C D)) := by
  rw [q_X6_become, if_neg (by decide), show (nI 0).toNatClampNeg = 0 from by decide, show (nI 40).toNatClampNeg = 40 from by decide]
  dsimp only
  rw [cp_run hd hab (lo := 171 + 40 * (4 * s + r)) (fun i hi => ix_fr hs hr hi) (fun i hi => ix_fr hs hr hi), cp_st hd hab (ix_size hs hr) (ix_size hs hr), cp_st hd hab (ix_window hs hr) (ix_window hs hr), cp_st hd hab (ix_count hs hr) (ix_count hs hr)]
  congr 3
  refine mix_c fun m => ?_
  unfold S6
  by_cases hS : S m
  · simp only [hS, true_or]
  · simp only [hS, false_or]; omega
def S2 (S : Nat → Prop) (s : Nat) : Nat → Prop := fun m => S m ∨ ((1179 + 16 * s ≤ m ∧ m < 1179 + 16 * s + 12) ∨ m = 1179 + 16 * s + 15)
theorem c_bec2 (hd : Hd a σ C) (hab : a ≠ b) (hB : Bo σ) (hs : s < 6) : e_X2_become b s a s (wC b σ (mix S C D)) = some (some none, wC b σ (mix (S2 S s) C D)) := by
  have hb : ∀ S i, bcl 2 i = true → ((wC b σ (mix S C D)).1 (2, a, s, 0) i = 0 ∨ (wC b σ (mix S C D)).1 (2, a, s, 0) i = 1) := fun S i hi => by
    rw [wC_same (fun q => hab q.2)]
    exact hB (2, a, s, 0) i hi
  rw [q_X2_become, if_pos (hb _ 0 (by decide))]
  dsimp only
  rw [cp_st hd hab (ix_on hs) (ix_on hs), cp_st hd hab (ix_with hs) (ix_with hs), cp_st hd hab (ix_ofRank hs) (ix_ofRank hs), cp_st hd hab (ix_frames hs) (ix_frames hs), cp_st hd hab (ix_places hs) (ix_places hs), cp_st hd hab (ix_step hs) (ix_step hs), cp_st hd hab (ix_left hs) (ix_left hs), cp_st hd hab (ix_whole hs) (ix_whole hs), cp_st hd hab (ix_end hs) (ix_end hs), cp_st hd hab (ix_failure hs) (ix_failure hs), cp_st hd hab (ix_frameNow hs) (ix_frameNow hs), cp_st hd hab (ix_placesNow hs) (ix_placesNow hs), if_pos (hb _ 12 (by decide)), cp_st hd hab (ix_broken hs) (ix_broken hs)]
  congr 3
  refine mix_c fun m => ?_
  unfold S2
  by_cases hS : S m
  · simp only [hS, true_or]
  · simp only [hS, false_or]; omega
def S3 (S : Nat → Prop) (s : Nat) : Nat → Prop := fun m => S m ∨ ((1275 + 9 * s ≤ m ∧ m < 1275 + 9 * s + 9) ∨ (1360 + 6 * s ≤ m ∧ m < 1360 + 6 * s + 6) ∨ m = 1396 + s ∨ (1342 + 3 * s ≤ m ∧ m < 1342 + 3 * s + 3) ∨ (1402 + 3 * s ≤ m ∧ m < 1402 + 3 * s + 3))
theorem c_bec3 (hd : Hd a σ C) (hab : a ≠ b) (hs : s < 6) : e_X3_become b s a s (wC b σ (mix S C D)) = some (some none, wC b σ (mix (S3 S s) C D)) := by
  rw [q_X3_become, if_neg (by decide), show (nI 0).toNatClampNeg = 0 from by decide, show (nI 9).toNatClampNeg = 9 from by decide]
  dsimp only
  rw [if_neg (by decide), show (nI 6).toNatClampNeg = 6 from by decide, cp_run hd hab (lo := 1275 + 9 * s) (fun i hi => ix_tally hs hi) (fun i hi => ix_tally hs hi), cp_run hd hab (lo := 1360 + 6 * s) (fun i hi => ix_spoilt hs hi) (fun i hi => ix_spoilt hs hi), cp_st hd hab (ix_dataPlaces hs) (ix_dataPlaces hs), cp_st hd hab (ix_hfail hs) (ix_hfail hs), cp_st hd hab (ix_hfailSlot hs) (ix_hfailSlot hs), cp_st hd hab (ix_hfailWith hs) (ix_hfailWith hs), cp_st hd hab (ix_hspan hs) (ix_hspan hs), cp_st hd hab (ix_hhear hs) (ix_hhear hs), cp_st hd hab (ix_helse hs) (ix_helse hs)]
  congr 3
  refine mix_c fun m => ?_
  unfold S3
  by_cases hS : S m
  · simp only [hS, true_or]
  · simp only [hS, false_or]; omega
/-- a station's cells -/
def SC (s m : Nat) : Prop := (15 + 6 * s ≤ m ∧ m < 15 + 6 * s + 6) ∨ (51 + 6 * s ≤ m ∧ m < 51 + 6 * s + 6) ∨ (87 + 6 * s ≤ m ∧ m < 87 + 6 * s + 6) ∨ m = 123 + s ∨ m = 129 + s ∨ m = 135 + s ∨ m = 141 + s ∨ (147 + 4 * s ≤ m ∧ m < 147 + 4 * s + 4) ∨ (171 + 160 * s ≤ m ∧ m < 171 + 160 * s + 160) ∨ (1131 + 4 * s ≤ m ∧ m < 1131 + 4 * s + 4) ∨ (1155 + 4 * s ≤ m ∧ m < 1155 + 4 * s + 4) ∨ (1179 + 16 * s ≤ m ∧ m < 1179 + 16 * s + 12) ∨ m = 1179 + 16 * s + 15 ∨ (1275 + 9 * s ≤ m ∧ m < 1275 + 9 * s + 9) ∨ (1360 + 6 * s ≤ m ∧ m < 1360 + 6 * s + 6) ∨ m = 1396 + s ∨ (1342 + 3 * s ≤ m ∧ m < 1342 + 3 * s + 3) ∨ (1402 + 3 * s ≤ m ∧ m < 1402 + 3 * s + 3) ∨ m = 1420 + s ∨ m = 1426 + s ∨ m = 1436 + s
theorem c_bec8 (hd : Hd a σ C) (hab : a ≠ b) (hB : Bo σ) (hs : s < 6) : e_X8_become b s a s (wC b σ (mix S C D)) = some (some none, wC b σ (mix (fun m => S m ∨ SC s m) C D)) := by
  have stp : ∀ (S : Nat → Prop) (r : Nat), r < 4 → b_X8_become_2 b s a s (nI r) (wC b σ (mix S C D)) = b_X8_become_2 b s a s (nI (r + 1)) (wC b σ (mix (S6 S s r) C D)) := fun S r hr => by
    rw [q_X8_become_2, if_pos (nI_lt hr (by omega)), if_neg (nI_in hr (by omega)), if_neg (nI_in hr (by omega)), nI_clamp (by omega), c_bec6 hd hab hs hr, nI_1]
    rfl
  rw [q_X8_become, stp S 0 (by omega), stp _ 1 (by omega), stp _ 2 (by omega), stp _ 3 (by omega), q_X8_become_2, if_neg (by decide), c_bec2 hd hab hB hs]
  dsimp only [bdV]
  rw [c_bec3 hd hab hs]
  dsimp only
  rw [if_neg (by decide), if_neg (by decide), if_neg (by decide), show (nI 0).toNatClampNeg = 0 from by decide, show (nI 6).toNatClampNeg = 6 from by decide, cp_run hd hab (lo := 15 + 6 * s) (fun i hi => ix_quality hs hi) (fun i hi => ix_quality hs hi), cp_run hd hab (lo := 51 + 6 * s) (fun i hi => ix_rate hs hi) (fun i hi => ix_rate hs hi), cp_run hd hab (lo := 87 + 6 * s) (fun i hi => ix_luck hs hi) (fun i hi => ix_luck hs hi), cp_st hd hab (ix_hears hs) (ix_hears hs), cp_st hd hab (ix_still hs) (ix_still hs), cp_st hd hab (ix_span hs) (ix_span hs), cp_st hd hab (ix_spanBy hs) (ix_spanBy hs), cp_st hd hab (ix_spanStep hs) (ix_spanStep hs), cp_st hd hab (ix_owesTo hs) (ix_owesTo hs), cp_st hd hab (ix_owes hs) (ix_owes hs)]
  congr 3
  refine mix_c fun m => ?_
  unfold S3 S2 S6 SC
  by_cases hS : S m
  · simp only [hS, true_or]
  · simp only [hS, false_or]; omega
theorem c_bec_from (hd : Hd a σ C) (hab : a ≠ b) (hB : Bo σ) (hM : M ≤ 6) (h0 : C 0 = nI M) : ∀ d i, i + d = M → b_X0_become_31 b a (nI i) (wC b σ (mix (fun m => (2 ≤ m ∧ m < 15) ∨ ∃ s, s < i ∧ SC s m) C D)) = b_X0_become_31 b a (nI M) (wC b σ (mix (fun m => (2 ≤ m ∧ m < 15) ∨ ∃ s, s < M ∧ SC s m) C D))
  | 0, i, hi => by rw [show i = M from by omega]
  | d + 1, i, hi => by
    rw [q_X0_become_31, oth_rd hd hab ix_many, h0, if_pos (nI_lt (by omega) (by omega)), if_neg (nI_in (by omega) (by omega)), if_neg (nI_in (by omega) (by omega)), nI_clamp (by omega), c_bec8 hd hab hB (by omega), nI_1, ← c_bec_from hd hab hB hM h0 d (i + 1) (by omega)]
    dsimp only [bdV]
    congr 2
    refine mix_c fun m => ?_
    constructor
    · rintro ((h1 | ⟨s, h1, h2⟩) | h1)
      · exact Or.inl h1
      · exact Or.inr ⟨s, by omega, h2⟩
      · exact Or.inr ⟨i, by omega, h1⟩
    · rintro (h1 | ⟨s, h1, h2⟩)
      · exact Or.inl (Or.inl h1)
      · by_cases e : s = i
        · exact Or.inr (e ▸ h2)
        · exact Or.inl (Or.inr ⟨s, by omega, h2⟩)
theorem need_SC (hM : M ≤ 6) (h : needC M m) : (2 ≤ m ∧ m < 15) ∨ (∃ s, s < M ∧ SC s m) ∨ m < 2 ∨ m = 1329 ∨ m = 1330 ∨ m = 1331 ∨ m = 1341 ∨ m = 1333 ∨ m = 1334 ∨ m = 1335 ∨ m = 1340 := by
  have one : ∀ s, s < M → SC s m → (2 ≤ m ∧ m < 15) ∨ (∃ s, s < M ∧ SC s m) ∨ m < 2 ∨ m = 1329 ∨ m = 1330 ∨ m = 1331 ∨ m = 1341 ∨ m = 1333 ∨ m = 1334 ∨ m = 1335 ∨ m = 1340 := fun s h1 h2 => Or.inr (Or.inl ⟨s, h1, h2⟩)
  rcases h with h | ⟨s, hs, h⟩
  · unfold PD at h
    rcases h with h | h | h | h | h | h | h | h | h | h | h | h | h | h
    · omega
    · exact one ((m - 15) % 36 / 6) h.2.2 (by unfold SC; omega)
    · exact one ((m - 123) % 6) h.2.2 (by unfold SC; omega)
    · exact one ((m - 147) / 4) h.2.2 (by unfold SC; omega)
    · exact one ((m - 1131) % 24 / 4) h.2.2 (by unfold SC; omega)
    · exact one ((m - 1275) / 9) h.2.2 (by unfold SC; omega)
    · omega
    · omega
    · omega
    · exact one ((m - 1342) / 3) h.2.2 (by unfold SC; omega)
    · exact one ((m - 1360) / 6) h.2.2.1 (by unfold SC; omega)
    · exact one (m - 1396) h.2.2 (by unfold SC; omega)
    · exact one ((m - 1402) / 3) h.2.2 (by unfold SC; omega)
    · exact one ((m - 1420) % 6) h.2.2 (by unfold SC; omega)
  · exact one s hs (by unfold SC; omega)
theorem c_become (hd : Hd a σ C) (hab : a ≠ b) (hB : Bo σ) (hM : M ≤ 6) (h0 : C 0 = nI M) : ∃ C', e_X0_become b a σ = some (some none, wC b σ C') ∧ ∀ m, needC M m → C' m = C m := by
  obtain ⟨D, hdb⟩ := hd_ex b σ
  have e0 : σ = wC b σ (mix (fun _ => False) C D) := by rw [mix_0]; exact hdb.symm
  have hb : ∀ S i, bcl 0 i = true → ((wC b σ (mix S C D)).1 (0, a, 0, 0) i = 0 ∨ (wC b σ (mix S C D)).1 (0, a, 0, 0) i = 1) := fun S i hi => by
    rw [wC_same (fun q => hab q.2)]
    exact hB (0, a, 0, 0) i hi
  have key : ∀ τ, τ = wC b σ (mix (fun _ => False) C D) → e_X0_become b a τ = some (some none, wC b σ (mix (fun m => (((((((((((2 ≤ m ∧ m < 15) ∨ ∃ s, s < M ∧ SC s m) ∨ m = 0) ∨ m = 1) ∨ m = 1329) ∨ m = 1330) ∨ m = 1331) ∨ m = 1341) ∨ m = 1333) ∨ m = 1334) ∨ m = 1335) ∨ m = 1340) C D)) := by
    intro τ hτ
    rw [hτ, q_X0_become, if_neg (by decide), show (nI 0).toNatClampNeg = 0 from by decide, show (nI 12).toNatClampNeg = 12 from by decide]
    dsimp only
    rw [cp_run hd hab (lo := 2) (fun i hi => ix_set hi) (fun i hi => ix_set hi), cp_st hd hab ix_seed ix_seed]
    have e1 : mix (fun q => (False ∨ (2 ≤ q ∧ q < 2 + 12)) ∨ q = 14) C D = mix (fun m => (2 ≤ m ∧ m < 15) ∨ ∃ s, s < 0 ∧ SC s m) C D := mix_c fun m => by
      constructor
      · rintro ((h | h) | h)
        · exact h.elim
        · exact Or.inl ⟨h.1, by omega⟩
        · exact Or.inl (by omega)
      · rintro (h | ⟨s, h, -⟩)
        · by_cases e : m = 14
          · exact Or.inr e
          · exact Or.inl (Or.inr ⟨h.1, by omega⟩)
        · omega
    rw [e1, c_bec_from hd hab hB hM h0 M 0 (by omega), q_X0_become_31, oth_rd hd hab ix_many, h0, if_neg (nI_nlt (by omega) (by omega)), ← h0, ← oth_rd (D := mix (fun m => (2 ≤ m ∧ m < 15) ∨ ∃ s, s < M ∧ SC s m) C D) hd hab ix_many]
    dsimp only
    rw [cp_st hd hab ix_many ix_many, cp_st hd hab ix_time ix_time, cp_st hd hab ix_sending ix_sending, cp_st hd hab ix_clear ix_clear, cp_st hd hab ix_ran ix_ran, cp_st hd hab ix_beginning ix_beginning, cp_st hd hab ix_one ix_one, cp_st hd hab ix_none ix_none, cp_st hd hab ix_more ix_more, if_pos (hb _ 12 (by decide)), cp_st hd hab ix_marked ix_marked]
  refine ⟨_, key σ e0, fun m hm => mix_t ?_⟩
  rcases need_SC hM hm with h | h | h
  · exact Or.inl (Or.inl (Or.inl (Or.inl (Or.inl (Or.inl (Or.inl (Or.inl (Or.inl (Or.inl (Or.inl h))))))))))
  · exact Or.inl (Or.inl (Or.inl (Or.inl (Or.inl (Or.inl (Or.inl (Or.inl (Or.inl (Or.inl (Or.inr h))))))))))
  · by_cases q : (2 ≤ m ∧ m < 15) ∨ ∃ s, s < M ∧ SC s m
    · simp only [q, true_or]
    · simp only [q, false_or]; omega
end BC

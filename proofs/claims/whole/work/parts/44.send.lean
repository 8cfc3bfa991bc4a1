/-! Both rows: step (b), who is clear, what is had of the slot -/
section SE2
variable {M K s r i n m k d h x y T c : Nat} {F G N C P Q O W C' N' : Nat → Int32} {v u t : Int32} {b : Int32} {q : Nat → Prop} {hp : Nat → Nat → Prop}
noncomputable def GT (q : Nat → Prop) (n k : Nat) (v : Int32) : Int32 := @ite _ (∃ z, z < n ∧ q z ∧ k = 1275 + 9 * z + 5) (Classical.propDecidable _) (v + nI 1) v
noncomputable def GH (hp : Nat → Nat → Prop) (n k : Nat) (v : Int32) : Int32 := @ite _ (∃ z j, z < n ∧ j < 3 ∧ hp z j ∧ k = 1402 + 3 * z + j) (Classical.propDecidable _) (v + nI 1) v
theorem GT_no (h : ∀ z, z < n → k ≠ 1275 + 9 * z + 5) : GT q n k v = v := by
  unfold GT
  rw [if_neg (fun ⟨z, h1, _, h3⟩ => h z h1 h3)]
theorem GH_no (h : k < 1402 ∨ 1402 + 3 * n ≤ k) : GH hp n k v = v := by
  unfold GH
  rw [if_neg (fun ⟨z, j, h1, h2, _, h3⟩ => by omega)]
theorem hiM_u {g : Nat → Int32 → Int32} {j : Nat} (h : g j v = v) : hiM g (upd F j v) = upd (hiM g F) j v := by
  funext k
  unfold hiM
  by_cases e : k = j
  · rw [upd_e e, upd_e e, e, h]
  · rw [upd_n e, upd_n e]
theorem GT_t (h : q i) : upd (hiM (GT q i) F) (1275 + 9 * i + 5) (hiM (GT q i) F (1275 + 9 * i + 5) + nI 1) = hiM (GT q (i + 1)) F := by
  funext k
  by_cases e : k = 1275 + 9 * i + 5
  · rw [upd_e e, e]
    unfold hiM
    rw [GT_no (fun z hz => by omega)]
    unfold GT
    rw [if_pos ⟨i, by omega, h, rfl⟩]
  · rw [upd_n e]
    unfold hiM GT
    by_cases e2 : ∃ z, z < i ∧ q z ∧ k = 1275 + 9 * z + 5
    · obtain ⟨z, h1, h2, h3⟩ := id e2
      rw [if_pos e2, if_pos ⟨z, by omega, h2, h3⟩]
    · rw [if_neg e2, if_neg (fun ⟨z, h1, h2, h3⟩ => e2 ⟨z, by omega, h2, h3⟩)]
theorem GT_f (h : ¬ q i) : hiM (GT q i) F = hiM (GT q (i + 1)) F := by
  funext k
  unfold hiM GT
  by_cases e2 : ∃ z, z < i ∧ q z ∧ k = 1275 + 9 * z + 5
  · obtain ⟨z, h1, h2, h3⟩ := id e2
    rw [if_pos e2, if_pos ⟨z, by omega, h2, h3⟩]
  · rw [if_neg e2, if_neg (fun ⟨z, h1, h2, h3⟩ => e2 ⟨z, by
      by_cases e3 : z = i
      · rw [e3] at h2; exact absurd h2 h
      · omega, h2, h3⟩)]
theorem GH_t {j : Nat} (hj : j < 3) (h : hp i j) (h2 : ∀ j', j' < 3 → j' ≠ j → ¬ hp i j') : upd (hiM (GH hp i) F) (1402 + 3 * i + j) (hiM (GH hp i) F (1402 + 3 * i + j) + nI 1) = hiM (GH hp (i + 1)) F := by
  funext k
  by_cases e : k = 1402 + 3 * i + j
  · rw [upd_e e, e]
    unfold hiM
    rw [GH_no (by omega)]
    unfold GH
    rw [if_pos ⟨i, j, by omega, hj, h, rfl⟩]
  · rw [upd_n e]
    unfold hiM GH
    by_cases e2 : ∃ z j, z < i ∧ j < 3 ∧ hp z j ∧ k = 1402 + 3 * z + j
    · obtain ⟨z, j', h1, h2, h3, h4⟩ := id e2
      rw [if_pos e2, if_pos ⟨z, j', by omega, h2, h3, h4⟩]
    · rw [if_neg e2, if_neg (fun ⟨z, j', h1, h2', h3, h4⟩ => e2 ⟨z, j', by
        by_cases e3 : z = i
        · rw [e3] at h3 h4
          exact absurd h3 (h2 j' h2' (by omega))
        · omega, h2', h3, h4⟩)]
theorem GH_f (h : ∀ j, j < 3 → ¬ hp i j) : hiM (GH hp i) F = hiM (GH hp (i + 1)) F := by
  funext k
  unfold hiM GH
  by_cases e2 : ∃ z j, z < i ∧ j < 3 ∧ hp z j ∧ k = 1402 + 3 * z + j
  · obtain ⟨z, j', h1, h2, h3, h4⟩ := id e2
    rw [if_pos e2, if_pos ⟨z, j', by omega, h2, h3, h4⟩]
  · rw [if_neg e2, if_neg (fun ⟨z, j', h1, h2', h3, h4⟩ => e2 ⟨z, j', by
      by_cases e3 : z = i
      · rw [e3] at h3
        exact absurd h3 (h j' h2')
      · omega, h2', h3, h4⟩)]
/-- numbers from 1275 on change alike -/
theorem Rl.him {g : Nat → Int32 → Int32} (h : Rl M C N P Q) (hM : M ≤ 6) (hg : ∀ k v, (k < 1275 ∨ 1432 ≤ k) → g k v = v) : Rl M (hiM g C) (hiM g N) P Q := by
  obtain ⟨h1, h2, h3, h4, h5⟩ := h
  have e : ∀ (F : Nat → Int32) k, (k < 1275 ∨ 1432 ≤ k) → hiM g F k = F k := fun F k hk => hg k _ hk
  refine ⟨fun k hk => ?_, h2.mono hM (fun s hs => e _ _ (by omega)) (fun k _ _ => e _ _ (by omega)), h3.mono hM (fun k _ _ => e _ _ (by omega)) (fun k _ _ => e _ _ (by omega)), h4.mono hM (fun k _ _ => e _ _ (by omega)) (fun k _ _ => e _ _ (by omega)), h5.mono fun s hs => ⟨e _ _ (by omega), e _ _ (by omega)⟩⟩
  unfold hiM
  rw [h1 k hk]
/-- who sends -/
def pS (N : Nat → Int32) (z : Nat) : Prop := (N (1179 + 16 * z) = nI 1 ∧ (N (1179 + 16 * z + 4) = 0 ∨ N (1179 + 16 * z + 4) = nI 2)) ∨ ¬ N (135 + z) = -1
theorem c_senders_from {a : Nat} {σ : mS} (hM : M ≤ 6) (h0 : C 0 = nI M) (hq : ∀ z, z < M → (q z ↔ ((¬ C (1179 + 16 * z) = 0 ∧ (C (1179 + 16 * z + 4) = 0 ∨ C (1179 + 16 * z + 4) = nI 2)) ∨ ¬ C (141 + z) = 0))) : ∀ d i, i + d = M → b_X0_senders_4 a (bv q i) (nI i) (wC a σ C) = some (some (some (.inl (bv q M))), wC a σ C)
  | 0, i, hi => by
    rw [show i = M from by omega, q_X0_senders_4, rC_many, h0, if_neg (nI_nlt (by omega) (by omega))]
  | d + 1, i, hi => by
    have ih := c_senders_from (a := a) (σ := σ) hM h0 hq d (i + 1) (by omega)
    have hs6 : i < 6 := by omega
    have hsd : e_X2_sends a i (wC a σ C) = some (some (some (.inl (bI (¬ C (1179 + 16 * i) = 0 ∧ (C (1179 + 16 * i + 4) = 0 ∨ C (1179 + 16 * i + 4) = nI 2))))), wC a σ C) := by
      rw [q_X2_sends, rC_on hs6, rC_step hs6, if_pos z1, if_pos o1]
      by_cases k1 : C (1179 + 16 * i) = 0
      · rw [if_pos k1, bI_f (fun g => g.1 k1)]
      · rw [if_neg k1]
        by_cases k2 : C (1179 + 16 * i + 4) = 0
        · rw [if_pos k2, bI_t ⟨k1, Or.inl k2⟩]
        · rw [if_neg k2]
          by_cases k3 : C (1179 + 16 * i + 4) = nI 2
          · rw [if_pos k3, bI_t ⟨k1, Or.inr k3⟩]
          · rw [if_neg k3, bI_f (fun g => g.2.elim k2 k3)]
    rw [q_X0_senders_4, rC_many, h0, if_pos (nI_lt (by omega) (by omega)), nI_clamp (n := i) (by omega), if_neg (ckn (by omega) (by omega)), hsd]
    dsimp only [bdI]
    rw [rC_owes hs6, nI_1]
    by_cases k1 : ¬ C (1179 + 16 * i) = 0 ∧ (C (1179 + 16 * i + 4) = 0 ∨ C (1179 + 16 * i + 4) = nI 2)
    · rw [if_bI k1, bv_t (by omega) ((hq i (by omega)).mpr (Or.inl k1))]
      exact ih
    · rw [if_nbI k1]
      by_cases k2 : C (141 + i) = 0
      · rw [if_pos k2, bv_f' (fun g => ((hq i (by omega)).mp g).elim k1 (fun g => g k2))]
        exact ih
      · rw [if_neg k2, bv_t (by omega) ((hq i (by omega)).mpr (Or.inr k2))]
        exact ih
theorem c_clear_from {a : Nat} {σ : mS} {pT : Nat → Prop} (hI : IS M N) (hH : RH M C N) (h0 : C 0 = nI M) (hb : b = bv pT M) (hC : C 1329 = b) : ∀ d i, i + d = M → b_X0_clearOnes_4 a (bv (fun y => ∃ x, x < M ∧ clr N b M y x) i) (nI i) (wC a σ C) = some (some (some (.inl (bv (fun y => ∃ x, x < M ∧ clr N b M y x) M))), wC a σ C)
  | 0, i, hi => by
    have hM := hI.2.1
    rw [show i = M from by omega, q_X0_clearOnes_4, rC_many, h0, if_neg (nI_nlt (by omega) (by omega))]
  | d + 1, i, hi => by
    have hM := hI.2.1
    have ih := c_clear_from (a := a) (σ := σ) hI hH h0 hb hC d (i + 1) (by omega)
    have hiM : i < M := by omega
    have hbc : bcF (C (1436 + i) &&& C 1329) = nI (zcnt (fun k => 0 < N (15 + 6 * i + k) ∧ pT k) M) := by rw [hH i hiM, hC, hb, bv_and, bc_bv hM]
    have hcl : (∃ x, x < M ∧ clr N b M i x) ↔ (zcnt (fun k => 0 < N (15 + 6 * i + k) ∧ pT k) M = 1 ∧ ¬ sn b i) := by
      have hsn : ∀ k, k < M → (sn b k ↔ pT k) := fun k hk => by rw [hb, bv_sn hM (by omega)]; exact ⟨fun g => g.2, fun g => ⟨hk, g⟩⟩
      rw [zcnt_1]
      constructor
      · rintro ⟨x, hx, g⟩
        obtain ⟨g1, g2, g3, g4, g5⟩ := g
        exact ⟨⟨x, hx, ⟨g2, (hsn x hx).mp g3⟩, fun z hz hzx hpz => g5 ⟨z, Nat.zero_le _, hz, fun e => hzx ((nI_eq (by omega) (by omega)).mp e), hpz.1, (hsn z hz).mpr hpz.2⟩⟩, g4⟩
      · rintro ⟨⟨x, hx, ⟨g1, g2⟩, g3⟩, g4⟩
        refine ⟨x, hx, fun e => ?_, g1, (hsn x hx).mpr g2, g4, fun ⟨z, _, b2, b3, b4, b5⟩ => g3 z b2 (fun e => b3 (by rw [e])) ⟨b4, (hsn z b2).mp b5⟩⟩
        rw [e, hI.2.2.2.2.1 i (by omega)] at g1
        exact nlt00 g1
    have hcn := zcnt_le (fun k => 0 < N (15 + 6 * i + k) ∧ pT k) M
    rw [q_X0_clearOnes_4, rC_many, h0, if_pos (nI_lt (by omega) (by omega)), nI_clamp (n := i) (by omega), if_neg (ckn (by omega) (by omega)), rC_hears (by omega), rC_sending, q_bc, hbc]
    dsimp only [bdI]
    rw [if_neg n10, if_pos n00, c_sendsNow (by omega), hC, nI_1]
    dsimp only
    by_cases k1 : zcnt (fun k => 0 < N (15 + 6 * i + k) ∧ pT k) M = 1
    · rw [if_pos (by rw [k1])]
      by_cases k2 : sn b i
      · rw [if_bI k2, bv_f' (p := fun y => ∃ x, x < M ∧ clr N b M y x) (fun g => (hcl.mp g).2 k2)]
        exact ih
      · rw [if_nbI k2, bv_t (p := fun y => ∃ x, x < M ∧ clr N b M y x) (by omega) (hcl.mpr ⟨k1, k2⟩)]
        exact ih
    · rw [if_neg (fun g => k1 ((nI_eq (by omega) (by omega)).mp g)), bv_f' (p := fun y => ∃ x, x < M ∧ clr N b M y x) (fun g => k1 (hcl.mp g).1)]
      exact ih
def nCount (c : Nat) (F : Nat → Int32) : Nat → Int32 := if c = 0 then upd F 1334 (F 1334 + nI 1) else if c = 1 then upd F 1333 (F 1333 + nI 1) else upd F 1335 (F 1335 + nI 1)
theorem nCount_n (hk : k < 1333 ∨ 1335 < k) : nCount c F k = F k := by
  unfold nCount
  split
  · exact upd_n (by omega)
  · split
    · exact upd_n (by omega)
    · exact upd_n (by omega)
theorem nCount_u {j : Nat} (hj : j < 1333 ∨ 1335 < j) : nCount c (upd F j v) = upd (nCount c F) j v := by
  unfold nCount
  split
  · rw [upd_n (by omega), upd_c (by omega)]
  · split
    · rw [upd_n (by omega), upd_c (by omega)]
    · rw [upd_n (by omega), upd_c (by omega)]
theorem Rl.cnt (h : Rl M C N P Q) (hM : M ≤ 6) : Rl M (nCount c C) (nCount c N) P Q := by
  unfold nCount
  rw [h.pl (pd_hi (k := 1334) (by omega)), h.pl (pd_hi (k := 1333) (by omega)), h.pl (pd_hi (k := 1335) (by omega))]
  split
  · exact h.u hM (Or.inr (Or.inr (Or.inr (by omega))))
  · split
    · exact h.u hM (Or.inr (Or.inr (Or.inr (by omega))))
    · exact h.u hM (Or.inr (Or.inr (Or.inr (by omega))))
theorem c_note0 {a : Nat} {σ : mS} (hc : bcF (C 1329) = nI c) (hc6 : c ≤ 6) : e_X0_noteSlot a (wC a σ C) = b_X0_noteSlot_66 a (nI 0) (wC a σ (nCount c C)) := by
  rw [q_X0_noteSlot, rC_sending, q_bc, hc]
  dsimp only [bdI]
  unfold nCount
  rcases Nat.eq_zero_or_pos c with k1 | k1
  · subst k1
    rw [if_pos n00, if_pos rfl, if_neg n01, if_neg (by decide), rC_none, sC_none, rC_one, sC_one, rC_more, sC_more, add_n0, upd_id, add_n0, upd_id]
  · rw [if_neg (nI_ne0 k1 (by omega)), if_neg (show ¬ c = 0 by omega), rC_none, sC_none, add_n0, upd_id]
    by_cases k2 : c = 1
    · subst k2
      rw [if_pos rfl, if_pos rfl, if_neg (by decide), rC_one, sC_one, rC_more, sC_more, add_n0, upd_id]
    · rw [if_neg (fun g => k2 ((nI_eq (by omega) (by omega)).mp g)), if_neg k2, if_pos (nI_lt (by omega) (by omega)), rC_one, sC_one, add_n0, upd_id, rC_more, sC_more]
end SE2

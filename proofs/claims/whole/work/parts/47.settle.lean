/-! Both rows: (b) together; step (g) of a station -/
section ST
variable {M K s r i n m k d h x y T c : Nat} {F G N C P Q O W C' N' : Nat → Int32} {v u t : Int32} {b : Int32} {q fr rn hd : Nat → Prop} {hp : Nat → Nat → Prop}
theorem IC.mono (h : IC M N) (e1 : ∀ k, k < 123 → N' k = N k) (e2 : ∀ k, 147 ≤ k → k < 1155 → N' k = N k) (e3 : ∀ k, 1179 ≤ k → k < 1275 → N' k = N k) (e4 : ∀ s t, s < M → (t = 0 ∨ t = 2 ∨ t = 4 ∨ t = 6) → N' (1275 + 9 * s + t) = N (1275 + 9 * s + t)) (e5 : ∀ k, 1336 ≤ k → k < 1341 → N' k = N k) : IC M N' := by
  obtain ⟨i1, i2, i3, i4, i5⟩ := h
  have hM := i1.2.1
  exact ⟨i1.mono fun k hk => e1 k (by omega), i2.mono hM fun k _ _ => e1 k (by omega), i3.mono hM (fun k a c => e2 k (by omega) (by omega)) (fun k _ _ => e1 k (by omega)), fun z hz => (i4 z hz).mono hz hM (fun k _ _ => e1 k (by omega)) (fun k a c _ _ => e2 k (by omega) (by omega)) (fun k a c => e2 k (by omega) (by omega)) (fun k hk => e3 _ (by omega) (by omega)), i5.mono hM (e5 _ (by omega) (by omega)) (fun k a c => e5 k (by omega) (by omega)) e4⟩
theorem hO_hd (hM : M ≤ 6) : hO N b M y (-1) 0 ↔ ∃ x, x < M ∧ 0 < N (15 + 6 * y + x) ∧ sn b x := by
  constructor
  · rintro ⟨z, -, g2, -, g4, g5⟩
    exact ⟨z, g2, g4, g5⟩
  · rintro ⟨z, g2, g4, g5⟩
    exact ⟨z, Nat.zero_le _, g2, fun q => nI_pos (n := z) (by omega) (by rw [q]; decide), g4, g5⟩
theorem heard_hd {pT : Nat → Prop} (hM : M ≤ 6) (hH : RH M C N) (hb : b = bv pT M) (hy : y < M) : C (1436 + y) &&& b = 0 ↔ ¬ hO N b M y (-1) 0 := by
  rw [hH y hy, hO_hd hM]
  have hsn : ∀ k, k < M → (sn b k ↔ pT k) := fun k hk => by rw [hb, bv_sn hM (by omega)]; exact ⟨fun g => g.2, fun g => ⟨hk, g⟩⟩
  have : (bv (fun z => 0 < N (15 + 6 * y + z)) M &&& b = 0) ↔ ∀ z, z < M → ¬ (0 < N (15 + 6 * y + z) ∧ pT z) := by
    have := bv_z (p := fun z => 0 < N (15 + 6 * y + z)) (q := pT) hM
    rw [← hb, nI_0] at this
    exact this
  rw [this]
  exact ⟨fun g ⟨x, g1, g2, g3⟩ => g x g1 ⟨g2, (hsn x g1).mp g3⟩, fun g z hz hp => g ⟨z, hz, hp.1, (hsn z hz).mpr hp.2⟩⟩
theorem GH_no0 (k : Nat) : hiM (GH hp 0) F k = F k := by
  show GH hp 0 k (F k) = F k
  unfold GH
  rw [if_neg (fun ⟨z, j, h, _⟩ => by omega)]
theorem stG' (k : Nat) : hiM (GH hp 0) (hiM (GT q 0) F) k = F k := by
  rw [GH_no0]
  exact GT_no (fun z hz => by omega)
noncomputable def hpH (N : Nat → Int32) (b : Int32) (M : Nat) : Nat → Nat → Prop := hpD (fun z => (N (1179 + 16 * z) = 0 ∧ N (135 + z) = -1) ∧ ¬ wt N z = 0) (fun z => sn (N 1331) z) (fun z => hO N b M z (-1) 0)
noncomputable def nHeld (N : Nat → Int32) (b : Int32) (M : Nat) : Nat → Int32 := hiM (GH (hpH N b M) M) (nSent N b M)
theorem GT_cnt (hn : n ≤ 6) : hiM (GT q n) (nCount c F) = nCount c (hiM (GT q n) F) := by
  have e : ∀ k, 1329 ≤ k → ∀ v, GT q n k v = v := fun k hk v => GT_no (fun z hz => by omega)
  have e2 : ∀ k, 1329 ≤ k → hiM (GT q n) F k = F k := fun k hk => e k hk _
  unfold nCount
  rw [e2 1334 (by omega), e2 1333 (by omega), e2 1335 (by omega)]
  split
  · rw [hiM_u (e 1334 (by omega) _)]
  · split
    · rw [hiM_u (e 1333 (by omega) _)]
    · rw [hiM_u (e 1335 (by omega) _)]
theorem nHeld_n (hM : M ≤ 6) (hk : k < 1275 ∨ (1336 ≤ k ∧ k < 1402) ∨ 1420 ≤ k ∨ k = 1331) : nHeld N b M k = N k := by
  show GH _ M k (nSent N b M k) = N k
  rw [GH_no (by omega), nSent_n hM (by omega)]
theorem nHeld_t {z t : Nat} (hM : M ≤ 6) (hz : z < M) (ht : t < 9) (h5 : t ≠ 5) : nHeld N b M (1275 + 9 * z + t) = N (1275 + 9 * z + t) := by
  show GH _ M (1275 + 9 * z + t) (nSent N b M (1275 + 9 * z + t)) = _
  rw [GH_no (by omega)]
  unfold nSent
  rw [upd_n (by omega), nCount_n (by omega), upd_n (by omega), upd_n (by omega)]
  exact GT_no (fun z' hz' => by omega)
theorem j_stepB {a : Nat} (hI : IC M N) (hD : DB M N) (hR : Rl M C N (fun z => N (135 + z)) (fun z => N (141 + z))) (hb : b = bv (pS N) M) :
    ∃ C', (∀ σ, b_X0_passSlot_15 a (nI M) (wC a σ C) = b_X0_passSlot_84 a (nI 0) (wC a σ C')) ∧ (∀ σ O W b0, (∀ z, z < M → O z = -1) → bdV (e_X10_stepSend (wM σ N O W b0)) (fun σ2 => e_X10_stepHeld σ2) = some (some none, wM σ (nHeld N b M) O W b)) ∧ IC M (nHeld N b M) ∧ DB M (nHeld N b M) ∧ Rl M C' (nHeld N b M) (fun z => N (135 + z)) (fun z => N (141 + z)) ∧ nHeld N b M 1329 = b ∧ nHeld N b M 1332 = nI 1 := by
  have hM := hI.1.2.1
  have h00 : C 0 = nI M := by rw [hR.pl (pd_lo (by omega))]; exact hI.1.1
  have hq : ∀ z, z < M → (pS N z ↔ ((¬ C (1179 + 16 * z) = 0 ∧ (C (1179 + 16 * z + 4) = 0 ∨ C (1179 + 16 * z + 4) = nI 2)) ∨ ¬ C (141 + z) = 0)) := by
    intro z hz
    have hd : (¬ C (141 + z) = 0) ↔ ¬ N (135 + z) = -1 := by
      have h1 : C (141 + z) = N (141 + z) := (hR.2.2.2.2 z hz).2
      rw [h1, db_free hD hM hz]
    unfold pS
    rw [hd, hR.on hz]
    rcases hI.2.2.2.1 z hz with e | ⟨y, r, h, ph, c, q, w, p, e⟩
    · rw [e]
      exact ⟨fun g => g.elim (fun g => absurd g.1 n01) Or.inr, fun g => g.elim (fun g => absurd n00 g.1) Or.inr⟩
    · have e4 := ((hR.ex hz).2 e.1.1).2.2.2.1
      rw [e.1.1, e4]
      exact ⟨fun g => g.elim (fun g => Or.inl ⟨n10, g.2⟩) Or.inr, fun g => g.elim (fun g => Or.inl ⟨rfl, g.2⟩) Or.inr⟩
  have hsn : ∀ k, k < M → (sn b k ↔ pS N k) := fun k hk => by rw [hb, bv_sn hM (by omega)]; exact ⟨fun g => g.2, fun g => ⟨hk, g⟩⟩
  have hgT : ∀ k v, (k < 1275 ∨ 1432 ≤ k) → GT (pS N) M k v = v := fun k v hk => GT_no (fun z hz => by omega)
  have hgT2 : ∀ k v, 1329 ≤ k → GT (pS N) M k v = v := fun k v hk => GT_no (fun z hz => by omega)
  have hgH : ∀ k v, (k < 1275 ∨ 1432 ≤ k) → GH (hpH N b M) M k v = v := fun k v hk => GH_no (by omega)
  have hcc6 : zcnt (pS N) M ≤ 6 := by have := zcnt_le (pS N) M; omega
  have hR1 : Rl M (upd (nCount (zcnt (pS N) M) (upd (hiM (GT (pS N) M) C) 1329 b)) 1330 (bv (fun y => ∃ x, x < M ∧ clr N b M y x) M)) (nSent N b M) (fun z => N (135 + z)) (fun z => N (141 + z)) := by
    unfold nSent
    refine Rl.u (Rl.cnt ?_ hM) hM (Or.inr (Or.inr (Or.inr (by omega))))
    exact ((hR.him hM hgT).u hM (Or.inr (Or.inr (Or.inr (by omega))))).uN hM (Or.inl rfl)
  have hR2 := hR1.him (g := GH (hpH N b M) M) hM hgH
  have eN : ∀ k, (k < 1275 ∨ (1336 ≤ k ∧ k < 1402) ∨ 1420 ≤ k ∨ k = 1331) → nHeld N b M k = N k := fun k hk => nHeld_n hM hk
  refine ⟨_, fun σ => ?_, fun σ O W b0 hOz => ?_, hI.mono (fun k hk => eN k (by omega)) (fun k _ _ => eN k (by omega)) (fun k _ _ => eN k (by omega)) (fun z t hz ht => nHeld_t hM hz (by omega) (by omega)) (fun k _ _ => eN k (by omega)), hD.mono hM (fun k _ _ => eN k (by omega)) (fun k _ _ => eN k (by omega)), hR2, ?_, ?_⟩
  · rw [q_X0_passSlot_15, rC_many, h00, if_neg (nI_nlt (by omega) (by omega)), q_X0_senders]
    have h1 := c_senders_from (a := a) (σ := σ) (q := pS N) hM h00 hq M 0 (by omega)
    rw [bv_0, ← hb] at h1
    rw [h1]
    dsimp only [bdI]
    rw [sC_sending, q_X0_clearOnes]
    have hH1 : RH M (upd C 1329 b) N := hR.2.1.mono hM (fun z hz => upd_n (by omega)) (fun k _ _ => rfl)
    have h2 := c_clear_from (a := a) (σ := σ) (C := upd C 1329 b) (b := b) (pT := pS N) hI.1 hH1 (by rw [upd_n (by omega)]; exact h00) hb (upd_e rfl) M 0 (by omega)
    rw [bv_0] at h2
    rw [h2]
    dsimp only
    rw [sC_clear, c_note0 (c := zcnt (pS N) M) (by rw [upd_n (by omega), upd_e rfl, hb, bc_bv hM]) hcc6]
    have eF : ∀ k, (k < 1329 ∨ 1336 ≤ k ∨ k = 1331) → nCount (zcnt (pS N) M) (upd (upd C 1329 b) 1330 (bv (fun y => ∃ x, x < M ∧ clr N b M y x) M)) k = C k := fun k hk => by rw [nCount_n (by omega), upd_n (by omega), upd_n (by omega)]
    have h3 := c_note_from (a := a) (σ := σ) (b := b) (F := nCount (zcnt (pS N) M) (upd (upd C 1329 b) 1330 (bv (fun y => ∃ x, x < M ∧ clr N b M y x) M))) (q := pS N) (fr := fun z => (N (1179 + 16 * z) = 0 ∧ N (135 + z) = -1) ∧ ¬ wt N z = 0) (rn := fun z => sn (N 1331) z) (hd := fun z => hO N b M z (-1) 0) hM (by rw [eF _ (by omega)]; exact h00) (by rw [nCount_n (by omega), upd_n (by omega), upd_e rfl]) (fun z hz => (hsn z hz).symm) (fun z hz => by
        have ew : wt (nCount (zcnt (pS N) M) (upd (upd C 1329 b) 1330 (bv (fun y => ∃ x, x < M ∧ clr N b M y x) M))) z = wt N z := wt_c fun r hr => by rw [eF _ (by omega), hR.pl (pd_sz hM hz hr)]
        obtain ⟨w, w1, w2⟩ := wt_nI hI.2.2.1 hz
        have h1 : C (141 + z) = N (141 + z) := (hR.2.2.2.2 z hz).2
        rw [ew, eF _ (by omega), eF _ (by omega), hR.on hz, h1, db_free hD hM hz, w2, nI_0lt (by omega), nI_eq0 (by omega)]
        exact ⟨fun g => ⟨g.1, by have := g.2; omega⟩, fun g => ⟨g.1, by have := g.2; omega⟩⟩) (fun z hz => by rw [eF _ (by omega), hR.pl (pd_hi (by omega))]) (fun z hz => by
        rw [eF _ (by omega), heard_hd hM hR.2.1 hb hz]
        exact ⟨fun g q => q g, Classical.not_not.mp⟩) M 0 (by omega)
    have hz0 : ∀ F : Nat → Int32, hiM (GH (hpD (fun z => (N (1179 + 16 * z) = 0 ∧ N (135 + z) = -1) ∧ ¬ wt N z = 0) (fun z => sn (N 1331) z) (fun z => hO N b M z (-1) 0)) 0) (hiM (GT (pS N) 0) F) = F := fun F => by
      funext k
      exact stG' k
    rw [hz0] at h3
    rw [h3]
    dsimp only [bdV]
    rw [GT_cnt hM, hiM_u (hgT2 1330 _ (by omega)), hiM_u (hgT2 1329 _ (by omega)), nCount_u (by omega)]
    rfl
  · rw [m_stepSend hM hI.1.1, ← hb]
    dsimp only [bdV]
    have h4 := m_held_from (σ := σ) (O := O) (W := W) (b := b) (F := nSent N b M) (fr := fun z => (N (1179 + 16 * z) = 0 ∧ N (135 + z) = -1) ∧ ¬ wt N z = 0) (rn := fun z => sn (N 1331) z) (hd := fun z => hO N b M z (-1) 0) hM (by rw [nSent_n hM (by omega)]; exact hI.1.1) hOz (fun z hz => by
        have ew : wt (nSent N b M) z = wt N z := wt_c fun r hr => nSent_n hM (by omega)
        rw [ew, nSent_n hM (by omega), nSent_n hM (by omega)]) (fun z hz => by rw [nSent_n hM (by omega)]) (fun z hz => by
        rw [hO_hd hM, hO_hd hM]
        exact ⟨fun ⟨x, g1, g2, g3⟩ => ⟨x, g1, by rw [nSent_n hM (by omega)]; exact g2, g3⟩, fun ⟨x, g1, g2, g3⟩ => ⟨x, g1, by rw [nSent_n hM (by omega)] at g2; exact g2, g3⟩⟩) M 0 (by omega)
    have hz0 : hiM (GH (hpD (fun z => (N (1179 + 16 * z) = 0 ∧ N (135 + z) = -1) ∧ ¬ wt N z = 0) (fun z => sn (N 1331) z) (fun z => hO N b M z (-1) 0)) 0) (nSent N b M) = nSent N b M := by
      funext k
      exact GH_no0 k
    rw [hz0] at h4
    rw [q_X10_stepHeld, h4]
    rfl
  · show GH _ M 1329 (nSent N b M 1329) = b
    rw [GH_no (by omega)]
    unfold nSent
    rw [upd_n (by omega), nCount_n (by omega), upd_n (by omega), upd_e rfl]
  · show GH _ M 1332 (nSent N b M 1332) = nI 1
    rw [GH_no (by omega)]
    unfold nSent
    rw [upd_n (by omega), nCount_n (by omega), upd_e rfl]
end ST

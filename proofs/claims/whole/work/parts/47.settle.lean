/-! Both rows: (b) together; step (g) of a station -/
section ST
variable {M K s r i n m k d h x y T c : Nat} {F G N C P Q O W C' N' : Nat → Int32} {v u t : Int32} {b : Int32} {q fr rn hd : Nat → Prop} {hp : Nat → Nat → Prop}
theorem IC.mono (h : IC M N) (e1 : ∀ k, k < 123 → N' k = N k) (e2 : ∀ k, 147 ≤ k → k < 1155 → N' k = N k) (e3 : ∀ k, 1179 ≤ k → k < 1275 → N' k = N k) (e4 : ∀ s t, s < M → (t = 0 ∨ t = 2 ∨ t = 4 ∨ t = 6) → N' (1275 + 9 * s + t) = N (1275 + 9 * s + t)) (e5 : ∀ k, 1336 ≤ k → k < 1341 → N' k = N k) : IC M N' := by
  obtain ⟨i1, i2, i3, i4, i5⟩ := h
  have hM := i1.2.1
  exact ⟨i1.mono fun k hk => e1 k (by omega), i2.mono hM fun k _ _ => e1 k (by omega), i3.mono hM (fun k a c => e2 k (by omega) (by omega)) (fun k _ _ => e1 k (by omega)), fun z hz => (i4 z hz).mono hz hM (fun k _ _ => e1 k (by omega)) (fun k a c _ _ => e2 k (by omega) (by omega)) (fun k a c => e2 k (by omega) (by omega)) (fun k hk => e3 _ (by omega) (by omega)), i5.mono hM (e5 _ (by omega) (by omega)) (fun k a c => e5 k (by omega) (by omega)) e4⟩
theorem hO_hd (hM : M ≤ 6) : hO N b M y (-1) 0 ↔ ∃ x, x < M ∧ 0 < N (15 + 6 * y + x) ∧ sn b x := by
  constructor
  · rintro ⟨z, -, g2, -, g4, g5⟩
    exact ⟨z, g2, g4, g5⟩
  · rintro ⟨z, g2, g4, g5⟩
    exact ⟨z, Nat.zero_le _, g2, fun q => nI_pos (n := z) (by omega) (by rw [q]; decide), g4, g5⟩
theorem heard_hd {pT : Nat → Prop} (hM : M ≤ 6) (hH : RH M C N) (hb : b = bv pT M) (hy : y < M) : C (1436 + y) &&& b = 0 ↔ ¬ hO N b M y (-1) 0 := by
  rw [hH y hy, hO_hd hM]
  have hsn : ∀ k, k < M → (sn b k ↔ pT k) := fun k hk => by rw [hb, bv_sn hM (by omega)]; exact ⟨fun g => g.2, fun g => ⟨hk, g⟩⟩
  have : (bv (fun z => 0 < N (15 + 6 * y + z)) M &&& b = 0) ↔ ∀ z, z < M → ¬ (0 < N (15 + 6 * y + z) ∧ pT z) := by
    have := bv_z (p := fun z => 0 < N (15 + 6 * y + z)) (q := pT) hM
    rw [← hb, nI_0] at this
    exact this
  rw [this]
  exact ⟨fun g ⟨x, g1, g2, g3⟩ => g x g1 ⟨g2, (hsn x g1).mp g3⟩, fun g z hz hp => g ⟨z, hz, hp.1, (hsn z hz).mpr hp.2⟩⟩
theorem j_stepB {a : Nat} (hI : IC M N) (hD : DB M N) (hR : Rl M C N (fun z => N (135 + z)) (fun z => N (141 + z))) (hb : b = bv (pS N) M) :
    ∃ C' N', (∀ σ, b_X0_passSlot_15 a (nI M) (wC a σ C) = b_X0_passSlot_84 a (nI 0) (wC a σ C')) ∧ (∀ σ O W b0, (∀ z, z < M → O z = -1) → bdV (e_X10_stepSend (wM σ N O W b0)) (fun σ2 => e_X10_stepHeld σ2) = some (some none, wM σ N' O W b)) ∧ IC M N' ∧ DB M N' ∧ Rl M C' N' (fun z => N' (135 + z)) (fun z => N' (141 + z)) ∧ (∀ k, (k < 1275 ∨ (1336 ≤ k ∧ k < 1402) ∨ 1420 ≤ k ∨ k = 1331) → N' k = N k) ∧ (∀ z, z < M → N' (1275 + 9 * z + 1) = N (1275 + 9 * z + 1)) ∧ N' 1329 = b ∧ N' 1332 = nI 1 := by
  have hM := hI.1.2.1
  have h00 : C 0 = nI M := by rw [hR.pl (pd_lo (by omega))]; exact hI.1.1
  have hq : ∀ z, z < M → (pS N z ↔ ((¬ C (1179 + 16 * z) = 0 ∧ (C (1179 + 16 * z + 4) = 0 ∨ C (1179 + 16 * z + 4) = nI 2)) ∨ ¬ C (141 + z) = 0)) := by
    intro z hz
    have hd : (¬ C (141 + z) = 0) ↔ ¬ N (135 + z) = -1 := by
      have h1 : C (141 + z) = N (141 + z) := (hR.2.2.2.2 z hz).2
      rw [h1, db_free hD hM hz]
    unfold pS
    rw [hd, hR.on hz]
    rcases hI.2.2.2.1 z hz with e | ⟨y, r, h, ph, c, q, w, p, e⟩
    · rw [e]
      exact ⟨fun g => g.elim (fun g => absurd g.1 n01) Or.inr, fun g => g.elim (fun g => absurd n00 g.1) Or.inr⟩
    · have e4 := ((hR.ex hz).2 e.1.1).2.2.2.1
      rw [e.1.1, e4]
      exact ⟨fun g => g.elim (fun g => Or.inl ⟨n10, g.2⟩) Or.inr, fun g => g.elim (fun g => Or.inl ⟨rfl, g.2⟩) Or.inr⟩
  have hsn : ∀ k, k < M → (sn b k ↔ pS N k) := fun k hk => by rw [hb, bv_sn hM (by omega)]; exact ⟨fun g => g.2, fun g => ⟨hk, g⟩⟩
  have hgT : ∀ k v, (k < 1275 ∨ 1432 ≤ k) → GT (pS N) M k v = v := fun k v hk => GT_no (fun z hz => by omega)
  have hgH : ∀ fr rn hd k v, (k < 1275 ∨ 1432 ≤ k) → GH (hpD fr rn hd) M k v = v := fun fr rn hd k v hk => GH_no (by omega)
  -- the relation behind sending
  have hR1 : Rl M (upd (nCount (zcnt (pS N) M) (upd (hiM (GT (pS N) M) C) 1329 b)) 1330 (bv (fun y => ∃ x, x < M ∧ clr N b M y x) M)) (nSent N b M) (fun z => N (135 + z)) (fun z => N (141 + z)) := by
    unfold nSent
    refine Rl.u (Rl.cnt ?_ hM) hM (Or.inr (Or.inr (Or.inr (by omega))))
    exact ((hR.him hM hgT).u hM (Or.inr (Or.inr (Or.inr (by omega))))).uN hM (Or.inl rfl)
  generalize hcc : zcnt (pS N) M = cc at hR1
  have hcc6 : cc ≤ 6 := by have := zcnt_le (pS N) M; omega
  -- what is held
  have hR2 := hR1.him (g := GH (hpD (fun z => (N (1179 + 16 * z) = 0 ∧ N (135 + z) = -1) ∧ ¬ wt N z = 0) (fun z => sn (N 1331) z) (fun z => hO N b M z (-1) 0)) M) hM (hgH _ _ _)
  have eN : ∀ k, (k < 1275 ∨ (1336 ≤ k ∧ k < 1402) ∨ 1420 ≤ k ∨ k = 1331) → hiM (GH (hpD (fun z => (N (1179 + 16 * z) = 0 ∧ N (135 + z) = -1) ∧ ¬ wt N z = 0) (fun z => sn (N 1331) z) (fun z => hO N b M z (-1) 0)) M) (nSent N b M) k = N k := fun k hk => by
    show GH _ M k (nSent N b M k) = N k
    rw [GH_no (by omega), nSent_n hM (by omega)]
  have eT : ∀ z t, z < M → t < 9 → t ≠ 5 → hiM (GH (hpD (fun z => (N (1179 + 16 * z) = 0 ∧ N (135 + z) = -1) ∧ ¬ wt N z = 0) (fun z => sn (N 1331) z) (fun z => hO N b M z (-1) 0)) M) (nSent N b M) (1275 + 9 * z + t) = N (1275 + 9 * z + t) := fun z t hz ht ht5 => by
    show GH _ M (1275 + 9 * z + t) (nSent N b M (1275 + 9 * z + t)) = _
    rw [GH_no (by omega)]
    unfold nSent
    rw [upd_n (by omega), nCount_n (by omega), upd_n (by omega), upd_n (by omega)]
    exact GT_no (fun z' hz' => by omega)
  refine ⟨_, _, fun σ => ?_, fun σ O W b0 hOz => ?_, hI.mono (fun k hk => eN k (by omega)) (fun k _ _ => eN k (by omega)) (fun k _ _ => eN k (by omega)) (fun z t hz ht => eT z t hz (by omega) (by omega)) (fun k _ _ => eN k (by omega)), hD.mono hM (fun k _ _ => eN k (by omega)) (fun k _ _ => eN k (by omega)), ?_, eN, fun z hz => eT z 1 hz (by omega) (by omega), ?_, ?_⟩
  · exact upd (nCount cc (upd (hiM (GH (hpD (fun z => (N (1179 + 16 * z) = 0 ∧ N (135 + z) = -1) ∧ ¬ wt N z = 0) (fun z => sn (N 1331) z) (fun z => hO N b M z (-1) 0)) M) (hiM (GT (pS N) M) C)) 1329 b)) 1330 (bv (fun y => ∃ x, x < M ∧ clr N b M y x) M)
  · rw [q_X0_passSlot_15, rC_many, h00, if_neg (nI_nlt (by omega) (by omega)), q_X0_senders]
    have h1 := c_senders_from (a := a) (σ := σ) (q := pS N) hM h00 hq M 0 (by omega)
    rw [bv_0] at h1
    rw [h1]
    dsimp only [bdI]
    rw [sC_sending, q_X0_clearOnes]
    have hH1 : RH M (upd C 1329 (bv (pS N) M)) N := hR.2.1.mono hM (fun z hz => upd_n (by omega)) (fun k _ _ => rfl)
    have h2 := c_clear_from (a := a) (σ := σ) (C := upd C 1329 (bv (pS N) M)) (b := bv (pS N) M) (pT := pS N) hI.1 hH1 (by rw [upd_n (by omega)]; exact h00) rfl (upd_e rfl) M 0 (by omega)
    rw [bv_0] at h2
    rw [h2]
    dsimp only
    rw [sC_clear, c_note0 (c := cc) (by rw [upd_n (by omega), upd_e rfl, bc_bv hM, hcc]) hcc6]
    have h3 := c_note_from (a := a) (σ := σ) (b := b) (F := nCount cc (upd (upd C 1329 (bv (pS N) M)) 1330 (bv (fun y => ∃ x, x < M ∧ clr N (bv (pS N) M) M y x) M))) (q := pS N) (fr := fun z => (N (1179 + 16 * z) = 0 ∧ N (135 + z) = -1) ∧ ¬ wt N z = 0) (rn := fun z => sn (N 1331) z) (hd := fun z => hO N b M z (-1) 0) hM (by rw [nCount_n (by omega), upd_n (by omega), upd_n (by omega)]; exact h00) (by rw [nCount_n (by omega), upd_n (by omega), upd_e rfl, hb]) (fun z hz => (hsn z hz).symm) (fun z hz => ?_) (fun z hz => ?_) (fun z hz => ?_) M 0 (by omega)
    · sorry
    · sorry
    · sorry
    · sorry
  · sorry
  · sorry
  · sorry
  · sorry
end ST

/-! Both rows in a sender's step: who is clear, spans, asking -/
theorem n01 : ¬ nI 0 = nI 1 := by decide
theorem ckn {n N : Nat} (h : n < N) (hn : n < 2 ^ 31) : ¬ (nI n < 0 ∨ N ≤ n) := fun q => q.elim (nI_pos hn) (fun q => by omega)
theorem nlt00 : ¬ (0 : Int32) < nI 0 := by decide
section RX
variable {M k s : Nat} {C N P Q C' N' : Nat → Int32} {v p q : Int32}
theorem Rl.D2 (h : Rl M C N P Q) (hM : M ≤ 6) (hs : s < M) : Rl M (upd (upd C (135 + s) p) (141 + s) q) N (upd P s p) (upd Q s q) := by
  obtain ⟨h1, h2, h3, h4, h5⟩ := h
  refine ⟨(h1.uC (fun q => by have := pd_where q; omega)).uC (fun q => by have := pd_where q; omega), h2.mono hM (fun z hz => ?_) (fun j a b => rfl), h3.mono hM (fun j a b => ?_) (fun j a b => rfl), h4.mono hM (fun j a b => ?_) (fun j a b => rfl), fun z hz => ?_⟩
  · rw [upd_n (by omega), upd_n (by omega)]
  · rw [upd_n (by omega), upd_n (by omega)]
  · rw [upd_n (by omega), upd_n (by omega)]
  · by_cases e : z = s
    · subst e
      simp (disch := omega) only [upd_n, upd_e]
      exact ⟨trivial, trivial⟩
    · simp (disch := omega) only [upd_n]
      exact h5 z hz
/-- the exchange of one station changes in both rows -/
theorem Rl.X (h : Rl M C N P Q) (hM : M ≤ 6) (hs : s < M) (hx : ExR C' N' s) (h1 : ∀ k, (k < 1179 + 16 * s ∨ 1179 + 16 * s + 16 ≤ k) → C' k = C k) (h2 : ∀ k, (k < 1179 + 16 * s ∨ 1179 + 16 * s + 16 ≤ k) → N' k = N k) : Rl M C' N' P Q := by
  obtain ⟨g1, g2, g3, g4, g5⟩ := h
  refine ⟨g1.mono fun k hk => Or.inr ?_, g2.mono hM (fun z hz => h1 _ (by omega)) (fun j a b => h2 _ (by omega)), g3.mono hM (fun j a b => h1 _ (by omega)) (fun j a b => h2 _ (by omega)), g4.one hM hx (fun j a b c => h1 _ c) (fun j a b c => h2 _ c), g5.mono fun z hz => ⟨h1 _ (by omega), h1 _ (by omega)⟩⟩
  have := pd_where hk
  exact ⟨h1 _ (by omega), h2 _ (by omega)⟩
theorem Rl.ex (h : Rl M C N P Q) (hs : s < M) : ExR C N s := h.2.2.2.1 s hs
theorem Rl.on (h : Rl M C N P Q) (hs : s < M) : C (1179 + 16 * s) = N (1179 + 16 * s) := (h.ex hs).1
/-- a plain number of an exchange -/
theorem Rl.xs (h : Rl M C N P Q) (hM : M ≤ 6) (hs : s < M) (hk : k = 6 ∨ k = 7 ∨ k = 10 ∨ k = 15) : Rl M (upd C (1179 + 16 * s + k) v) (upd N (1179 + 16 * s + k) v) P Q := by
  refine h.X hM hs ?_ (fun j hj => upd_n (by omega)) (fun j hj => upd_n (by omega))
  have e := h.ex hs
  refine ⟨by rw [upd_n (by omega), upd_n (by omega)]; exact e.1, fun h0 => ?_⟩
  rw [upd_n (by omega)] at h0
  obtain ⟨e1, e2, e3, e4, e5, e6, e7, e8, e9, e10, e11, e12⟩ := e.2 h0
  have w : ∀ j, j < 16 → C (1179 + 16 * s + j) = N (1179 + 16 * s + j) → upd C (1179 + 16 * s + k) v (1179 + 16 * s + j) = upd N (1179 + 16 * s + k) v (1179 + 16 * s + j) := by
    intro j hj e
    by_cases hjk : j = k
    · subst hjk; rw [upd_e rfl, upd_e rfl]
    · rw [upd_n (by omega), upd_n (by omega)]; exact e
  refine ⟨w 1 (by omega) e1, w 2 (by omega) e2, w 3 (by omega) e3, w 4 (by omega) e4, w 6 (by omega) e5, w 7 (by omega) e6, w 10 (by omega) e7, w 15 (by omega) e8, ?_, ?_, ?_, ?_⟩
  · rw [upd_n (by omega), upd_n (by omega), upd_n (by omega)]; exact e9
  · rw [upd_n (by omega), upd_n (by omega), upd_n (by omega)]; exact e10
  · rw [upd_n (by omega), upd_n (by omega)]; exact e11
  · intro hh hle
    rw [upd_n (by omega), upd_n (by omega)]
    intro hN
    rw [e12 hh hle hN]
    exact (ps_c fun j hj => upd_n (by omega)).symm
/-- what an exchange's next slot is for -/
theorem Rl.xp (h : Rl M C N P Q) (hM : M ≤ 6) (hs : s < M) (h2 : v = nI 2 → C (1179 + 16 * s + 5) = N (1179 + 16 * s + 5)) (h3 : v ≠ nI 3 → C (1179 + 16 * s + 8) = N (1179 + 16 * s + 8)) : Rl M (upd C (1179 + 16 * s + 4) v) (upd N (1179 + 16 * s + 4) v) P Q := by
  refine h.X hM hs ?_ (fun j hj => upd_n (by omega)) (fun j hj => upd_n (by omega))
  have e := h.ex hs
  refine ⟨by rw [upd_n (by omega), upd_n (by omega)]; exact e.1, fun h0 => ?_⟩
  rw [upd_n (by omega)] at h0
  obtain ⟨e1, e2, e3, e4, e5, e6, e7, e8, e9, e10, e11, e12⟩ := e.2 h0
  simp (disch := omega) only [upd_e, upd_n]
  refine ⟨e1, e2, e3, trivial, e5, e6, e7, e8, h2, h3, e11, fun hh hle hN => ?_⟩
  rw [e12 hh hle hN]
  exact (ps_c fun j hj => upd_n (by omega)).symm
/-- an exchange is over -/
theorem Rl.x0 (h : Rl M C N P Q) (hM : M ≤ 6) (hs : s < M) : Rl M (upd C (1179 + 16 * s) (nI 0)) (upd N (1179 + 16 * s) (nI 0)) P Q := by
  refine h.X hM hs ⟨by rw [upd_e rfl, upd_e rfl], fun h0 => ?_⟩ (fun j hj => upd_n (by omega)) (fun j hj => upd_n (by omega))
  rw [upd_e rfl] at h0
  exact absurd h0 n01
/-- the class's places left, where they don't matter -/
theorem Rl.x5 (h : Rl M C N P Q) (hM : M ≤ 6) (hs : s < M) (h2 : N (1179 + 16 * s + 4) = nI 2 → v = N (1179 + 16 * s + 5)) : Rl M (upd C (1179 + 16 * s + 5) v) N P Q := by
  refine h.X hM hs ?_ (fun j hj => upd_n (by omega)) (fun j hj => rfl)
  have e := h.ex hs
  refine ⟨by rw [upd_n (by omega)]; exact e.1, fun h0 => ?_⟩
  obtain ⟨e1, e2, e3, e4, e5, e6, e7, e8, e9, e10, e11, e12⟩ := e.2 h0
  simp (disch := omega) only [upd_e, upd_n]
  exact ⟨e1, e2, e3, e4, e5, e6, e7, e8, h2, e10, e11, e12⟩
end RX
section CL
variable {M s : Nat} {C N P Q O W : Nat → Int32} {b : Int32} {pS : Nat → Prop}
theorem clr_iff {x y : Nat} (hI : IS M N) (hR : RH M C N) (hb : b = bv pS M) (hy : y < M) (hx : x < M) : (¬ sn b y ∧ C (1436 + y) &&& b = nI 1 <<< (nI x &&& 31)) ↔ clr N b M y x := by
  obtain ⟨-, hM, -, -, hd, -⟩ := hI
  have hsn : ∀ k, k < M → (sn b k ↔ pS k) := fun k hk => by rw [hb, bv_sn hM (by omega)]; exact ⟨fun h => h.2, fun h => ⟨hk, h⟩⟩
  rw [hR y hy]
  constructor
  · rintro ⟨h1, h2⟩
    rw [hb] at h2
    obtain ⟨a1, a2, a3⟩ := (bv_one hM hx).mp h2
    refine ⟨fun e => ?_, a1, (hsn x hx).mpr a2, h1, ?_⟩
    · subst e
      rw [hd x (by omega)] at a1
      exact nlt00 a1
    · rintro ⟨z, -, b2, b3, b4, b5⟩
      exact a3 z b2 (fun e => b3 (by rw [e])) ⟨b4, (hsn z b2).mp b5⟩
  · rintro ⟨h1, h2, h3, h4, h5⟩
    refine ⟨h4, ?_⟩
    rw [hb]
    refine (bv_one hM hx).mpr ⟨h2, (hsn x hx).mp h3, fun z hz hzx hp => h5 ⟨z, Nat.zero_le _, hz, fun e => hzx ((nI_eq (by omega) (by omega)).mp e), hp.1, (hsn z hz).mpr hp.2⟩⟩
theorem clr_N {N' : Nat → Int32} {x y : Nat} (hM : M ≤ 6) (hy : y < 6) (hx : x < 6) (h : ∀ k, 15 ≤ k → k < 51 → N' k = N k) : clr N' b M y x ↔ clr N b M y x := by
  unfold clr hO
  have e : ∀ z, z < 6 → N' (15 + 6 * y + z) = N (15 + 6 * y + z) := fun z hz => h _ (by omega) (by omega)
  rw [e x hx]
  constructor
  · rintro ⟨h1, h2, h3, h4, h5⟩
    exact ⟨h1, h2, h3, h4, fun ⟨z, a1, a2, a3, a4, a5⟩ => h5 ⟨z, a1, a2, a3, by rw [e z (by omega)]; exact a4, a5⟩⟩
  · rintro ⟨h1, h2, h3, h4, h5⟩
    exact ⟨h1, h2, h3, h4, fun ⟨z, a1, a2, a3, a4, a5⟩ => h5 ⟨z, a1, a2, a3, by rw [← e z (by omega)]; exact a4, a5⟩⟩
theorem c_isClr {a x y : Nat} {σ : mS} (hI : IS M N) (hR : RH M C N) (hb : b = bv pS M) (hC : C 1329 = b) (hy : y < M) (hx : x < M) : e_X0_isClear a (nI y) (nI x) (wC a σ C) = some (some (some (.inl (bI (clr N b M y x)))), wC a σ C) := by
  have hM := hI.2.1
  rw [c_isClear (by omega), hC, bI_c (clr_iff hI hR hb hy hx)]
/-- where spans are written -/
def spc (k : Nat) : Prop := (129 ≤ k ∧ k < 135) ∨ (1420 ≤ k ∧ k < 1432)
/-- spans are told to all that are clear (cl), one left out -/
noncomputable def spV1 (cl : Nat → Prop) (but e : Int32) (sd : Nat) (stp : Int32) (z : Nat) (F : Nat → Int32) : Nat → Int32 :=
  @ite _ (nI z ≠ but ∧ cl z ∧ F (129 + z) < e) (Classical.propDecidable _) (upd (upd (upd F (129 + z) e) (1420 + z) (nI sd)) (1426 + z) stp) F
noncomputable def spV (cl : Nat → Prop) (but e : Int32) (sd : Nat) (stp : Int32) : Nat → Nat → (Nat → Int32) → (Nat → Int32)
  | 0, _, F => F
  | d + 1, i, F => spV cl but e sd stp d (i + 1) (spV1 cl but e sd stp i F)
theorem spV1_n {cl : Nat → Prop} {sd z k : Nat} {but e stp : Int32} (hz : z < 6) (hk : ¬ spc k) : spV1 cl but e sd stp z N k = N k := by
  unfold spc at hk
  unfold spV1
  split
  · rw [upd_n (by omega), upd_n (by omega), upd_n (by omega)]
  · rfl
theorem spV_n {cl : Nat → Prop} {sd k : Nat} {but e stp : Int32} (hk : ¬ spc k) : ∀ (d i : Nat) (N : Nat → Int32), i + d ≤ 6 → spV cl but e sd stp d i N k = N k
  | 0, _, _, _ => rfl
  | d + 1, i, N, h => by
    unfold spV
    rw [spV_n hk d (i + 1) _ (by omega), spV1_n (by omega) hk]
theorem spV1_u {cl : Nat → Prop} {sd z k : Nat} {but e stp v : Int32} (hz : z < 6) (hk : ¬ spc k) : spV1 cl but e sd stp z (upd N k v) = upd (spV1 cl but e sd stp z N) k v := by
  unfold spc at hk
  unfold spV1
  rw [upd_n (by omega)]
  split
  · rw [upd_c (k := k) (j := 129 + z) (by omega), upd_c (k := k) (j := 1420 + z) (by omega), upd_c (k := k) (j := 1426 + z) (by omega)]
  · rfl
theorem spV_u {cl : Nat → Prop} {sd k : Nat} {but e stp v : Int32} (hk : ¬ spc k) : ∀ (d i : Nat) (N : Nat → Int32), i + d ≤ 6 → spV cl but e sd stp d i (upd N k v) = upd (spV cl but e sd stp d i N) k v
  | 0, _, _, _ => rfl
  | d + 1, i, N, h => by
    unfold spV
    rw [spV1_u (by omega) hk, spV_u hk d (i + 1) _ (by omega)]
theorem nSp_eq {x sd : Nat} {but e stp : Int32} {N0 : Nat → Int32} (hM : M ≤ 6) (hx : x < 6) (hsd : sd < 6) : ∀ (d i : Nat) (N : Nat → Int32), i + d ≤ 6 → N (1179 + 16 * sd + 4) = stp → (∀ k, 15 ≤ k → k < 51 → N k = N0 k) → nSpans b M x but e sd d i N = spV (fun z => clr N0 b M z x) but e sd stp d i N
  | 0, _, _, _, _, _ => rfl
  | d + 1, i, N, h, hs, h0 => by
    unfold nSpans spV
    have e1 : nSpan1 b M x but e sd i N = spV1 (fun z => clr N0 b M z x) but e sd stp i N := by
      unfold nSpan1 spV1
      have hc : clr N b M i x ↔ clr N0 b M i x := clr_N hM (by omega) hx h0
      rw [hs, hc]
    rw [e1]
    exact nSp_eq hM hx hsd d (i + 1) _ (by omega) (by rw [spV1_n (by omega) (by unfold spc; omega)]; exact hs) (fun k a c => by rw [spV1_n (by omega) (by unfold spc; omega)]; exact h0 k a c)
theorem nSp_e {x sd : Nat} {but e stp : Int32} (hM : M ≤ 6) (hx : x < 6) (hsd : sd < 6) (hs : N (1179 + 16 * sd + 4) = stp) : nSpans b M x but e sd M 0 N = spV (fun z => clr N b M z x) but e sd stp M 0 N := nSp_eq hM hx hsd M 0 N (by omega) hs (fun _ _ _ => rfl)
theorem nSpans_n {x sd k : Nat} {but e : Int32} (hM : M ≤ 6) (hx : x < 6) (hk : ¬ spc k) (hsd : sd < 6) : nSpans b M x but e sd M 0 N k = N k := by
  rw [nSp_e hM hx hsd rfl, spV_n hk M 0 N (by omega)]
theorem Rl.sp1 {cl : Nat → Prop} {sd z : Nat} {but e stp : Int32} (h : Rl M C N P Q) (hM : M ≤ 6) (hz : z < M) : Rl M (spV1 cl but e sd stp z C) (spV1 cl but e sd stp z N) P Q := by
  unfold spV1
  rw [h.pl (pd_sp hM hz)]
  split
  · exact ((h.u hM (Or.inr (Or.inl (by omega)))).u hM (Or.inr (Or.inr (Or.inr (by omega))))).u hM (Or.inr (Or.inr (Or.inr (by omega))))
  · exact h
theorem Rl.spF {cl : Nat → Prop} {sd : Nat} {but e stp : Int32} (hM : M ≤ 6) : ∀ (d i : Nat) (C N : Nat → Int32), i + d ≤ M → Rl M C N P Q → Rl M (spV cl but e sd stp d i C) (spV cl but e sd stp d i N) P Q
  | 0, _, _, _, _, h => h
  | d + 1, i, C, N, hi, h => Rl.spF hM d (i + 1) _ _ (by omega) (h.sp1 hM (by omega))
theorem Rl.sp {cl : Nat → Prop} {sd : Nat} {but e stp : Int32} (h : Rl M C N P Q) (hM : M ≤ 6) : Rl M (spV cl but e sd stp M 0 C) (spV cl but e sd stp M 0 N) P Q := Rl.spF hM M 0 C N (by omega) h
theorem c_isClr0 {a x y : Nat} {σ : mS} {F : Nat → Int32} (hI : IS M N) (hH : RH M C N) (hb : b = bv pS M) (hC : F 1329 = b) (hF : F (1436 + y) = C (1436 + y)) (hy : y < M) (hx : x < M) : e_X0_isClear a (nI y) (nI x) (wC a σ F) = some (some (some (.inl (bI (clr N b M y x)))), wC a σ F) := by
  have hM := hI.2.1
  rw [c_isClear (by omega), hC, hF, bI_c (clr_iff hI hH hb hy hx)]
theorem c_spread_from {a x sd : Nat} {but e stp : Int32} {σ : mS} (hI : IS M N) (hH : RH M C N) (hb : b = bv pS M) (hx : x < M) (hsd : sd < M) : ∀ (d i : Nat) (F : Nat → Int32), F 0 = nI M → F 1329 = b → (∀ y, y < M → F (1436 + y) = C (1436 + y)) → i + d = M →
    b_X0_spread_3 a (nI x) but (nI sd) stp e (nI i) (wC a σ F) = some (some none, wC a σ (spV (fun z => clr N b M z x) but e sd stp d i F))
  | 0, i, F, h0, h1, h2, hi => by
    have hM := hI.2.1
    rw [q_X0_spread_3, rC_many, h0, if_neg (nI_nlt (by omega) (by omega))]
    rfl
  | d + 1, i, F, h0, h1, h2, hi => by
    have hM := hI.2.1
    have hlt : nI i < nI M := nI_lt (by omega) (by omega)
    have ih := c_spread_from (a := a) (but := but) (e := e) (stp := stp) (σ := σ) hI hH hb hx hsd d (i + 1) (spV1 (fun z => clr N b M z x) but e sd stp i F) (by rw [spV1_n (by omega) (by unfold spc; omega)]; exact h0) (by rw [spV1_n (by omega) (by unfold spc; omega)]; exact h1) (fun y hy => by rw [spV1_n (by omega) (by unfold spc; omega)]; exact h2 y hy) (by omega)
    rw [q_X0_spread_3, rC_many, h0, if_pos hlt]
    unfold spV
    by_cases k1 : nI i = but
    · have e1 : spV1 (fun z => clr N b M z x) but e sd stp i F = F := by unfold spV1; rw [if_neg (fun q => q.1 k1)]
      rw [e1] at ih ⊢
      rw [if_pos k1, nI_1]
      exact ih
    · rw [if_neg k1, c_isClr0 hI hH hb h1 (h2 i (by omega)) (by omega) hx]
      dsimp only [bdI]
      by_cases k2 : clr N b M i x
      · rw [if_bI k2, nI_clamp (by omega), if_neg (ckn (by omega) (by omega)), c_listen (by omega)]
        dsimp only [bdV]
        have e1 : nListen F i (nI sd) stp e = spV1 (fun z => clr N b M z x) but e sd stp i F := by
          unfold nListen spV1
          by_cases k3 : F (129 + i) < e
          · rw [if_pos k3, if_pos ⟨k1, k2, k3⟩]
          · rw [if_neg k3, if_neg (fun q => k3 q.2.2)]
        rw [e1, nI_1]
        exact ih
      · have e1 : spV1 (fun z => clr N b M z x) but e sd stp i F = F := by unfold spV1; rw [if_neg (fun q => k2 q.2.1)]
        rw [e1] at ih ⊢
        rw [if_nbI k2, nI_1]
        exact ih
theorem c_spread {a x sd : Nat} {but e stp : Int32} {σ : mS} {F : Nat → Int32} (hI : IS M N) (hH : RH M C N) (hb : b = bv pS M) (hx : x < M) (hsd : sd < M) (h0 : F 0 = nI M) (h1 : F 1329 = b) (h2 : ∀ y, y < M → F (1436 + y) = C (1436 + y)) :
    e_X0_spread a (nI x) but (nI sd) stp e (wC a σ F) = some (some none, wC a σ (spV (fun z => clr N b M z x) but e sd stp M 0 F)) := by
  rw [q_X0_spread, c_spread_from hI hH hb hx hsd M 0 F h0 h1 h2 (by omega)]
theorem j_spread {a x sd : Nat} {but e stp : Int32} (hb : b = bv pS M) (hx : x < M) (hsd : sd < M) (hI : IS M N) (hR : Rl M C N P Q) (hC : C 1329 = b) (hst : N (1179 + 16 * sd + 4) = stp) :
    ∃ C', (∀ σ, e_X0_spread a (nI x) but (nI sd) stp e (wC a σ C) = some (some none, wC a σ C')) ∧ Rl M C' (nSpans b M x but e sd M 0 N) P Q ∧ ∀ k, ¬ spc k → C' k = C k := by
  have hM := hI.2.1
  refine ⟨_, fun σ => c_spread hI hR.2.1 hb hx hsd (by rw [hR.pl (pd_lo (by omega))]; exact hI.1) hC (fun _ _ => rfl), ?_, fun k hk => spV_n hk M 0 C (by omega)⟩
  rw [nSp_e hM (by omega) (by omega) hst]
  exact hR.sp hM
end CL

/-! Both rows: granting; an exchange that fails at last -/
section G2
variable {M x y r n : Nat} {C N P Q O W : Nat → Int32} {f v : Int32} {b : Int32} {pS : Nat → Prop}
theorem sm_r (p : Nat → Nat) : ∀ d c, sm p c (d + 1) = sm p c d + p (c + d)
  | 0, c => by simp [sm]
  | d + 1, c => by
    have h := sm_r p d (c + 1)
    have e : c + 1 + d = c + (d + 1) := by omega
    rw [e] at h
    show p c + sm p (c + 1) (d + 1) = p c + sm p (c + 1) d + p (c + (d + 1))
    omega
theorem ps_sm {p : Nat → Nat} : ∀ h, (∀ k, k < h → N (1179 + 16 * x + 11 + k) = nI (p k)) → ps N x h = nI (sm p 0 h)
  | 0, _ => rfl
  | h + 1, e => by
    unfold ps
    rw [ps_sm h (fun k hk => e k (by omega)), e h (by omega), nI_add, sm_r, Nat.zero_add]
theorem fail_ok (hI : IS M N) (hr : r < 4) (hw : ∃ w, w ≤ 63 ∧ N (1131 + (4 * x + r)) = nI w) : mn (nI 2 * N (1131 + (4 * x + r)) + nI 1) (N 13) + nI 1 ≠ 0 ∧ N (9 + r) + nI 1 ≠ 0 := by
  obtain ⟨w, hw1, hw2⟩ := hw
  obtain ⟨G, hG1, hG2, hG3⟩ := set_v hI (i := 11) (by omega)
  obtain ⟨L, hL1, hL2, hL3⟩ := set_v hI (i := 7 + r) (by omega)
  rw [show 2 + 11 = 13 from rfl] at hG1
  rw [show 2 + (7 + r) = 9 + r from by omega] at hL1
  rw [hw2, hG1, hL1, pk_mul, nI_add, mn_nI (by omega) (by omega)]
  exact ⟨(lt1 (by split <;> omega)).2, (lt1 (by omega)).2⟩
theorem me_grant {σ : mS} (hI : IS M N) (hx : x < M) (hy : y < M) (hyN : N (1179 + 16 * x + 1) = nI y) (hph : N (1179 + 16 * x + 4) = nI 1) (hon : N (1179 + 16 * x) = nI 1) (hr : r < 4) (hn : n < 8) (hN : N (147 + (4 * x + r)) = nI (n + 1)) (hw : ∃ w, w ≤ 63 ∧ N (1131 + (4 * x + r)) = nI w) (hrN : N (1179 + 16 * x + 2) = nI r) :
    ((N (135 + y) = nI x ∧ N (141 + y) = nI 1 ∧ clr N b M x y) → e_X10_stepSender (nI x) (wM σ N O W b) = some (some none, wM σ (upd (nSpans b M y (nI x) (N (1179 + 16 * x + 10)) x M 0 N) (1179 + 16 * x + 4) (nI 2)) O W b)) ∧
    (¬ (N (135 + y) = nI x ∧ N (141 + y) = nI 1 ∧ clr N b M x y) → e_X10_stepSender (nI x) (wM σ N O W b) = some (some none, wM σ (nFails (nFb0 N x y False) x r n) O W b)) := by
  have hM := hI.2.1
  have e0 : ¬ N (1179 + 16 * x + 4) = nI 0 := by rw [hph]; decide
  have h0 : e_X10_stepSender (nI x) (wM σ N O W b) = (bdI (e_X10_sendsIt (nI y) (nI x) (nI 1) (wM σ N O W b)) (fun v8 σ7 =>
    if v8 = 0 then (
      bdV (e_X10_failsBy (nI x) (nI 0) σ7) (fun σ9 =>
      some (some none, σ9)))
    else (
      if nI (1179 + 16 * x) + (nI 10) < 0 ∨ 1432 ≤ (nI (1179 + 16 * x) + (nI 10)).toNatClampNeg then none else (
      bdV (e_X10_spans (nI y) (nI x) (σ7.1 (30, 0, 0, 0) ((nI (1179 + 16 * x) + (nI 10)).toNatClampNeg)) (nI x) σ7) (fun σ10 =>
      if nI (1179 + 16 * x) + (nI 4) < 0 ∨ 1432 ≤ (nI (1179 + 16 * x) + (nI 4)).toNatClampNeg then none else (
      let σ11 := st σ10 (30, 0, 0, 0) ((nI (1179 + 16 * x) + (nI 4)).toNatClampNeg) (nI 2);
      some (some none, σ11))))))) := by
    rw [q_X10_stepSender, m_exAt]
    dsimp only [bdI]
    rw [nI_add, nI_add, nI_add, nI_clamp (by omega), nI_clamp (by omega), if_neg (ckn (by omega) (by omega)), if_neg (ckn (by omega) (by omega)), wM_N, wM_N, if_neg e0, if_pos hph, hyN]
  rw [h0, m_sendsIt hM hI.1 (by omega) (by omega)]
  dsimp only [bdI]
  constructor
  · intro hp
    rw [if_bI hp]
    simp (disch := omega) only [nI_add, nI_clamp, ck2, if_false, wM_N]
    rw [m_spans hM hI.1 (by omega) (by omega)]
    dsimp only [bdV]
    rw [wM_stN]
  · intro hp
    obtain ⟨k1, k2⟩ := fail_ok (x := x) hI hr hw
    rw [if_nbI hp, show nI 0 = bI False from (bI_f id).symm, m_failsBy (by omega) hr (by omega) hn hN k1 k2 hyN hrN]
    dsimp only [bdV]
    unfold nFailsBy
    rw [if_neg id]
/-- what granting comes to -/
theorem j_grant {a h : Nat} (hI : IS M N) (hR : Rl M C N P Q) (hb : b = bv pS M) (hNb : N 1329 = b) (hx : x < M) (hy : y < M) (hon : N (1179 + 16 * x) = nI 1) (hyN : N (1179 + 16 * x + 1) = nI y) (hrN : N (1179 + 16 * x + 2) = nI r) (hr : r < 4) (hph : N (1179 + 16 * x + 4) = nI 1) (hn : n < 8) (hN : N (147 + (4 * x + r)) = nI (n + 1)) (hw : ∃ w, w ≤ 63 ∧ N (1131 + (4 * x + r)) = nI w)
    (hh : N (1179 + 16 * x + 3) = nI h) (hh4 : h ≤ 4) (hlf : N (1179 + 16 * x + 5) = ps N x h) (hpay : (P y = nI x ∧ Q y = nI 1) ↔ (N (135 + y) = nI x ∧ N (141 + y) = nI 1)) (hrs : (N (135 + y) = nI x ∧ N (141 + y) = nI 1) → N (1179 + 16 * x + 15) = nI 0) (hrs2 : ¬ (N (135 + y) = nI x ∧ N (141 + y) = nI 1) → 0 < N (1179 + 16 * x + 15)) :
    ∃ C' N' P' Q', (∀ σ, e_X0_goGrant a (nI x) (nI y) a x (wC a σ C) = some (some none, wC a σ C')) ∧ (∀ σ, e_X10_stepSender (nI x) (wM σ N O W b) = some (some none, wM σ N' O W b)) ∧ Rl M C' N' P' Q' ∧
      ((P y = nI x ∧ Q y = nI 1 ∧ P' = upd P y (-1) ∧ Q' = upd Q y (nI 0)) ∨ (¬ (P y = nI x ∧ Q y = nI 1) ∧ P' = P ∧ Q' = Q)) ∧
      ((N (135 + y) = nI x ∧ N (141 + y) = nI 1 ∧ clr N b M x y ∧ N' = upd (nSpans b M y (nI x) (N (1179 + 16 * x + 10)) x M 0 N) (1179 + 16 * x + 4) (nI 2)) ∨ N' = nFails (nFb0 N x y False) x r n) := by
  have hM := hI.2.1
  have cy : ¬ (nI y < 0 ∨ 6 ≤ y) := ckn (by omega) (by omega)
  obtain ⟨e1, e2, e3, e4, e5, e6, e7, e8, e9, e10, e11, e12⟩ := (hR.ex hx).2 hon
  obtain ⟨o1, o2⟩ := hR.2.2.2.2 y hy
  by_cases kp : P y = nI x ∧ Q y = nI 1
  · have kN := hpay.mp kp
    have hr0 := hrs kN
    have hR1 : Rl M (upd (upd C (135 + y) (-1)) (141 + y) (nI 0)) N (upd P y (-1)) (upd Q y (nI 0)) := hR.D2 hM hy
    have hC1 : upd (upd C (135 + y) (-1)) (141 + y) (nI 0) 1329 = b := by rw [hR1.pl (pd_hi (by omega))]; exact hNb
    by_cases kc : clr N b M x y
    · -- granted
      have hR2 : Rl M (upd (upd (upd (upd C (135 + y) (-1)) (141 + y) (nI 0)) (1179 + 16 * x + 4) (nI 2)) (1179 + 16 * x + 5) (C (1179 + 16 * x + 11))) (upd N (1179 + 16 * x + 4) (nI 2)) (upd P y (-1)) (upd Q y (nI 0)) := by
        have hz : C (1179 + 16 * x + 11) = N (1179 + 16 * x + 5) := by rw [e12 h hh4 hh, hlf]
        rw [upd_c (by omega)]
        refine Rl.xp (hR1.x5 hM hx (fun q => ?_)) hM hx (fun _ => ?_) (fun _ => ?_)
        · rw [hph] at q; exact absurd q (by decide)
        · rw [upd_e rfl, hz]
        · rw [upd_n (by omega), upd_n (by omega), upd_n (by omega)]
          exact e10 (by rw [hph]; decide)
      have c2 := hR2.sp (cl := fun z => clr N b M z y) (but := nI x) (e := N (1179 + 16 * x + 10)) (sd := x) (stp := nI 1) hM
      rw [spV_u (by unfold spc; omega) M 0 N (by omega), ← nSp_e hM (by omega) (by omega) hph] at c2
      refine ⟨_, _, _, _, fun σ => ?_, fun σ => (me_grant hI hx hy hyN hph hon hr hn hN hw hrN).1 ⟨kN.1, kN.2, kc⟩, c2, Or.inl ⟨kp.1, kp.2, rfl, rfl⟩, Or.inl ⟨kN.1, kN.2, kc, rfl⟩⟩
      rw [q_X0_goGrant, nI_clamp (by omega), if_neg cy, c_pays_t (by omega) (o1.trans kp.1) (o2.trans kp.2)]
      dsimp only [bdI]
      rw [if_neg n10, c_isClr hI hR1.2.1 hb hC1 hx hy]
      dsimp only
      rw [if_bI kc, sC_step (by omega), rC_places (by omega), sC_left (by omega), rC_end (by omega)]
      rw [upd_n (show 1179 + 16 * x + 11 ≠ 1179 + 16 * x + 4 from by omega), upd_n (show 1179 + 16 * x + 11 ≠ 141 + y from by omega), upd_n (show 1179 + 16 * x + 11 ≠ 135 + y from by omega)]
      rw [show upd (upd (upd (upd C (135 + y) (-1)) (141 + y) (nI 0)) (1179 + 16 * x + 4) (nI 2)) (1179 + 16 * x + 5) (C (1179 + 16 * x + 11)) (1179 + 16 * x + 10) = N (1179 + 16 * x + 10) from by
        rw [upd_n (by omega), upd_n (by omega), upd_n (by omega), upd_n (by omega)]; exact e7]
      rw [c_spread hI hR.2.1 hb hy hx (by rw [upd_n (by omega), upd_n (by omega), upd_n (by omega), upd_n (by omega), hR.pl (pd_lo (by omega))]; exact hI.1) (by rw [upd_n (by omega), upd_n (by omega), upd_n (by omega), upd_n (by omega), hR.pl (pd_hi (by omega))]; exact hNb) (fun z hz => by rw [upd_n (by omega), upd_n (by omega), upd_n (by omega), upd_n (by omega)])]
      rfl
    · obtain ⟨C2, c1, c2⟩ := j_failEx (a := a) (y := y) (ans := False) (f := nI 4) hI hR1 hx hr hn hN hw hon hyN hrN (by rw [hr0, if_neg (by decide), if_neg id])
      refine ⟨C2, _, _, _, fun σ => ?_, fun σ => (me_grant hI hx hy hyN hph hon hr hn hN hw hrN).2 (fun q => kc q.2.2), c2, Or.inl ⟨kp.1, kp.2, rfl, rfl⟩, Or.inr rfl⟩
      rw [q_X0_goGrant, nI_clamp (by omega), if_neg cy, c_pays_t (by omega) (o1.trans kp.1) (o2.trans kp.2)]
      dsimp only [bdI]
      rw [if_neg n10, c_isClr hI hR1.2.1 hb hC1 hx hy]
      dsimp only
      rw [if_nbI kc, if_neg n10, sC_failure (by omega), c1]
      rfl
  · have kN : ¬ (N (135 + y) = nI x ∧ N (141 + y) = nI 1) := fun q => kp (hpay.mpr q)
    have hr0 := hrs2 kN
    obtain ⟨C2, c1, c2⟩ := j_failEx (a := a) (y := y) (ans := False) (f := C (1179 + 16 * x + 15)) hI hR hx hr hn hN hw hon hyN hrN (by rw [e8, if_pos hr0])
    refine ⟨C2, _, P, Q, fun σ => ?_, fun σ => (me_grant hI hx hy hyN hph hon hr hn hN hw hrN).2 (fun q => kN ⟨q.1, q.2.1⟩), c2, Or.inr ⟨kp, rfl, rfl⟩, Or.inr rfl⟩
    rw [q_X0_goGrant, nI_clamp (by omega), if_neg cy, c_pays_f (by omega) (fun q => kp ⟨o1.symm.trans q.1, o2.symm.trans q.2⟩)]
    dsimp only [bdI]
    rw [if_pos n00, if_pos n00, rC_failure (by omega), sC_failure (by omega), c1]
    rfl
end G2

/-! Both rows: the answer, together -/
section A2
variable {M x y s r i j n m k d h w : Nat} {F G H N C P Q O W : Nat → Int32} {v u t f : Int32} {b : Int32} {pS : Nat → Prop} {wb : Nat → Prop}
theorem nDC_ex (hx : x < 6) (hr : r < 4) (hm : szq F x r ≤ 8) (hk : 1179 ≤ k ∧ k < 1275) (d i j : Nat) (hd : i + d ≤ szq F x r) : nDC x r wb d i j F k = F k := by
  have := nDC_u (F := F) (v := F k) (wb := wb) hx hr hm hk d i j hd
  rw [upd_id] at this
  rw [this, upd_e rfl]
theorem nDR_at (hx : x < 6) (hr : r < 4) (hm : szq F x r ≤ 8) (hk : k < 147 ∨ (1179 ≤ k ∧ k < 1275)) (d i j : Nat) (hd : i + d ≤ szq F x r) : nDR x r wb d i j F k = F k := by
  rw [← (dr_dc (wb := wb) hx hr d i j F hm hd).1 k (by omega)]
  rcases hk with hk | hk
  · exact nDC_lo hx hr hm (by omega) d i j hd
  · exact nDC_ex hx hr hm hk d i j hd
theorem Gq.up (h : Gq s r F G) (hs : s < 6) (hr : r < 4) (hk : 1131 ≤ k) : Gq s r (upd F k v) (upd G k v) := by
  have hz : szq (upd F k v) s r = szq F s r := by unfold szq; rw [upd_n (by omega)]
  refine ⟨fun j hj => ?_, fun j hj => ?_⟩
  · by_cases q : j = k
    · rw [upd_e q, upd_e q]
    · rw [upd_n q, upd_n q]; exact h.1 j hj
  · by_cases q : 171 + 40 * (4 * s + r) + j = k
    · rw [upd_e q, upd_e q]
    · rw [upd_n q, upd_n q]; exact h.2 j (by rw [← hz]; exact hj)
theorem me_answer {σ : mS} {L : Nat} (hI : IS M N) (hx : x < M) (hy : y < M) (hyN : N (1179 + 16 * x + 1) = nI y) (hph : N (1179 + 16 * x + 4) = nI 3) (hr : r < 4) (hn : n < 8) (hN : N (147 + (4 * x + r)) = nI (n + 1)) (hw : ∃ w, w ≤ 63 ∧ N (1131 + (4 * x + r)) = nI w) (hrN : N (1179 + 16 * x + 2) = nI r)
    (hh : N (1179 + 16 * x + 3) = nI h) (hh4 : h ≤ 4) (hhn : h ≤ n + 1) (hwh : N (1179 + 16 * x + 6) = nI w) :
    ((N (135 + y) = nI x ∧ N (141 + y) = nI 2 ∧ clr N b M x y) → e_X10_stepSender (nI x) (wM σ N O W b) = some (some none, wM σ (nAns (nDR x r (fun k => sn (nI w) k) h 0 0 N) x r y) O W b)) ∧
    (¬ (N (135 + y) = nI x ∧ N (141 + y) = nI 2 ∧ clr N b M x y) → e_X10_stepSender (nI x) (wM σ N O W b) = some (some none, wM σ (nFailsBy N x r y n True) O W b)) := by
  have hM := hI.2.1
  have e0 : ¬ N (1179 + 16 * x + 4) = nI 0 := by rw [hph]; decide
  have e1 : ¬ N (1179 + 16 * x + 4) = nI 1 := by rw [hph]; decide
  have e2 : ¬ N (1179 + 16 * x + 4) = nI 2 := by rw [hph]; decide
  have hz : szq N x r = n + 1 := by unfold szq; rw [hN, nI_clamp (by omega)]
  have h0 : e_X10_stepSender (nI x) (wM σ N O W b) = (bdI (e_X10_sendsIt (nI y) (nI x) (nI 2) (wM σ N O W b)) (fun v14 σ13 =>
    if v14 = 0 then (
      bdV (e_X10_failsBy (nI x) (nI 1) σ13) (fun σ15 =>
      some (some none, σ15)))
    else (
      bdV (e_X10_delivers (nI x) σ13) (fun σ16 =>
      some (some none, σ16))))) := by
    rw [q_X10_stepSender, m_exAt]
    dsimp only [bdI]
    rw [nI_add (1179 + 16 * x) 1, nI_add (1179 + 16 * x) 4, nI_clamp (n := 1179 + 16 * x + 1) (by omega), nI_clamp (n := 1179 + 16 * x + 4) (by omega), if_neg (ckn (by omega) (by omega)), if_neg (ckn (by omega) (by omega)), wM_N, wM_N, if_neg e0, if_neg e1, if_neg e2, hyN]
  rw [h0, m_sendsIt hM hI.1 (by omega) (by omega)]
  dsimp only [bdI]
  constructor
  · intro hp
    obtain ⟨L, hL1, hL2, hL3⟩ := set_v hI (i := 7 + r) (by omega)
    rw [show 2 + (7 + r) = 9 + r from by omega] at hL1
    have hd : ∀ k, (k < 147 ∨ (1179 ≤ k ∧ k < 1275)) → nDR x r (fun k => sn (nI w) k) h 0 0 N k = N k := fun k hk => nDR_at (by omega) hr (by omega) hk h 0 0 (by omega)
    obtain ⟨i', hi'⟩ := m_del (σ := σ) (O := O) (W := W) (b := b) (w := w) (x := x) (r := r) (h := h) (by omega) hr hh4 h 0 0 N (by omega) ⟨n + 1, by omega, by omega, hN⟩ hh hwh
    rw [if_bI hp, q_X10_delivers, m_exAt]
    dsimp only [bdI]
    rw [nI_add (1179 + 16 * x) 2, nI_clamp (n := 1179 + 16 * x + 2) (by omega), if_neg (ckn (by omega) (by omega)), wM_N, hrN, hi', m_del_end (L := L) (y := y) (h := h) (by omega) (by omega) hr hh4 (by rw [hd _ (by omega)]; exact hh) (by rw [hd _ (by omega)]; exact hyN) (by rw [hd _ (by omega)]; exact hL1) (by omega)]
    rfl
  · intro hp
    obtain ⟨k1, k2⟩ := fail_ok (x := x) hI hr hw
    rw [if_nbI hp, show nI 1 = bI True from (bI_t trivial).symm, m_failsBy (by omega) hr (by omega) hn hN k1 k2 hyN hrN]
    rfl
theorem subm1 {h : Nat} (h1 : 1 ≤ h) : nI h - nI 1 = nI h + (-1) := by
  obtain ⟨g, rfl⟩ : ∃ g, h = g + 1 := ⟨h - 1, by omega⟩
  rw [pk_sub (by omega), pk_m1]
  rfl
theorem c_luck {a : Nat} {σ : mS} (hx : x < 6) (hy : y < 6) : (let σ23 := st (wC a σ C) (19, a, x, 0) y (((wC a σ C).1 (19, a, x, 0) y) + (nI 1))
      if nI y < 0 ∨ 6 ≤ y then none else (
      if σ23.1 (19, a, x, 0) y < nI 3 then (
        some (some none, σ23))
      else (
        if nI y < 0 ∨ 6 ≤ y then none else (
        if nI y < 0 ∨ 6 ≤ y then none else (
        let σ24 := st σ23 (18, a, x, 0) y (if (σ23.1 (18, a, x, 0) y) + (nI 1) < nI 3 then (σ23.1 (18, a, x, 0) y) + (nI 1) else nI 3)
        if nI y < 0 ∨ 6 ≤ y then none else (
        let σ25 := st σ24 (19, a, x, 0) y (nI 0)
        some (some none, σ25))))))) = (some (some none, wC a σ (nLuck C x y)) : Option mR) := by
  have cy : ¬ (nI y < 0 ∨ 6 ≤ y) := ckn (by omega) (by omega)
  simp only [if_neg cy]
  rw [rC_luck hx hy, sC_luck hx hy, rC_luck hx hy, upd_e rfl, rC_rate hx hy, upd_n (by omega)]
  unfold nLuck
  by_cases k1 : C (87 + 6 * x + y) + nI 1 < nI 3
  · rw [if_pos k1, if_pos k1]
  · rw [if_neg k1, if_neg k1, sC_rate hx hy, sC_luck hx hy]
/-- the class where the answer doesn't come -/
theorem c_noans {a : Nat} {C' N' : Nat → Int32} {σ : mS} (hM : M ≤ 6) (hx : x < M) (hy : y < 6) (hR : Rl M C' N' P Q) (hrt : N' (51 + 6 * x + y) = v) : (bdV (some (some none, wC a σ C')) (fun σ4 =>
      if nI y < 0 ∨ 6 ≤ y then none else (
      if nI y < 0 ∨ 6 ≤ y then none else (
      let σ5 := st σ4 (18, a, x, 0) y (if nI 1 < (σ4.1 (18, a, x, 0) y) - (nI 1) then (σ4.1 (18, a, x, 0) y) - (nI 1) else nI 1)
      if nI y < 0 ∨ 6 ≤ y then none else (
      let σ6 := st σ5 (19, a, x, 0) y (nI 0)
      some (some none, σ6)))))) = (some (some none, wC a σ (upd (upd C' (51 + 6 * x + y) (mx (nI 1) (v - nI 1))) (87 + 6 * x + y) (nI 0))) : Option mR) := by
  have cy : ¬ (nI y < 0 ∨ 6 ≤ y) := ckn (by omega) (by omega)
  dsimp only [bdV]
  simp only [if_neg cy]
  rw [rC_rate (by omega) hy, sC_rate (by omega) hy, sC_luck (by omega) hy, hR.pl (pd_rt hM hx hy), hrt]
  rfl
theorem Rl.noans {C' N' : Nat → Int32} (hM : M ≤ 6) (hx : x < M) (hy : y < 6) (hR : Rl M C' N' P Q) : Rl M (upd (upd C' (51 + 6 * x + y) v) (87 + 6 * x + y) (nI 0)) (upd (upd N' (51 + 6 * x + y) v) (87 + 6 * x + y) (nI 0)) P Q :=
  (hR.u hM (Or.inr (Or.inl (by omega)))).u hM (Or.inr (Or.inl (by omega)))
theorem j_answer {a : Nat} (hI : IS M N) (hR : Rl M C N P Q) (hb : b = bv pS M) (hNb : N 1329 = b) (hx : x < M) (hy : y < M) (hon : N (1179 + 16 * x) = nI 1) (hyN : N (1179 + 16 * x + 1) = nI y) (hrN : N (1179 + 16 * x + 2) = nI r) (hr : r < 4) (hph : N (1179 + 16 * x + 4) = nI 3) (hn : n < 8) (hN : N (147 + (4 * x + r)) = nI (n + 1)) (hw : ∃ w, w ≤ 63 ∧ N (1131 + (4 * x + r)) = nI w)
    (hh : N (1179 + 16 * x + 3) = nI h) (hh1 : 1 ≤ h) (hh4 : h ≤ 4) (hhn : h ≤ n + 1) (hwh : N (1179 + 16 * x + 6) = nI w) (hmk : N 1340 = nI 0 ∨ N 1340 = nI 1) (hpay : (P y = nI x ∧ Q y = nI 2) ↔ (N (135 + y) = nI x ∧ N (141 + y) = nI 2)) (hrs : (N (135 + y) = nI x ∧ N (141 + y) = nI 2) → N (1179 + 16 * x + 15) = nI 0) (hrs2 : ¬ (N (135 + y) = nI x ∧ N (141 + y) = nI 2) → 0 < N (1179 + 16 * x + 15)) :
    ∃ C' N' P' Q', (∀ σ, e_X0_goAnswer a (nI x) (nI y) a x (wC a σ C) = some (some none, wC a σ C')) ∧ (∀ σ, e_X10_stepSender (nI x) (wM σ N O W b) = some (some none, wM σ N' O W b)) ∧ Rl M C' N' P' Q' ∧
      ((P y = nI x ∧ Q y = nI 2 ∧ P' = upd P y (-1) ∧ Q' = upd Q y (nI 0)) ∨ (¬ (P y = nI x ∧ Q y = nI 2) ∧ P' = P ∧ Q' = Q)) ∧
      ((N (135 + y) = nI x ∧ N (141 + y) = nI 2 ∧ clr N b M x y ∧ N' = nAns (nDR x r (fun k => sn (nI w) k) h 0 0 N) x r y) ∨ N' = nFailsBy N x r y n True) := by
  have hM := hI.2.1
  have cy : ¬ (nI y < 0 ∨ 6 ≤ y) := ckn (by omega) (by omega)
  have cx : ¬ (nI x < 0 ∨ 6 ≤ x) := ckn (by omega) (by omega)
  have hz : szq N x r = n + 1 := by unfold szq; rw [hN, nI_clamp (by omega)]
  obtain ⟨o1, o2⟩ := hR.2.2.2.2 y hy
  obtain ⟨e1, e2, e3, e4, e5, e6, e7, e8, e9, e10, e11, e12⟩ := (hR.ex hx).2 hon
  have me := fun (σ : mS) => me_answer (σ := σ) (O := O) (W := W) (b := b) (L := 0) hI hx hy hyN hph hr hn hN hw hrN hh hh4 hhn hwh
  -- the failing end, from any relation
  have fl : ∀ (C1 P1 Q1 : Nat → Int32) (f : Int32), Rl M C1 N P1 Q1 → (f = if 0 < N (1179 + 16 * x + 15) then N (1179 + 16 * x + 15) else nI 7) → ∃ C', (∀ σ, bdV (e_X0_failExchange a (nI x) a x (wC a σ (upd C1 (1179 + 16 * x + 15) f))) (fun σ4 =>
      if nI y < 0 ∨ 6 ≤ y then none else (
      if nI y < 0 ∨ 6 ≤ y then none else (
      let σ5 := st σ4 (18, a, x, 0) y (if nI 1 < (σ4.1 (18, a, x, 0) y) - (nI 1) then (σ4.1 (18, a, x, 0) y) - (nI 1) else nI 1)
      if nI y < 0 ∨ 6 ≤ y then none else (
      let σ6 := st σ5 (19, a, x, 0) y (nI 0)
      some (some none, σ6))))) = some (some none, wC a σ C')) ∧ Rl M C' (nFailsBy N x r y n True) P1 Q1 := by
    intro C1 P1 Q1 f hR1 hf
    obtain ⟨C2, c1, c2⟩ := j_failEx (a := a) (y := y) (ans := True) (f := f) hI hR1 hx hr hn hN hw hon hyN hrN (by rw [hf, if_pos trivial])
    have hrt : nFails (nFb0 N x y True) x r n (51 + 6 * x + y) = N (51 + 6 * x + y) := by rw [nFails_n (by omega) hr hn ⟨by omega, by omega⟩, nFb0_n (by omega) (Or.inl (by omega))]
    refine ⟨_, fun σ => by rw [c1]; exact c_noans hM hx (by omega) c2 hrt, ?_⟩
    unfold nFailsBy
    rw [if_pos trivial, show 51 + (6 * x + y) = 51 + 6 * x + y from by omega, show 87 + (6 * x + y) = 87 + 6 * x + y from by omega]
    exact c2.noans hM hx (by omega)
  by_cases kp : P y = nI x ∧ Q y = nI 2
  · have kN := hpay.mp kp
    have hr0 := hrs kN
    have hR1 : Rl M (upd (upd C (135 + y) (-1)) (141 + y) (nI 0)) N (upd P y (-1)) (upd Q y (nI 0)) := hR.D2 hM hy
    have hC1 : upd (upd C (135 + y) (-1)) (141 + y) (nI 0) 1329 = b := by rw [hR1.pl (pd_hi (by omega))]; exact hNb
    by_cases kc : clr N b M x y
    · obtain ⟨L, hL1, hL2, hL3⟩ := set_v hI (i := 7 + r) (by omega)
      rw [show 2 + (7 + r) = 9 + r from by omega] at hL1
      have hR2 := hR1.x0 hM hx
      obtain ⟨C2, c1, c2, c3⟩ := c_del (a := a) (w := w) hM hx hr h _ _ hR2 ⟨n + 1, by omega, hhn, by rw [upd_n (by omega)]; exact hN⟩ (by rw [upd_n (by omega), upd_n (by omega), upd_n (by omega), e5]; exact hwh) (by rw [upd_n (by omega)]; exact hmk)
      rw [nDC_u (by omega) hr (by omega) (by omega) h 0 0 (by omega)] at c2
      have c4 := c2.gq ((dr_dc (wb := fun k => sn (nI w) k) (by omega) hr h 0 0 N (by omega) (by omega)).up (v := nI 0) (k := 1179 + 16 * x) (by omega) hr (by omega)) hM hx hr
      have c9 : C2 (9 + r) = nI L := by
        rw [c4.pl (pd_lo (by omega)), upd_n (by omega), nDR_at (by omega) hr (by omega) (by omega) h 0 0 (by omega), hL1]
      have hD9 : nDR x r (fun k => sn (nI w) k) h 0 0 N (9 + r) = nI L := by rw [nDR_at (by omega) hr (by omega) (by omega) h 0 0 (by omega), hL1]
      have c5 : Rl M (nLuck (nDraws (upd C2 (1131 + (4 * x + r)) (nI L)) x r) x y) (nAns (nDR x r (fun k => sn (nI w) k) h 0 0 N) x r y) (upd P y (-1)) (upd Q y (nI 0)) := by
        unfold nAns
        rw [hD9]
        exact ((c4.u hM (Or.inr (Or.inr (Or.inl (by omega))))).drs hM hx hr).luck hM hx (by omega)
      refine ⟨_, _, _, _, fun σ => ?_, fun σ => (me σ).1 ⟨kN.1, kN.2, kc⟩, c5, Or.inl ⟨kp.1, kp.2, rfl, rfl⟩, Or.inl ⟨kN.1, kN.2, kc, rfl⟩⟩
      have ct : ∀ j, (j = 2 ∨ j = 3) → upd (upd (upd C (135 + y) (-1)) (141 + y) (nI 0)) (1179 + 16 * x) (nI 0) (1179 + 16 * x + j) = C (1179 + 16 * x + j) := fun j hj => by rw [upd_n (by omega), upd_n (by omega), upd_n (by omega)]
      rw [q_X0_goAnswer, nI_clamp (n := y) (by omega), if_neg cy, c_pays_t (by omega) (o1.trans kp.1) (o2.trans kp.2)]
      dsimp only [bdI]
      rw [nI_clamp (n := x) (by omega), if_neg cx, if_neg n10, c_isClr hI hR1.2.1 hb hC1 hx hy]
      dsimp only
      rw [if_bI kc, if_pos z1, sC_on (by omega), q_X0_deliver, nI_clamp (n := x) (by omega), if_neg cx, rC_ofRank (by omega), ct 2 (Or.inl rfl), e2, hrN, nI_clamp (n := r) (by omega), if_neg (ckn (by omega) (by omega)), rC_frames (by omega), ct 3 (Or.inr rfl), e3, hh, subm1 hh1, c1, c_del_end (L := L) (by omega) hr (by rw [c3 _ (by omega) (by omega), ct 2 (Or.inl rfl), e2, hrN]) c9 (by omega), c9]
      dsimp only [bdV]
      rw [if_neg cy, if_neg cy]
      exact c_luck (by omega) (by omega)
    · obtain ⟨C2, c1, c2⟩ := fl _ _ _ (nI 7) hR1 (by rw [hr0, if_neg (by decide)])
      refine ⟨C2, _, _, _, fun σ => ?_, fun σ => (me σ).2 (fun q => kc q.2.2), c2, Or.inl ⟨kp.1, kp.2, rfl, rfl⟩, Or.inr rfl⟩
      rw [q_X0_goAnswer, nI_clamp (n := y) (by omega), if_neg cy, c_pays_t (by omega) (o1.trans kp.1) (o2.trans kp.2)]
      dsimp only [bdI]
      rw [nI_clamp (n := x) (by omega), if_neg cx, if_neg n10, c_isClr hI hR1.2.1 hb hC1 hx hy]
      dsimp only
      rw [if_nbI kc, if_neg n10, sC_failure (by omega)]
      exact c1 σ
  · have kN : ¬ (N (135 + y) = nI x ∧ N (141 + y) = nI 2) := fun q => kp (hpay.mpr q)
    have hr0 := hrs2 kN
    obtain ⟨C2, c1, c2⟩ := fl C P Q (C (1179 + 16 * x + 15)) hR (by rw [e8, if_pos hr0])
    refine ⟨C2, _, P, Q, fun σ => ?_, fun σ => (me σ).2 (fun q => kN ⟨q.1, q.2.1⟩), c2, Or.inr ⟨kp, rfl, rfl⟩, Or.inr rfl⟩
    rw [q_X0_goAnswer, nI_clamp (n := y) (by omega), if_neg cy, c_pays_f (by omega) (fun q => kp ⟨o1.symm.trans q.1, o2.symm.trans q.2⟩)]
    dsimp only [bdI]
    rw [nI_clamp (n := x) (by omega), if_neg cx, if_pos n00, if_pos n00, rC_failure (by omega), sC_failure (by omega)]
    exact c1 σ
end A2

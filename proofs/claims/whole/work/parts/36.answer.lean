/-! Both rows: the answer -/
section AN
variable {M x y s r i j n m k d h w : Nat} {F G H N C P Q O W : Nat → Int32} {v u t f : Int32} {b : Int32} {pS : Nat → Prop}
theorem opx_szc {w1 : Prop} (hx : x < 6) (hr : r < 4) (hi : i ≤ n) (hn : n < 8) (hG : G (147 + (4 * x + r)) = nI (n + 1)) : ∃ m, n ≤ m ∧ m ≤ n + 1 ∧ opx x r i w1 G (147 + (4 * x + r)) = nI m := by
  have hz : szq G x r - 1 = n := by unfold szq; rw [hG, nI_clamp (by omega)]; omega
  have e : ∀ H : Nat → Int32, nLeaves H x r i n (147 + (4 * x + r)) = nI n := fun H => by rw [nlv_at, if_neg (by omega), if_pos rfl]
  by_cases k1 : w1
  · refine ⟨n, Nat.le_refl _, by omega, ?_⟩
    rw [opx_W hx hr (by omega) k1, hz, hiM_n gW_id (by omega), e]
  · by_cases k2 : G (fq x r i + 2) + nI 1 < G 4
    · exact ⟨n + 1, by omega, Nat.le_refl _, by rw [opx_K k1 k2, nty_at, if_neg (by omega), hG]⟩
    · refine ⟨n, Nat.le_refl _, by omega, ?_⟩
      rw [opx_L hx hr (by omega) k1 k2, hz, hiM_n gL_id (by omega), e]
theorem opx_mk {w1 : Prop} (hx : x < 6) (hr : r < 4) (hi : i < 8) (hm : szq G x r - 1 < 8) (h : G 1340 = nI 0 ∨ G 1340 = nI 1) : opx x r i w1 G 1340 = nI 0 ∨ opx x r i w1 G 1340 = nI 1 := by
  have e : ∀ H : Nat → Int32, nLeaves H x r i (szq G x r - 1) 1340 = H 1340 := fun H => by rw [nlv_at, if_neg (by omega), if_neg (by omega)]
  by_cases k1 : w1
  · rw [opx_W hx hr hm k1, gW_upd hx, upd_n (by omega), upd_e rfl, e]
    split
    · exact Or.inr rfl
    · exact h
  · by_cases k2 : G (fq x r i + 2) + nI 1 < G 4
    · rw [opx_K k1 k2, nty_at, if_neg (by omega)]; exact h
    · rw [opx_L hx hr hm k1 k2, gL_upd hx, upd_n (by omega), upd_n (by omega), e, nty_at, if_neg (by omega)]; exact h
theorem c_del {a : Nat} (hM : M ≤ 6) (hx : x < M) (hr : r < 4) : ∀ (e : Nat) (C G : Nat → Int32), Rl M C G P Q → (∃ n, n ≤ 8 ∧ e ≤ n ∧ G (147 + (4 * x + r)) = nI n) → C (1179 + 16 * x + 6) = nI w → (G 1340 = nI 0 ∨ G 1340 = nI 1) →
    ∃ C', (∀ σ, b_X0_deliver_26 a a x a x a x r (nI e + (-1)) (wC a σ C) = b_X0_deliver_26 a a x a x a x r (-1) (wC a σ C')) ∧ Rl M C' (nDC x r (fun k => sn (nI w) k) e 0 0 G) P Q ∧ ∀ k, 1179 ≤ k → k < 1275 → C' k = C k
  | 0, C, G, hR, _, _, _ => ⟨C, fun σ => by rw [show nI 0 + (-1) = (-1 : Int32) from by decide], hR, fun _ _ _ => rfl⟩
  | e + 1, C, G, hR, ⟨n, h1, h2, h3⟩, hw, hmk => by
    obtain ⟨n', rfl⟩ : ∃ n', n = n' + 1 := ⟨n - 1, by omega⟩
    have hz : szq G x r - 1 < 8 := by unfold szq; rw [h3, nI_clamp (by omega)]; omega
    obtain ⟨C1, c1, c2, c3⟩ := c_op (a := a) (i := e) (w := w) hM hx hr hR h3 (by omega) (by omega) hw hmk
    obtain ⟨m, m1, m2, m3⟩ := opx_szc (w1 := sn (nI w) e) (show x < 6 by omega) hr (show e ≤ n' by omega) (by omega) h3
    obtain ⟨C2, d1, d2, d3⟩ := c_del (a := a) hM hx hr e C1 _ c2 ⟨m, by omega, by omega, m3⟩ (by rw [c3 _ (by omega) (by omega)]; exact hw) (opx_mk (by omega) hr (by omega) hz hmk)
    refine ⟨C2, fun σ => ?_, ?_, fun k a1 a2 => by rw [d3 k a1 a2, c3 k a1 a2]⟩
    · rw [pk_m1, c1, d1]
    · rw [nDC_last, Nat.zero_add]
      exact d2
theorem m_115 {σ : mS} (hx : x < 6) (hr : r < 4) (hn : n < 8) (hi : i ≤ n) (hH : H (147 + (4 * x + r)) = nI (n + 1)) :
    b_X10_delivers_115 (nI x) (nI (1179 + 16 * x)) (nI r) (nI i) (nI k) (nI (171 + 5 * (8 * (4 * x + r) + i))) (wM σ H O W b) = b_X10_delivers_20 (nI x) (nI (1179 + 16 * x)) (nI r) (nI i) (nI (k + 1)) (wM σ (nLeaves (upd (upd H (1275 + 9 * x + 7) (H (1275 + 9 * x + 7) + (H 1 - H (171 + 5 * (8 * (4 * x + r) + i) + 3) + nI 1))) (1275 + 9 * x + 8) (mx (H (1275 + 9 * x + 8)) (H 1 - H (171 + 5 * (8 * (4 * x + r) + i) + 3) + nI 1))) x r i n) O W b) := by
  rw [q_X10_delivers_115]
  simp (disch := omega) only [nI_add, nI_clamp, ck2, if_false, wM_N, m_had, bdV, pk_mul, wM_stN, upd_n]
  have := m_leaves (σ := σ) (O := O) (W := W) (b := b) (N := upd (upd H (1275 + 9 * x + 7) (H (1275 + 9 * x + 7) + (H 1 - H (171 + 5 * (8 * (4 * x + r) + i) + 3) + nI 1))) (1275 + 9 * x + 8) (mx (H (1275 + 9 * x + 8)) (H 1 - H (171 + 5 * (8 * (4 * x + r) + i) + 3) + nI 1))) hx hr hn hi (by rw [upd_n (by omega), upd_n (by omega)]; exact hH)
  unfold mx at this ⊢
  rw [this]
  dsimp only
  rw [nI_1]
theorem m_op {σ : mS} (hx : x < 6) (hr : r < 4) (hn : n < 8) (hi : i ≤ n) (hF : F (147 + (4 * x + r)) = nI (n + 1)) (hh : F (1179 + 16 * x + 3) = nI h) (hk : k < h) (hh4 : h ≤ 4) (hw : F (1179 + 16 * x + 6) = nI w) :
    b_X10_delivers_20 (nI x) (nI (1179 + 16 * x)) (nI r) (nI i) (nI k) (wM σ F O W b) = b_X10_delivers_20 (nI x) (nI (1179 + 16 * x)) (nI r) (nI (i + 1 - @ite _ (kpt F x r i (sn (nI w) k)) (Classical.propDecidable _) 0 1)) (nI (k + 1)) (wM σ (opx x r i (sn (nI w) k) F) O W b) := by
  have hz : szq F x r - 1 = n := by unfold szq; rw [hF, nI_clamp (by omega)]; omega
  have hm8 : szq F x r - 1 < 8 := by omega
  rw [q_X10_delivers_20]
  rw [nI_add (1179 + 16 * x) 3, nI_clamp (n := 1179 + 16 * x + 3) (by omega), if_neg (ckn (by omega) (by omega)), wM_N, hh, if_pos (nI_lt hk (by omega)), r_frameAt]
  dsimp only [bdI]
  rw [nI_add (1179 + 16 * x) 6, nI_clamp (n := 1179 + 16 * x + 6) (by omega), if_neg (ckn (by omega) (by omega)), wM_N, hw, m_has]
  dsimp only
  by_cases k1 : sn (nI w) k
  · have kk : ¬ kpt F x r i (sn (nI w) k) := fun g => g.1 k1
    rw [if_bI k1, if_neg kk, opx_W hx hr hm8 k1, hz, Nat.add_sub_cancel, ← lv_hi gW_id hx hr hn, gW_upd hx]
    simp (disch := omega) only [nI_add, nI_clamp, ck2, if_false, wM_N, m_had, bdV, wM_stN, upd_n]
    have e4 : F (fq x r i + 4) = F (171 + 5 * (8 * (4 * x + r) + i) + 4) := rfl
    have e1 : F (fq x r i + 1) = F (171 + 5 * (8 * (4 * x + r) + i) + 1) := rfl
    have et : tkn F x r i = F 1 - F (171 + 5 * (8 * (4 * x + r) + i) + 3) + nI 1 := rfl
    rw [e4, e1, et]
    by_cases k2 : F (171 + 5 * (8 * (4 * x + r) + i) + 4) = nI 1
    · rw [if_pos k2, if_pos k2, m_115 hx hr hn hi (by rw [upd_n (by omega), upd_n (by omega), upd_n (by omega), upd_n (by omega)]; exact hF)]
      simp (disch := omega) only [upd_n]
      congr 2
      rw [upd_c (k := 1336) (j := 1340) (by omega), upd_c (k := 1336) (j := 1275 + 9 * x + 7) (by omega), upd_c (k := 1336) (j := 1275 + 9 * x + 8) (by omega), upd_c (k := 1340) (j := 1275 + 9 * x + 7) (by omega), upd_c (k := 1340) (j := 1275 + 9 * x + 8) (by omega)]
    · rw [if_neg k2, if_neg k2, m_115 hx hr hn hi (by rw [upd_n (by omega), upd_n (by omega), upd_n (by omega)]; exact hF)]
      simp (disch := omega) only [upd_n]
      congr 2
      rw [upd_c (k := 1336) (j := 1275 + 9 * x + 7) (by omega), upd_c (k := 1336) (j := 1275 + 9 * x + 8) (by omega)]
      congr 2
      refine (upd_idv ?_).symm
      rw [upd_n (by omega), upd_n (by omega), upd_n (by omega), upd_n (by omega)]
  · rw [if_nbI k1]
    simp (disch := omega) only [nI_add, nI_clamp, ck2, if_false, wM_N, wM_stN, upd_e, upd_n]
    by_cases k2 : F (171 + 5 * (8 * (4 * x + r) + i) + 2) + nI 1 < F 4
    · have kk : kpt F x r i (sn (nI w) k) := ⟨k1, k2⟩
      rw [if_pos k2, if_pos kk, opx_K k1 k2, nI_1, nI_1]
      rfl
    · have kk : ¬ kpt F x r i (sn (nI w) k) := fun g => k2 g.2
      rw [if_neg k2, if_neg kk, opx_L hx hr hm8 k1 k2, hz, Nat.add_sub_cancel, nI_1]
      have := m_isLost (σ := σ) (O := O) (W := W) (b := b) (N := nTry F (171 + 5 * (8 * (4 * x + r) + i))) hx hr hn hi (by unfold nTry; rw [upd_n (by omega)]; exact hF)
      rw [show upd F (171 + 5 * (8 * (4 * x + r) + i) + 2) (F (171 + 5 * (8 * (4 * x + r) + i) + 2) + nI 1) = nTry F (171 + 5 * (8 * (4 * x + r) + i)) from rfl, this, gL_upd hx]
      rfl
theorem opx_ex {w1 : Prop} (hx : x < 6) (hr : r < 4) (hi : i < 8) (hm : szq F x r - 1 < 8) (hk : 1179 ≤ k ∧ k < 1275) : opx x r i w1 F k = F k := by
  have := opx_u (F := F) (v := F k) (j := k) (i := i) (w1 := w1) hx hr hi hm hk
  rw [upd_id] at this
  rw [this, upd_e rfl]
theorem m_del {σ : mS} (hx : x < 6) (hr : r < 4) (hh4 : h ≤ 4) : ∀ (d i k : Nat) (F : Nat → Int32), k + d = h → (∃ n, n ≤ 8 ∧ i + d ≤ n ∧ F (147 + (4 * x + r)) = nI n) → F (1179 + 16 * x + 3) = nI h → F (1179 + 16 * x + 6) = nI w →
    ∃ i', b_X10_delivers_20 (nI x) (nI (1179 + 16 * x)) (nI r) (nI i) (nI k) (wM σ F O W b) = b_X10_delivers_20 (nI x) (nI (1179 + 16 * x)) (nI r) (nI i') (nI h) (wM σ (nDR x r (fun k => sn (nI w) k) d i k F) O W b)
  | 0, i, k, F, hkd, _, _, _ => ⟨i, by rw [show k = h from by omega]; rfl⟩
  | d + 1, i, k, F, hkd, ⟨n, h1, h2, h3⟩, hh, hw => by
    obtain ⟨n', rfl⟩ : ∃ n', n = n' + 1 := ⟨n - 1, by omega⟩
    have hz : szq F x r = n' + 1 := by unfold szq; rw [h3, nI_clamp (by omega)]
    have hs := opx_sz (F := F) (i := i) (wb := sn (nI w) k) hx hr (by omega) (by omega)
    obtain ⟨m, m1, m2, m3⟩ := opx_szc (w1 := sn (nI w) k) hx hr (show i ≤ n' by omega) (by omega) h3
    have hsm : szq (opx x r i (sn (nI w) k) F) x r = m := by
      show (opx x r i (sn (nI w) k) F (147 + (4 * x + r))).toNatClampNeg = m
      rw [m3, nI_clamp (by omega)]
    have hq : @ite Nat (kpt F x r i (sn (nI w) k)) (Classical.propDecidable _) 0 1 ≤ 1 := by split <;> omega
    obtain ⟨i', e⟩ := m_del (σ := σ) hx hr hh4 d (i + 1 - @ite _ (kpt F x r i (sn (nI w) k)) (Classical.propDecidable _) 0 1) (k + 1) (opx x r i (sn (nI w) k) F) (by omega) ⟨m, by omega, by omega, m3⟩ (by rw [opx_ex hx hr (by omega) (by omega) (by omega)]; exact hh) (by rw [opx_ex hx hr (by omega) (by omega) (by omega)]; exact hw)
    exact ⟨i', by rw [m_op (n := n') hx hr (by omega) (by omega) h3 hh (by omega) hh4 hw, e]; rfl⟩
/-- luck, and what it brings -/
def nLuck (N : Nat → Int32) (x y : Nat) : Nat → Int32 := if N (87 + 6 * x + y) + nI 1 < nI 3 then upd N (87 + 6 * x + y) (N (87 + 6 * x + y) + nI 1) else upd (upd (upd N (87 + 6 * x + y) (N (87 + 6 * x + y) + nI 1)) (51 + 6 * x + y) (if N (51 + 6 * x + y) + nI 1 < nI 3 then N (51 + 6 * x + y) + nI 1 else nI 3)) (87 + 6 * x + y) (nI 0)
def nAns (D : Nat → Int32) (x r y : Nat) : Nat → Int32 := nLuck (nDraws (upd (upd D (1179 + 16 * x) (nI 0)) (1131 + (4 * x + r)) (D (9 + r))) x r) x y
theorem m_del_end {σ : mS} {L : Nat} (hx : x < 6) (hy : y < 6) (hr : r < 4) (hh4 : h ≤ 4) (hh : F (1179 + 16 * x + 3) = nI h) (hyF : F (1179 + 16 * x + 1) = nI y) (hL : F (9 + r) = nI L) (hL2 : L ≤ 63) : b_X10_delivers_20 (nI x) (nI (1179 + 16 * x)) (nI r) (nI i) (nI h) (wM σ F O W b) = some (some none, wM σ (nAns F x r y) O W b) := by
  have hd : nDraws (upd (upd F (1179 + 16 * x) (nI 0)) (1131 + (4 * x + r)) (F (9 + r))) x r (1179 + 16 * x + 1) = nI y := by
    unfold nDraws nDraw
    rw [upd_n (by omega), upd_n (by omega), upd_n (by omega), upd_n (by omega), hyF]
  rw [q_X10_delivers_20]
  rw [nI_add (1179 + 16 * x) 3, nI_clamp (n := 1179 + 16 * x + 3) (by omega), if_neg (ckn (by omega) (by omega)), wM_N, hh, if_neg (nI_nlt (by omega) (by omega))]
  rw [nI_add (1179 + 16 * x) 0, Nat.add_zero, nI_clamp (n := 1179 + 16 * x) (by omega), if_neg (ckn (by omega) (by omega)), wM_stN]
  dsimp only
  rw [r_at]
  dsimp only [bdI]
  rw [nI_add 9 r, nI_clamp (n := 9 + r) (by omega), if_neg (ckn (by omega) (by omega)), nI_add 1131 (4 * x + r), nI_clamp (n := 1131 + (4 * x + r)) (by omega), if_neg (ckn (by omega) (by omega)), wM_N, wM_stN, upd_n (show 9 + r ≠ 1179 + 16 * x from by omega)]
  rw [m_drawsCount hx hr (by rw [upd_e rfl, hL]; exact (lt1 hL2).2)]
  dsimp only [bdV]
  unfold nAns nLuck
  generalize nDraws (upd (upd F (1179 + 16 * x) (nI 0)) (1131 + (4 * x + r)) (F (9 + r))) x r = D at hd ⊢
  have e1 : 87 + (6 * x + y) = 87 + 6 * x + y := by omega
  have e2 : 51 + (6 * x + y) = 51 + 6 * x + y := by omega
  simp (disch := omega) only [wM_N, hd, pk_mul, nI_add, nI_clamp, ck2, if_false, wM_stN, upd_e, upd_n, e1, e2]
  split <;> rfl
theorem c_del_end {a L : Nat} {σ : mS} (hx : x < 6) (hr : r < 4) (hrC : C (1179 + 16 * x + 2) = nI r) (hL : C (9 + r) = nI L) (hL2 : L ≤ 63) : b_X0_deliver_26 a a x a x a x r (-1) (wC a σ C) = some (some none, wC a σ (nDraws (upd C (1131 + (4 * x + r)) (C (9 + r))) x r)) := by
  rw [q_X0_deliver_26, if_pos (by decide), rC_ofRank hx, hrC, nI_add, nI_clamp (by omega), if_neg (ckn (by omega) (by omega)), rC_set (by omega), show 2 + (7 + r) = 9 + r from by omega, sC_window hx hr]
  dsimp only
  rw [rC_window hx hr, upd_e rfl, hL, c_draw (lt1 hL2).1 (lt1 hL2).2]
  dsimp only [bdI]
  rw [sC_count hx hr]
  unfold nDraws
  rw [upd_e rfl]
theorem Rl.luck (hR : Rl M C N P Q) (hM : M ≤ 6) (hx : x < M) (hy : y < 6) : Rl M (nLuck C x y) (nLuck N x y) P Q := by
  unfold nLuck
  rw [hR.pl (pd_lk hM hx hy), hR.pl (pd_rt hM hx hy)]
  split
  · exact hR.u hM (Or.inr (Or.inl (by omega)))
  · exact ((hR.u hM (Or.inr (Or.inl (by omega)))).u hM (Or.inr (Or.inl (by omega)))).u hM (Or.inr (Or.inl (by omega)))
end AN

/-! Frames delivered: from the first, from the last; one step of each side -/
section DW
variable {M x y s r i j n m k d h w : Nat} {F G N C P Q O W : Nat → Int32} {v u t : Int32} {b : Int32} {wb : Nat → Prop}
noncomputable def nDC (s r : Nat) (wb : Nat → Prop) : Nat → Nat → Nat → (Nat → Int32) → (Nat → Int32)
  | 0, _, _, F => F
  | d + 1, i, k, F => opx s r i (wb k) (nDC s r wb d (i + 1) (k + 1) F)
noncomputable def nDR (s r : Nat) (wb : Nat → Prop) : Nat → Nat → Nat → (Nat → Int32) → (Nat → Int32)
  | 0, _, _, F => F
  | d + 1, i, k, F => nDR s r wb d (i + 1 - @ite _ (kpt F s r i (wb k)) (Classical.propDecidable _) 0 1) (k + 1) (opx s r i (wb k) F)
theorem opx_sz2 {w1 : Prop} (hs : s < 6) (hr : r < 4) (hi : i < szq F s r) (hm : szq F s r ≤ 8) : szq F s r - 1 ≤ szq (opx s r i w1 F) s r ∧ szq (opx s r i w1 F) s r ≤ szq F s r := by
  rw [opx_sz hs hr (by omega) (by omega)]
  split <;> omega
theorem nDC_sz (hs : s < 6) (hr : r < 4) (hm : szq F s r ≤ 8) : ∀ d i k, i + d ≤ szq F s r → szq F s r - d ≤ szq (nDC s r wb d i k F) s r ∧ szq (nDC s r wb d i k F) s r ≤ szq F s r
  | 0, _, _, _ => ⟨Nat.sub_le _ _, Nat.le_refl _⟩
  | d + 1, i, k, hd => by
    have ih := nDC_sz hs hr hm d (i + 1) (k + 1) (by omega)
    have := opx_sz2 (F := nDC s r wb d (i + 1) (k + 1) F) (i := i) (w1 := wb k) hs hr (by omega) (by omega)
    unfold nDC
    omega
theorem nDC_fr (hs : s < 6) (hr : r < 4) (hm : szq F s r ≤ 8) {f : Nat} (hf : f < 5) : ∀ d j k, i < j → j + d ≤ szq F s r → nDC s r wb d j k F (fq s r i + f) = F (fq s r i + f)
  | 0, _, _, _, _ => rfl
  | d + 1, j, k, hij, hd => by
    unfold nDC
    rw [opx_fr hs hr hij hf (by omega), nDC_fr hs hr hm hf d (j + 1) (k + 1) (by omega) (by omega)]
theorem nDC_lo (hs : s < 6) (hr : r < 4) (hm : szq F s r ≤ 8) (hk : m < 147 ∨ (147 ≤ m ∧ m < 1131 ∧ m ≠ 147 + (4 * s + r) ∧ (m < 171 + 40 * (4 * s + r) ∨ 171 + 40 * (4 * s + r) + 40 ≤ m))) : ∀ d i k, i + d ≤ szq F s r → nDC s r wb d i k F m = F m
  | 0, _, _, _ => rfl
  | d + 1, i, k, hd => by
    have := nDC_sz (wb := wb) hs hr hm d (i + 1) (k + 1) (by omega)
    unfold nDC
    rw [opx_lo hs hr (by omega) hk (by omega), nDC_lo hs hr hm hk d (i + 1) (k + 1) (by omega)]
theorem Gq.dc (hs : s < 6) (hr : r < 4) (hm : szq F s r ≤ 8) (hg : Gq s r F G) : ∀ d i k, i + d ≤ szq F s r → Gq s r (nDC s r wb d i k F) (nDC s r wb d i k G)
  | 0, _, _, _ => hg
  | d + 1, i, k, hd => by
    have := nDC_sz (wb := wb) hs hr hm d (i + 1) (k + 1) (by omega)
    exact (Gq.dc hs hr hm hg d (i + 1) (k + 1) (by omega)).op hs hr (by omega) (by omega)
theorem dc_swap {wi : Prop} (hs : s < 6) (hr : r < 4) (hm : szq F s r ≤ 8) : ∀ d j k, i < j → j + d ≤ szq F s r → Gq s r (opx s r i wi (nDC s r wb d j k F)) (nDC s r wb d (j - @ite _ (kpt F s r i wi) (Classical.propDecidable _) 0 1) k (opx s r i wi F))
  | 0, _, _, _, _ => Gq.rfl'
  | d + 1, j, k, hij, hd => by
    have hz := nDC_sz (wb := wb) hs hr hm d (j + 1) (k + 1) (by omega)
    have hkp : kpt (nDC s r wb d (j + 1) (k + 1) F) s r i wi ↔ kpt F s r i wi := by
      unfold kpt
      rw [nDC_fr hs hr hm (by omega) d (j + 1) (k + 1) (by omega) (by omega), nDC_lo hs hr hm (by omega) d (j + 1) (k + 1) (by omega)]
    have h1 := op2 (F := nDC s r wb d (j + 1) (k + 1) F) (wi := wi) (wj := wb k) hs hr hij (by omega) (by omega)
    have eq1 : @ite _ (kpt (nDC s r wb d (j + 1) (k + 1) F) s r i wi) (Classical.propDecidable _) 0 1 = @ite _ (kpt F s r i wi) (Classical.propDecidable _) 0 1 := by
      by_cases q : kpt F s r i wi
      · rw [if_pos q, if_pos (hkp.mpr q)]
      · rw [if_neg q, if_neg (fun g => q (hkp.mp g))]
    rw [eq1] at h1
    have hq : @ite Nat (kpt F s r i wi) (Classical.propDecidable _) 0 1 ≤ 1 := by split <;> omega
    have ih := dc_swap (wi := wi) hs hr hm d (j + 1) (k + 1) (by omega) (by omega)
    have hz2 := opx_sz (F := nDC s r wb d (j + 1) (k + 1) F) (i := i) (wb := wi) hs hr (by omega) (by omega)
    rw [eq1] at hz2
    refine h1.tr ?_ hs hr
    have := ih.op (wb := wb k) (i := j - @ite _ (kpt F s r i wi) (Classical.propDecidable _) 0 1) hs hr (by omega) (by omega)
    refine this.tr ?_ hs hr
    show Gq s r _ (opx s r (j - @ite _ (kpt F s r i wi) (Classical.propDecidable _) 0 1) (wb k) (nDC s r wb d (j - @ite _ (kpt F s r i wi) (Classical.propDecidable _) 0 1 + 1) (k + 1) (opx s r i wi F)))
    rw [show j + 1 - @ite Nat (kpt F s r i wi) (Classical.propDecidable _) 0 1 = j - @ite Nat (kpt F s r i wi) (Classical.propDecidable _) 0 1 + 1 from by omega]
    exact Gq.rfl'
theorem dr_dc (hs : s < 6) (hr : r < 4) : ∀ (d i k : Nat) (F : Nat → Int32), szq F s r ≤ 8 → i + d ≤ szq F s r → Gq s r (nDC s r wb d i k F) (nDR s r wb d i k F)
  | 0, _, _, _, _, _ => Gq.rfl'
  | d + 1, i, k, F, hm, hd => by
    have h1 := dc_swap (F := F) (wb := wb) (wi := wb k) (i := i) hs hr hm d (i + 1) (k + 1) (by omega) (by omega)
    have hz := opx_sz (F := F) (i := i) (wb := wb k) hs hr (by omega) (by omega)
    have hq : @ite Nat (kpt F s r i (wb k)) (Classical.propDecidable _) 0 1 ≤ 1 := by split <;> omega
    have ih := dr_dc hs hr d (i + 1 - @ite _ (kpt F s r i (wb k)) (Classical.propDecidable _) 0 1) (k + 1) (opx s r i (wb k) F) (by omega) (by omega)
    exact h1.tr ih hs hr
theorem nDC_last : ∀ (d i k : Nat) (F : Nat → Int32), nDC s r wb (d + 1) i k F = nDC s r wb d i k (opx s r (i + d) (wb (k + d)) F)
  | 0, _, _, _ => rfl
  | d + 1, i, k, F => by
    show opx s r i (wb k) (nDC s r wb (d + 1) (i + 1) (k + 1) F) = opx s r i (wb k) (nDC s r wb d (i + 1) (k + 1) (opx s r (i + (d + 1)) (wb (k + (d + 1))) F))
    rw [nDC_last d (i + 1) (k + 1) F, show i + 1 + d = i + (d + 1) from by omega, show k + 1 + d = k + (d + 1) from by omega]
theorem opx_u {w1 : Prop} (hs : s < 6) (hr : r < 4) (hi : i < 8) (hm : szq F s r - 1 < 8) (hj : 1179 ≤ j ∧ j < 1275) : opx s r i w1 (upd F j v) = upd (opx s r i w1 F) j v := by
  have hz : szq (upd F j v) s r = szq F s r := by unfold szq; rw [upd_n (by omega)]
  have hf : ∀ f, f < 5 → upd F j v (fq s r i + f) = F (fq s r i + f) := fun f hf => upd_n (by unfold fq; omega)
  have h4 : upd F j v 4 = F 4 := upd_n (by omega)
  have h1 : upd F j v 1 = F 1 := upd_n (by omega)
  have ht : tkn (upd F j v) s r i = tkn F s r i := by unfold tkn; rw [h1, hf 3 (by omega)]
  have hg : ∀ (g : Nat → Int32 → Int32) (H : Nat → Int32), (∀ z, g j z = z) → hiM g (upd H j v) = upd (hiM g H) j v := fun g H hgj => by
    funext k
    unfold hiM
    by_cases q : k = j
    · rw [upd_e q, upd_e q, q, hgj]
    · rw [upd_n q, upd_n q]
  have hty : ∀ H : Nat → Int32, nTry (upd H j v) (171 + 5 * (8 * (4 * s + r) + i)) = upd (nTry H (171 + 5 * (8 * (4 * s + r) + i))) j v := fun H => by
    unfold nTry
    rw [upd_n (by omega), upd_c (by omega)]
  by_cases k1 : w1
  · rw [opx_W hs hr (by rw [hz]; exact hm) k1, opx_W hs hr hm k1, hz, hf 1 (by omega), hf 4 (by omega), ht, nLeaves_u hs hr hm (by omega), hg _ _ (fun z => gW_no (by omega) z)]
  · by_cases k2 : F (fq s r i + 2) + nI 1 < F 4
    · rw [opx_K k1 (by rw [hf 2 (by omega), h4]; exact k2), opx_K k1 k2, hty]
    · rw [opx_L hs hr (by rw [hz]; exact hm) k1 (by rw [hf 2 (by omega), h4]; exact k2), opx_L hs hr hm k1 k2, hz, hty, nLeaves_u hs hr hm (by omega), hg _ _ (fun z => gL_no (by omega) z)]
theorem nDC_u (hs : s < 6) (hr : r < 4) (hm : szq F s r ≤ 8) (hj : 1179 ≤ j ∧ j < 1275) : ∀ d i k, i + d ≤ szq F s r → nDC s r wb d i k (upd F j v) = upd (nDC s r wb d i k F) j v
  | 0, _, _, _ => rfl
  | d + 1, i, k, hd => by
    have := nDC_sz (wb := wb) hs hr hm d (i + 1) (k + 1) (by omega)
    unfold nDC
    rw [nDC_u hs hr hm hj d (i + 1) (k + 1) (by omega), opx_u hs hr (by omega) (by omega) hj]
theorem Rl.gq (hR : Rl M C F P Q) (hg : Gq s r F G) (hM : M ≤ 6) (hs : s < M) (hr : r < 4) : Rl M C G P Q := by
  obtain ⟨h1, h2, h3, h4, h5⟩ := hR
  refine ⟨h1.mono fun k hk => Or.inr ⟨rfl, ?_⟩, h2.mono hM (fun _ _ => rfl) (fun k a c => (hg.1 k (by omega)).symm), fun z t m j hz ht hm hN hj => ?_, h4.mono hM (fun _ _ _ => rfl) (fun k a c => (hg.1 k (by omega)).symm), h5⟩
  · have := pd_where hk
    exact (hg.1 k (by omega)).symm
  · rw [← hg.1 _ (by omega)] at hN
    rw [h3 z t m j hz ht hm hN hj]
    by_cases e : z = s ∧ t = r
    · obtain ⟨rfl, rfl⟩ := e
      have hsz : szq F z t = m := by unfold szq; rw [hN, nI_clamp (by omega)]
      exact hg.2 j (by rw [hsz]; exact hj)
    · have : 4 * z + t ≠ 4 * s + r := fun q => e ⟨by omega, by omega⟩
      exact hg.1 _ (by omega)
theorem gW_upd {mk : Int32} (hs : s < 6) : hiM (gW s u t mk) F = upd (upd (upd (upd (upd (upd F (1275 + 9 * s + 0) (F (1275 + 9 * s + 0) + nI 1)) (1275 + 9 * s + 1) (F (1275 + 9 * s + 1) + u)) (1275 + 9 * s + 7) (F (1275 + 9 * s + 7) + t)) (1275 + 9 * s + 8) (mx (F (1275 + 9 * s + 8)) t)) 1340 (if mk = nI 1 then nI 1 else F 1340)) 1336 (F 1336 + nI 1) := by
  funext k
  unfold hiM gW
  by_cases h1 : k = 1275 + 9 * s + 0
  · rw [if_pos h1, upd_n (by omega), upd_n (by omega), upd_n (by omega), upd_n (by omega), upd_n (by omega), upd_e h1, h1]
  · rw [if_neg h1]
    by_cases h2 : k = 1275 + 9 * s + 1
    · rw [if_pos h2, upd_n (by omega), upd_n (by omega), upd_n (by omega), upd_n (by omega), upd_e h2, h2]
    · rw [if_neg h2]
      by_cases h3 : k = 1336
      · rw [if_pos h3, upd_e h3, h3]
      · rw [if_neg h3, upd_n h3]
        by_cases h4 : k = 1340
        · rw [if_pos h4, upd_e h4, h4]
        · rw [if_neg h4, upd_n h4]
          by_cases h5 : k = 1275 + 9 * s + 7
          · rw [if_pos h5, upd_n (by omega), upd_e h5, h5]
          · rw [if_neg h5]
            by_cases h6 : k = 1275 + 9 * s + 8
            · rw [if_pos h6, upd_e h6, h6]
            · rw [if_neg h6, upd_n h6, upd_n h5, upd_n h2, upd_n h1]
theorem gL_upd (hs : s < 6) : hiM (gL s) F = upd (upd F (1275 + 9 * s + 2) (F (1275 + 9 * s + 2) + nI 1)) 1337 (F 1337 + nI 1) := by
  funext k
  unfold hiM gL
  by_cases h1 : k = 1275 + 9 * s + 2
  · rw [if_pos h1, upd_n (by omega), upd_e h1, h1]
  · rw [if_neg h1]
    by_cases h2 : k = 1337
    · rw [if_pos h2, upd_e h2, h2]
    · rw [if_neg h2, upd_n h2, upd_n h1]
theorem mark_or {z : Int32} (h : z = nI 0 ∨ z = nI 1) : z ||| nI 1 = nI 1 := by
  rcases h with h | h <;> rw [h] <;> decide
/-- the class's look at one frame -/
theorem c_op {a : Nat} (hM : M ≤ 6) (hx : x < M) (hr : r < 4) (hR : Rl M C G P Q) (hG : G (147 + (4 * x + r)) = nI (n + 1)) (hn : n < 8) (hi : i ≤ n) (hw : C (1179 + 16 * x + 6) = nI w) (hmk : G 1340 = nI 0 ∨ G 1340 = nI 1) :
    ∃ C', (∀ σ, b_X0_deliver_26 a a x a x a x r (nI i) (wC a σ C) = b_X0_deliver_26 a a x a x a x r (nI i + (-1)) (wC a σ C')) ∧ Rl M C' (opx x r i (sn (nI w) i) G) P Q ∧ ∀ k, 1179 ≤ k → k < 1275 → C' k = C k := by
  have hCN : C (147 + (4 * x + r)) = nI (n + 1) := by rw [hR.pl (pd_sz hM hx hr), hG]
  have hf : ∀ f, f < 5 → C (171 + 5 * (8 * (4 * x + r) + i) + f) = G (171 + 5 * (8 * (4 * x + r) + i) + f) := fun f hf => hR.frv hx hr (by omega) hG (by omega) hf
  have hz : szq G x r - 1 = n := by unfold szq; rw [hG, nI_clamp (by omega)]; omega
  have hm8 : szq G x r - 1 < 8 := by omega
  have hlv : ∀ (H : Nat → Int32) k, 1179 ≤ k → k < 1275 → nLeaves H x r i n k = H k := fun H k a1 a2 => by rw [nlv_at, if_neg (by omega), if_neg (by omega)]
  by_cases k1 : sn (nI w) i
  · -- delivered
    have hT : C 1 - C (171 + 5 * (8 * (4 * x + r) + i) + 3) + nI 1 = tkn G x r i := by
      unfold tkn fq
      rw [hf 3 (by omega), hR.pl (pd_lo (k := 1) (by omega))]
    have hA : Rl M (upd (nHad C x (G (fq x r i + 1)) (tkn G x r i)) 1340 (if G (fq x r i + 4) = nI 1 then nI 1 else G 1340)) (hiM (gW x (G (fq x r i + 1)) (tkn G x r i) (G (fq x r i + 4))) G) P Q := by
      rw [gW_upd (by omega)]
      unfold nHad
      rw [hR.pl (pd_ty hM hx (i := 0) (by omega)), hR.pl (pd_ty hM hx (i := 1) (by omega)), hR.pl (pd_ty hM hx (i := 7) (by omega)), hR.pl (pd_ty hM hx (i := 8) (by omega))]
      exact (((((hR.u hM (Or.inr (Or.inr (Or.inr (by omega))))).u hM (Or.inr (Or.inr (Or.inr (by omega))))).u hM (Or.inr (Or.inr (Or.inr (by omega))))).u hM (Or.inr (Or.inr (Or.inr (by omega))))).u hM (Or.inr (Or.inr (Or.inr (by omega))))).uN hM (by omega)
    have hB := hA.lv (i := i) (n := n) hM hx hr hn (by rw [hiM_n gW_id (by omega)]; exact hG)
    refine ⟨nLeaves (upd (nHad C x (G (fq x r i + 1)) (tkn G x r i)) 1340 (if G (fq x r i + 4) = nI 1 then nI 1 else G 1340)) x r i n, fun σ => ?_, ?_, fun k a1 a2 => ?_⟩
    · have hsz : ∀ v, upd (nHad C x (G (fq x r i + 1)) (tkn G x r i)) 1340 v (147 + (4 * x + r)) = nI (n + 1) := fun v => by
        unfold nHad
        rw [upd_n (by omega), upd_n (by omega), upd_n (by omega), upd_n (by omega), upd_n (by omega), hCN]
      have h40 : C 1340 = G 1340 := hR.pl (pd_hi (by omega))
      have hh : nHad C x (G (fq x r i + 1)) (tkn G x r i) 1340 = G 1340 := by
        unfold nHad
        rw [upd_n (by omega), upd_n (by omega), upd_n (by omega), upd_n (by omega), h40]
      have h5 : nHad C x (G (fq x r i + 1)) (tkn G x r i) (147 + (4 * x + r)) = nI (n + 1) := by
        unfold nHad
        rw [upd_n (by omega), upd_n (by omega), upd_n (by omega), upd_n (by omega), hCN]
      have h6 : nHad C x (G (fq x r i + 1)) (tkn G x r i) (171 + 5 * (8 * (4 * x + r) + i) + 4) = G (fq x r i + 4) := by
        unfold nHad
        rw [upd_n (by omega), upd_n (by omega), upd_n (by omega), upd_n (by omega), hf 4 (by omega)]
        rfl
      rw [q_X0_deliver_26, if_neg (nI_pos (by omega)), rC_whole (by omega), hw, if_sn k1, c_fieldOf (by omega) hr (by omega) hCN (by omega) (by omega)]
      dsimp only [bdI]
      rw [c_fieldOf (by omega) hr (by omega) hCN (by omega) (by omega)]
      dsimp only
      rw [rC_time, hT, hf 1 (by omega), c_delivered (by omega)]
      dsimp only [bdV]
      rw [show G (171 + 5 * (8 * (4 * x + r) + i) + 1) = G (fq x r i + 1) from rfl, c_fieldOf (by omega) hr (by omega) h5 (by omega) (by omega)]
      dsimp only
      rw [h6, rC_marked, hh, mark_or hmk, or_0, sC_marked, sC_marked]
      by_cases k2 : G (fq x r i + 4) = nI 1
      · rw [if_pos k2, if_pos k2, if_pos o1, c_removeAt (by omega) hr hn (hsz _) hi]
      · have : G 1340 = 0 ∨ G 1340 = 1 := hmk
        rw [if_neg k2, if_neg k2, if_pos this, c_removeAt (by omega) hr hn (hsz _) hi]
    · rw [opx_W (by omega) hr hm8 k1, hz, ← lv_hi gW_id (by omega) hr hn]
      exact hB
    · rw [hlv _ k a1 a2]
      unfold nHad
      rw [upd_n (by omega), upd_n (by omega), upd_n (by omega), upd_n (by omega), upd_n (by omega)]
  · have hT : Rl M (nTry C (171 + 5 * (8 * (4 * x + r) + i))) (nTry G (171 + 5 * (8 * (4 * x + r) + i))) P Q := by
      unfold nTry
      rw [hf 2 (by omega)]
      exact hR.fr hM (by omega)
    have e4 : nTry C (171 + 5 * (8 * (4 * x + r) + i)) 4 = G 4 := (hT.pl (pd_lo (by omega))).trans (by unfold nTry; rw [upd_n (by omega)])
    by_cases k2 : G (fq x r i + 2) + nI 1 < G 4
    · refine ⟨nTry C (171 + 5 * (8 * (4 * x + r) + i)), fun σ => ?_, ?_, fun k a1 a2 => ?_⟩
      · rw [q_X0_deliver_26, if_neg (nI_pos (by omega)), rC_whole (by omega), hw, if_ns k1, c_tryAgain (by omega) hr (by omega) hCN (by omega)]
        dsimp only [bdI]
        rw [nI_clamp (by omega), if_neg (ckn (by omega) (by omega)), rC_set (by omega), show 2 + 2 = 4 from rfl, e4, hf 2 (by omega), if_pos (show G (171 + 5 * (8 * (4 * x + r) + i) + 2) + nI 1 < G 4 from k2)]
      · rw [opx_K k1 k2]; exact hT
      · unfold nTry; rw [upd_n (by omega)]
    · have hA : Rl M (upd (nTry C (171 + 5 * (8 * (4 * x + r) + i))) (1275 + 9 * x + 2) (nTry C (171 + 5 * (8 * (4 * x + r) + i)) (1275 + 9 * x + 2) + nI 1)) (hiM (gL x) (nTry G (171 + 5 * (8 * (4 * x + r) + i)))) P Q := by
        rw [gL_upd (by omega), hT.pl (pd_ty hM hx (by omega))]
        exact (hT.u hM (Or.inr (Or.inr (Or.inr (by omega))))).uN hM (by omega)
      have hB := hA.lv (i := i) (n := n) hM hx hr hn (by rw [hiM_n gL_id (by omega)]; unfold nTry; rw [upd_n (by omega)]; exact hG)
      refine ⟨nLeaves (upd (nTry C (171 + 5 * (8 * (4 * x + r) + i))) (1275 + 9 * x + 2) (nTry C (171 + 5 * (8 * (4 * x + r) + i)) (1275 + 9 * x + 2) + nI 1)) x r i n, fun σ => ?_, ?_, fun k a1 a2 => ?_⟩
      · rw [q_X0_deliver_26, if_neg (nI_pos (by omega)), rC_whole (by omega), hw, if_ns k1, c_tryAgain (by omega) hr (by omega) hCN (by omega)]
        dsimp only [bdI]
        rw [nI_clamp (by omega), if_neg (ckn (by omega) (by omega)), rC_set (by omega), show 2 + 2 = 4 from rfl, e4, hf 2 (by omega), if_neg (show ¬ G (171 + 5 * (8 * (4 * x + r) + i) + 2) + nI 1 < G 4 from k2), if_neg (ckn (by omega) (by omega)), rC_tally (by omega) (by omega), sC_tally (by omega) (by omega), c_removeAt (by omega) hr hn (by rw [upd_n (by omega)]; unfold nTry; rw [upd_n (by omega)]; exact hCN) hi]
        dsimp only [bdV]
        rw [if_neg (ckn (by omega) (by omega))]
      · rw [opx_L (by omega) hr hm8 k1 k2, hz, ← lv_hi gL_id (by omega) hr hn]
        exact hB
      · rw [hlv _ k a1 a2]
        unfold nTry
        rw [upd_n (by omega), upd_n (by omega)]
end DW

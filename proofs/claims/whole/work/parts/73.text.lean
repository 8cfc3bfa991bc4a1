/-! THE TEXT: sign, end -/
section TX
variable {M K K' s z r i n m k a b x t h w : Nat} {σ τ σ' σ1 σ2 : mS} {C D N N' C' O W P Q : Nat → Int32} {o : mO} {v p p1 p2 p3 p4 : Int32} {l : List Int64} {f g : mS → Option mR}
theorem JA.same (h : JA K σ) (hK : K ≤ K') (h24 : K' < 2 ^ 24) (e : ∀ o : mO, o.2.1 = 0 → aK o.1 → σ'.1 o = σ.1 o) (e30 : σ'.1 (30, 0, 0, 0) = σ.1 (30, 0, 0, 0)) : JA K' σ' := by
  obtain ⟨C, a1, a2⟩ := h
  exact ⟨C, a1.mono e, by rw [e30]; exact a2.le hK h24⟩
theorem JU.same (h : JU K σ) (hK : K ≤ K') (h24 : K' < 2 ^ 24) (e : ∀ o : mO, 4 ≤ o.2.1 → o.2.1 < 10 → aK o.1 → σ'.1 o = σ.1 o) (e5 : σ'.1 (5, 0, 0, 0) = σ.1 (5, 0, 0, 0)) (e17 : σ'.1 (10, 0, 0, 0) 17 = σ.1 (10, 0, 0, 0) 17) (e38 : σ'.1 (38, 0, 0, 0) = σ.1 (38, 0, 0, 0)) : JU K' σ' := by
  obtain ⟨sz, la, u1, u2, u3, u4, u5, u6⟩ := h
  refine ⟨sz, la, u1, u2, ?_, ?_, e17.trans u5, fun i hi => ?_⟩
  · rw [e5]; exact u3
  · rw [e5]; exact u4
  · obtain ⟨C, c1, c2⟩ := u6 i hi
    exact ⟨C, c1.mono fun o ho hk => e o (by omega) (by omega) hk, by rw [e38]; exact c2.le hK h24⟩
theorem JK.same (h : JK K σ) (hK : K ≤ K') (h24 : K' < 2 ^ 24) (e : ∀ o : mO, 2 ≤ o.2.1 → o.2.1 < 4 → aK o.1 → σ'.1 o = σ.1 o) (e22 : σ'.1 (22, 0, 0, 0) = σ.1 (22, 0, 0, 0)) (e41 : σ'.1 (41, 0, 0, 0) = σ.1 (41, 0, 0, 0)) (e40 : σ'.1 (40, 0, 0, 0) = σ.1 (40, 0, 0, 0)) : JK K' σ' := fun i hi => by
  rw [e22, e41]
  rcases h i hi with c | ⟨c1, c2, C, c3, c4⟩
  · exact Or.inl c
  · exact Or.inr ⟨c1, c2, C, c3.mono fun o ho hk => e o (by omega) (by omega) hk, by rw [e40]; exact c4.le hK h24⟩
theorem byte_eq {x y : Int32} (h : x.toInt % 256 = y.toInt % 256) : x.toInt8 = y.toInt8 := by
  apply Int8.toInt_inj.mp
  rw [Int32.toInt_toInt8, Int32.toInt_toInt8]
  have e : ∀ q : Int, q.bmod (2 ^ 8) = if q % 256 < 128 then q % 256 else q % 256 - 256 := fun q => by
    unfold Int.bmod
    rfl
  rw [e, e, h]
theorem byte_id (x : Int32) : x.toInt8.toInt32.toInt8.toInt32 = x.toInt8.toInt32 := by simp
theorem byte_of (v : Int32) (k : Nat) (hk : k = 0 ∨ k = 8 ∨ k = 16 ∨ k = 24) (s s' : Int32) (hs : (s.toBitVec.smod 32).toNat = k) (hs' : ((s'.toUInt32 &&& Int32.toUInt32 31).toBitVec % 32).toNat = k) : ∃ u, u < 256 ∧ (iushr v s') &&& nI 255 = nI u ∧ (v >>> s).toInt8.toInt32.toInt8.toInt32 = (nI u).toInt8.toInt32 := by
  refine ⟨v.toBitVec.toNat / 2 ^ k % 256, Nat.mod_lt _ (by omega), ?_, ?_⟩
  · rw [pk_and _ (m := nI 255) 8 (by decide)]
    congr 2
    exact pk_ushr v s' k hs'
  · rw [byte_id]
    congr 1
    apply byte_eq
    have h1 := pk_shr v s k hs
    have h2 : (nI (v.toBitVec.toNat / 2 ^ k % 256)).toInt = ((v.toBitVec.toNat / 2 ^ k % 256 : Nat) : Int) := nI_toInt (by have := Nat.mod_lt (v.toBitVec.toNat / 2 ^ k) (show 256 > 0 by omega); omega)
    have h3 : v.toInt = if 2 * v.toBitVec.toNat < 2 ^ 32 then (v.toBitVec.toNat : Int) else (v.toBitVec.toNat : Int) - ((2 ^ 32 : Nat) : Int) := BitVec.toInt_eq_toNat_cond v.toBitVec
    have h4 : v.toBitVec.toNat < 2 ^ 32 := v.toBitVec.isLt
    rw [h1, h2, Int.shiftRight_eq_div_pow, h3]
    rcases hk with rfl | rfl | rfl | rfl <;> split <;> omega
theorem o_end (hJ : J K σ) (hK : K ≤ K') (h24 : K' < 2 ^ 24) : Res K' (e_X9_end p) (e_X10_end p) σ := by
  obtain ⟨n, t1, t2, t3, t4⟩ := id hJ.2.2.2.1
  have e2 : ∀ τ : mS, τ.1 (10, 0, 0, 0) = σ.1 (10, 0, 0, 0) → (st τ (10, 0, 0, 0) 5 (nI 0)).1 (10, 0, 0, 0) 2 = nI n := fun τ hτ => by rw [st_self, upd_n (by decide), hτ]; exact t3
  by_cases h1 : isS (n + 1) p
  · have h1' := h1
    obtain ⟨i, hi, rfl⟩ := h1'
    have hf : e_X9_end (nI i) σ = some (some (some (.inl (nI 1))), st σ (7, 0, 0, 0) 1 (nI i)) := by
      rw [q_X9_end, q_X7_cutTo, if_neg (nI_pos (by omega)), t2, if_neg (nI_nlt (by omega) (by omega)), if_pos o1]
      dsimp only [bdI]
      rw [if_pos o1]
    have hg : e_X10_end (nI i) (st σ (7, 0, 0, 0) 1 (nI i)) = some (some (some (.inl (nI 1))), st (st (st σ (7, 0, 0, 0) 1 (nI i)) (10, 0, 0, 0) 5 (nI 0)) (10, 0, 0, 0) 2 (nI i)) := by
      rw [q_X10_end]
      dsimp only
      rw [e2 _ (by rw [st_ne (by decide)]), m_in, propext (in_S2 (by omega))]
      dsimp only [bdI]
      rw [if_bI h1, if_pos o1]
    refine ⟨nI 1, _, _, hf, hg, ?_⟩
    obtain ⟨j1, j2, j3, j4, j5, j6⟩ := id hJ
    have so : ∀ o : mO, o.1 ≠ 7 → o.1 ≠ 10 → (st (st (st σ (7, 0, 0, 0) 1 (nI i)) (10, 0, 0, 0) 5 (nI 0)) (10, 0, 0, 0) 2 (nI i)).1 o = σ.1 o := fun o g1 g2 => by
      rw [st_ne (fun e => g2 (by rw [e])), st_ne (fun e => g2 (by rw [e])), st_ne (fun e => g1 (by rw [e]))]
    refine ⟨j1.same hK h24 (fun o _ hk => so o (by unfold aK at hk; omega) (by unfold aK at hk; omega)) (so _ (by decide) (by decide)), j2.same hK h24 (fun o _ _ hk => so o (by unfold aK at hk; omega) (by unfold aK at hk; omega)) (so _ (by decide) (by decide)) ?_ (so _ (by decide) (by decide)), j3.same hK h24 (fun o _ _ hk => so o (by unfold aK at hk; omega) (by unfold aK at hk; omega)) (so _ (by decide) (by decide)) (so _ (by decide) (by decide)) (so _ (by decide) (by decide)), ⟨i, by omega, ?_, ?_, fun k hk => ?_⟩, j5.same ?_ ?_ rfl rfl, (Ev_gn hg).2 ((Ev_gn hf).2 j6)⟩
    · rw [st_self, upd_n (by decide), st_self, upd_n (by decide), st_ne (by decide)]
    · rw [st_ne (by decide), st_ne (by decide), st_self]; exact upd_s
    · rw [st_self]; exact upd_s
    · rw [so _ (by decide) (by decide), so _ (by decide) (by decide)]; exact t4 k (by omega)
    · rw [so _ (by decide) (by decide)]
    · rw [st_self, upd_n (by decide), st_self, upd_n (by decide), st_ne (by decide)]
  · refine fin0 (v := nI 0) hJ hK h24 (fun _ _ h => Ev_gn h) (fun _ _ h => Ev_gn h) ?_ ?_
    · rw [q_X9_end, q_X7_cutTo]
      rcases nS_cases (k := n) (by omega) h1 with h2 | h2
      · rw [if_pos h2, if_pos z1]
        dsimp only [bdI]
        rw [if_pos z1]
      · by_cases h3 : p < 0
        · rw [if_pos h3, if_pos z1]
          dsimp only [bdI]
          rw [if_pos z1]
        · rw [if_neg h3, t2, if_pos h2, if_pos z1]
          dsimp only [bdI]
          rw [if_pos z1]
    · rw [q_X10_end]
      dsimp only
      rw [e2 _ rfl, m_in, propext (in_S2 (by omega))]
      dsimp only [bdI]
      rw [if_nbI h1, if_pos z1]
theorem o_sign (hJ : J K σ) (hK : K ≤ K') (h24 : K' < 2 ^ 24) : Res K' (e_X9_sign p) (e_X10_sign p) σ := by
  obtain ⟨n, t1, t2, t3, t4⟩ := id hJ.2.2.2.1
  by_cases hn : n + 4 ≤ 80
  · obtain ⟨u0, a0, b0, c0'⟩ := byte_of p 24 (by omega) ((nI 8 * nI 3) &&& 31) (nI 24 - nI 8 * nI 0) (by decide) (by decide)
    obtain ⟨u1, a1, b1, c1⟩ := byte_of p 16 (by omega) ((nI 8 * nI 2) &&& 31) (nI 24 - nI 8 * nI 1) (by decide) (by decide)
    obtain ⟨u2, a2, b2, c2⟩ := byte_of p 8 (by omega) ((nI 8 * nI 1) &&& 31) (nI 24 - nI 8 * nI 2) (by decide) (by decide)
    obtain ⟨u3, a3, b3, c3⟩ := byte_of p 0 (by omega) ((nI 8 * nI 0) &&& 31) (nI 24 - nI 8 * nI 3) (by decide) (by decide)
    have cst : ∀ (σ : mS) (i u : Nat), σ.1 (7, 0, 0, 0) 1 = nI n → i < 4 → (iushr p (nI 24 - nI 8 * nI i)) &&& nI 255 = nI u → b_X7_addFour_22 p (nI i) σ = b_X7_addFour_22 p (nI (i + 1)) (st σ (23, 0, 0, 0) (n + i) (nI u)) := fun σ i u e hi hb => by
      rw [q_X7_addFour_22, if_pos (nI_lt hi (by omega)), e, nI_add, if_neg (nI_in (by omega) (by omega)), nI_clamp (by omega), hb, nI_1]
    have s7 : ∀ (σ : mS) (i : Nat) (v : Int32), (st σ (23, 0, 0, 0) i v).1 (7, 0, 0, 0) = σ.1 (7, 0, 0, 0) := fun σ i v => st_ne (by decide)
    have hf : e_X9_sign p σ = some (some (some (.inl (nI (n + 4)))), st (st (st (st (st σ (23, 0, 0, 0) (n + 0) (nI u0)) (23, 0, 0, 0) (n + 1) (nI u1)) (23, 0, 0, 0) (n + 2) (nI u2)) (23, 0, 0, 0) (n + 3) (nI u3)) (7, 0, 0, 0) 1 (nI (n + 4))) := by
      rw [q_X9_sign, q_X7_addFour, t2, if_neg (nI_pos (by omega)), nI_add, if_neg (nI_nlt (by omega) (by omega)), cst σ 0 u0 t2 (by omega) b0, cst _ 1 u1 (by rw [s7]; exact t2) (by omega) b1, cst _ 2 u2 (by rw [s7, s7]; exact t2) (by omega) b2, cst _ 3 u3 (by rw [s7, s7, s7]; exact t2) (by omega) b3, q_X7_addFour_22, if_neg (nI_nlt (by omega) (by omega)), s7, s7, s7, s7, t2, nI_add, if_pos o1]
      dsimp only [bdI]
      rw [if_neg n10, st_self, upd_s]
    have mst : ∀ (τ : mS) (i j u : Nat), τ.1 (10, 0, 0, 0) 2 = nI (n + i) → i < 4 → j < 4 → (p >>> ((nI 8 * nI j) &&& 31)).toInt8.toInt32.toInt8.toInt32 = (nI u).toInt8.toInt32 → b_X10_sign_20 p (nI j) τ = b_X10_sign_20 p (nI j + (-1)) (st (st τ (10, 0, 0, 0) 2 (nI (n + (i + 1)))) (31, 0, 0, 0) (n + i) (nI u).toInt8.toInt32) := fun τ i j u e hi hj hb => by
      rw [q_X10_sign_20, if_neg (nI_pos (by omega))]
      dsimp only
      rw [e, if_neg (nI_in (by omega) (by omega)), nI_clamp (by omega), hb, nI_add, Nat.add_assoc]
    have s2 : ∀ (τ : mS) (w : Int32) (i : Nat) (v : Int32), (st (st τ (10, 0, 0, 0) 2 w) (31, 0, 0, 0) i v).1 (10, 0, 0, 0) 2 = w := fun τ w i v => by rw [st_ne (by decide), st_self]; exact upd_s
    have hg : ∀ τ : mS, τ.1 (10, 0, 0, 0) = σ.1 (10, 0, 0, 0) → e_X10_sign p τ = some (some (some (.inl (nI (n + 4)))), st (st (st (st (st (st (st (st (st τ (10, 0, 0, 0) 5 (nI 0)) (10, 0, 0, 0) 2 (nI (n + (0 + 1)))) (31, 0, 0, 0) (n + 0) (nI u0).toInt8.toInt32) (10, 0, 0, 0) 2 (nI (n + (1 + 1)))) (31, 0, 0, 0) (n + 1) (nI u1).toInt8.toInt32) (10, 0, 0, 0) 2 (nI (n + (2 + 1)))) (31, 0, 0, 0) (n + 2) (nI u2).toInt8.toInt32) (10, 0, 0, 0) 2 (nI (n + (3 + 1)))) (31, 0, 0, 0) (n + 3) (nI u3).toInt8.toInt32) := fun τ hτ => by
      have e0 : (st τ (10, 0, 0, 0) 5 (nI 0)).1 (10, 0, 0, 0) 2 = nI (n + 0) := by rw [st_self, upd_n (by decide), hτ]; exact t3
      rw [q_X10_sign]
      dsimp only
      rw [e0, nI_add, if_neg (nI_nlt (by omega) (by omega)), mst _ 0 3 u0 e0 (by omega) (by omega) c0', show nI 3 + (-1) = nI 2 from by decide, mst _ 1 2 u1 (s2 _ _ _ _) (by omega) (by omega) c1, show nI 2 + (-1) = nI 1 from by decide, mst _ 2 1 u2 (s2 _ _ _ _) (by omega) (by omega) c2, show nI 1 + (-1) = nI 0 from by decide, mst _ 3 0 u3 (s2 _ _ _ _) (by omega) (by omega) c3, q_X10_sign_20, if_pos (by decide), s2]
    refine ⟨nI (n + 4), _, _, hf, hg _ (by rw [st_ne (by decide), st_ne (by decide), st_ne (by decide), st_ne (by decide), st_ne (by decide)]), ?_⟩
    have hb2 := (Ev_gn (hg (st (st (st (st (st σ (23, 0, 0, 0) (n + 0) (nI u0)) (23, 0, 0, 0) (n + 1) (nI u1)) (23, 0, 0, 0) (n + 2) (nI u2)) (23, 0, 0, 0) (n + 3) (nI u3)) (7, 0, 0, 0) 1 (nI (n + 4))) (by rw [st_ne (by decide), st_ne (by decide), st_ne (by decide), st_ne (by decide), st_ne (by decide)]))).2 ((Ev_gn hf).2 hJ.2.2.2.2.2)
    obtain ⟨j1, j2, j3, j4, j5, j6⟩ := id hJ
    have so : ∀ o : mO, o.1 ≠ 7 → o.1 ≠ 10 → o.1 ≠ 23 → o.1 ≠ 31 → (st (st (st (st (st (st (st (st (st (st (st (st (st (st σ (23, 0, 0, 0) (n + 0) (nI u0)) (23, 0, 0, 0) (n + 1) (nI u1)) (23, 0, 0, 0) (n + 2) (nI u2)) (23, 0, 0, 0) (n + 3) (nI u3)) (7, 0, 0, 0) 1 (nI (n + 4))) (10, 0, 0, 0) 5 (nI 0)) (10, 0, 0, 0) 2 (nI (n + (0 + 1)))) (31, 0, 0, 0) (n + 0) (nI u0).toInt8.toInt32) (10, 0, 0, 0) 2 (nI (n + (1 + 1)))) (31, 0, 0, 0) (n + 1) (nI u1).toInt8.toInt32) (10, 0, 0, 0) 2 (nI (n + (2 + 1)))) (31, 0, 0, 0) (n + 2) (nI u2).toInt8.toInt32) (10, 0, 0, 0) 2 (nI (n + (3 + 1)))) (31, 0, 0, 0) (n + 3) (nI u3).toInt8.toInt32).1 o = σ.1 o := fun o g1 g2 g3 g4 => by
      have e7 : o ≠ (7, 0, 0, 0) := fun e => g1 (by rw [e])
      have e10 : o ≠ (10, 0, 0, 0) := fun e => g2 (by rw [e])
      have e23 : o ≠ (23, 0, 0, 0) := fun e => g3 (by rw [e])
      have e31 : o ≠ (31, 0, 0, 0) := fun e => g4 (by rw [e])
      rw [st_ne e31, st_ne e10, st_ne e31, st_ne e10, st_ne e31, st_ne e10, st_ne e31, st_ne e10, st_ne e10, st_ne e7, st_ne e23, st_ne e23, st_ne e23, st_ne e23]
    have s10 : ∀ f, f ≠ 2 → f ≠ 5 → (st (st (st (st (st (st (st (st (st (st (st (st (st (st σ (23, 0, 0, 0) (n + 0) (nI u0)) (23, 0, 0, 0) (n + 1) (nI u1)) (23, 0, 0, 0) (n + 2) (nI u2)) (23, 0, 0, 0) (n + 3) (nI u3)) (7, 0, 0, 0) 1 (nI (n + 4))) (10, 0, 0, 0) 5 (nI 0)) (10, 0, 0, 0) 2 (nI (n + (0 + 1)))) (31, 0, 0, 0) (n + 0) (nI u0).toInt8.toInt32) (10, 0, 0, 0) 2 (nI (n + (1 + 1)))) (31, 0, 0, 0) (n + 1) (nI u1).toInt8.toInt32) (10, 0, 0, 0) 2 (nI (n + (2 + 1)))) (31, 0, 0, 0) (n + 2) (nI u2).toInt8.toInt32) (10, 0, 0, 0) 2 (nI (n + (3 + 1)))) (31, 0, 0, 0) (n + 3) (nI u3).toInt8.toInt32).1 (10, 0, 0, 0) f = σ.1 (10, 0, 0, 0) f := fun f g1 g2 => by
      rw [st_ne (by decide), st_self, upd_n g1, st_ne (by decide), st_self, upd_n g1, st_ne (by decide), st_self, upd_n g1, st_ne (by decide), st_self, upd_n g1, st_self, upd_n g2, st_ne (by decide), st_ne (by decide), st_ne (by decide), st_ne (by decide), st_ne (by decide)]
    refine ⟨j1.same hK h24 (fun o _ hk => so o (by unfold aK at hk; omega) (by unfold aK at hk; omega) (by unfold aK at hk; omega) (by unfold aK at hk; omega)) (so _ (by decide) (by decide) (by decide) (by decide)), j2.same hK h24 (fun o _ _ hk => so o (by unfold aK at hk; omega) (by unfold aK at hk; omega) (by unfold aK at hk; omega) (by unfold aK at hk; omega)) (so _ (by decide) (by decide) (by decide) (by decide)) (s10 _ (by decide) (by decide)) (so _ (by decide) (by decide) (by decide) (by decide)), j3.same hK h24 (fun o _ _ hk => so o (by unfold aK at hk; omega) (by unfold aK at hk; omega) (by unfold aK at hk; omega) (by unfold aK at hk; omega)) (so _ (by decide) (by decide) (by decide) (by decide)) (so _ (by decide) (by decide) (by decide) (by decide)) (so _ (by decide) (by decide) (by decide) (by decide)), ⟨n + 4, hn, ?_, ?_, fun k hk => ?_⟩, j5.same ?_ (s10 _ (by decide) (by decide)) rfl rfl, hb2⟩
    · rw [st_ne (by decide), st_ne (by decide), st_ne (by decide), st_ne (by decide), st_ne (by decide), st_ne (by decide), st_ne (by decide), st_ne (by decide), st_ne (by decide), st_self]
      exact upd_s
    · rw [st_ne (by decide), st_self]
      exact upd_s
    · have e23 : (st (st (st (st (st (st (st (st (st (st (st (st (st (st σ (23, 0, 0, 0) (n + 0) (nI u0)) (23, 0, 0, 0) (n + 1) (nI u1)) (23, 0, 0, 0) (n + 2) (nI u2)) (23, 0, 0, 0) (n + 3) (nI u3)) (7, 0, 0, 0) 1 (nI (n + 4))) (10, 0, 0, 0) 5 (nI 0)) (10, 0, 0, 0) 2 (nI (n + (0 + 1)))) (31, 0, 0, 0) (n + 0) (nI u0).toInt8.toInt32) (10, 0, 0, 0) 2 (nI (n + (1 + 1)))) (31, 0, 0, 0) (n + 1) (nI u1).toInt8.toInt32) (10, 0, 0, 0) 2 (nI (n + (2 + 1)))) (31, 0, 0, 0) (n + 2) (nI u2).toInt8.toInt32) (10, 0, 0, 0) 2 (nI (n + (3 + 1)))) (31, 0, 0, 0) (n + 3) (nI u3).toInt8.toInt32).1 (23, 0, 0, 0) = upd (upd (upd (upd (σ.1 (23, 0, 0, 0)) (n + 0) (nI u0)) (n + 1) (nI u1)) (n + 2) (nI u2)) (n + 3) (nI u3) := by
        rw [st_ne (by decide), st_ne (by decide), st_ne (by decide), st_ne (by decide), st_ne (by decide), st_ne (by decide), st_ne (by decide), st_ne (by decide), st_ne (by decide), st_ne (by decide), st_self, st_self, st_self, st_self]
      have e31 : (st (st (st (st (st (st (st (st (st (st (st (st (st (st σ (23, 0, 0, 0) (n + 0) (nI u0)) (23, 0, 0, 0) (n + 1) (nI u1)) (23, 0, 0, 0) (n + 2) (nI u2)) (23, 0, 0, 0) (n + 3) (nI u3)) (7, 0, 0, 0) 1 (nI (n + 4))) (10, 0, 0, 0) 5 (nI 0)) (10, 0, 0, 0) 2 (nI (n + (0 + 1)))) (31, 0, 0, 0) (n + 0) (nI u0).toInt8.toInt32) (10, 0, 0, 0) 2 (nI (n + (1 + 1)))) (31, 0, 0, 0) (n + 1) (nI u1).toInt8.toInt32) (10, 0, 0, 0) 2 (nI (n + (2 + 1)))) (31, 0, 0, 0) (n + 2) (nI u2).toInt8.toInt32) (10, 0, 0, 0) 2 (nI (n + (3 + 1)))) (31, 0, 0, 0) (n + 3) (nI u3).toInt8.toInt32).1 (31, 0, 0, 0) = upd (upd (upd (upd (σ.1 (31, 0, 0, 0)) (n + 0) (nI u0).toInt8.toInt32) (n + 1) (nI u1).toInt8.toInt32) (n + 2) (nI u2).toInt8.toInt32) (n + 3) (nI u3).toInt8.toInt32 := by
        rw [st_self, st_ne (by decide), st_self, st_ne (by decide), st_self, st_ne (by decide), st_self, st_ne (by decide), st_ne (by decide), st_ne (by decide), st_ne (by decide), st_ne (by decide), st_ne (by decide), st_ne (by decide)]
      rw [e23, e31]
      by_cases g3 : k = n + 3
      · rw [upd_e g3, upd_e g3]; exact ⟨u3, a3, rfl, rfl⟩
      rw [upd_n g3, upd_n g3]
      by_cases g2 : k = n + 2
      · rw [upd_e g2, upd_e g2]; exact ⟨u2, a2, rfl, rfl⟩
      rw [upd_n g2, upd_n g2]
      by_cases g1 : k = n + 1
      · rw [upd_e g1, upd_e g1]; exact ⟨u1, a1, rfl, rfl⟩
      rw [upd_n g1, upd_n g1]
      by_cases g0 : k = n + 0
      · rw [upd_e g0, upd_e g0]; exact ⟨u0, a0, rfl, rfl⟩
      rw [upd_n g0, upd_n g0]
      exact t4 k (by omega)
    · rw [so _ (by decide) (by decide) (by decide) (by decide)]
  · refine fin0 (v := -1) hJ hK h24 (fun _ _ h => Ev_gn h) (fun _ _ h => Ev_gn h) ?_ ?_
    · rw [q_X9_sign, q_X7_addFour, t2, if_neg (nI_pos (by omega)), nI_add, if_pos (nI_lt (by omega) (by omega)), if_pos z1]
      dsimp only [bdI]
      rw [if_pos n00]
    · rw [q_X10_sign]
      dsimp only
      rw [st_self, upd_n (by decide), t3, nI_add, if_pos (nI_lt (by omega) (by omega))]
end TX

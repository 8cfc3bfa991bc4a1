/-! Sums over stations, in both; count -/
section O3
variable {M K K' s z r i n m k a b x t : Nat} {σ τ σ' σ1 σ2 : mS} {C D N N' C' O W P Q : Nat → Int32} {o : mO} {v w p p1 p2 p3 : Int32} {l : List Int64} {f g : mS → Option mR}
def sW (F : Nat → Int32) : Nat → Int32
  | 0 => nI 0
  | n + 1 => sW F n + wt F n
def sX (F : Nat → Int32) : Nat → Int32
  | 0 => nI 0
  | n + 1 => sX F n + F (1179 + 16 * n)
theorem sW_c : ∀ n, (∀ s r, s < n → r < 4 → C (147 + (4 * s + r)) = N (147 + (4 * s + r))) → sW C n = sW N n
  | 0, _ => rfl
  | n + 1, h => by
    unfold sW
    rw [sW_c n (fun s r hs hr => h s r (by omega) hr), wt_c (fun r hr => h n r (by omega) hr)]
theorem sX_cnt : ∀ n, n ≤ M → (∀ s, s < M → EV M N s) → sX N n = nI (zcnt (fun s => N (1179 + 16 * s) = nI 1) n)
  | 0, _, _ => by unfold sX zcnt; rfl
  | n + 1, h, e => by
    unfold sX zcnt
    rw [sX_cnt n (by omega) e]
    rcases e n (by omega) with h1 | ⟨y, r, h', ph, c, q, w, p, h1⟩
    · rw [h1, if_neg n01, nI_add]
      rfl
    · rw [h1.1.1, if_pos rfl, nI_add]
theorem sumT_eq : ∀ n, n ≤ M → M ≤ 6 → RP M C N → t < 9 → sumT C t n = sumT N t n
  | 0, _, _, _, _ => rfl
  | n + 1, h, hM, e, ht => by
    unfold sumT
    rw [sumT_eq n (by omega) hM e ht, e _ (pd_ty hM (by omega) ht)]
theorem c_sum_from (hd : Hd a σ C) (h0 : C 0 = nI M) (hM : M ≤ 6) (ht : t < 9) : ∀ d i, i + d = M → b_X0_sumOf_4 a (nI t) (sumT C t i) (nI i) σ = some (some (some (.inl (sumT C t M))), σ)
  | 0, i, hi => by
    have : i = M := by omega
    subst this
    rw [q_X0_sumOf_4, hd.rd ix_many, h0, if_neg (nI_nlt (by omega) (by omega))]
  | d + 1, i, hi => by
    rw [q_X0_sumOf_4, hd.rd ix_many, h0, if_pos (nI_lt (by omega) (by omega)), if_neg (nI_in (by omega) (by omega)), if_neg (nI_in (by omega) (by omega)), nI_clamp (by omega), nI_clamp (by omega), hd.rd (ix_tally (by omega) ht), nI_1]
    exact c_sum_from hd h0 hM ht d (i + 1) (by omega)
theorem c_sumOf (hd : Hd a σ C) (hR : Rl M C N P Q) (hM : M ≤ 6) (hN0 : N 0 = nI M) (ht : t < 9) : e_X0_sumOf a (nI t) σ = some (some (some (.inl (sumT N t M))), σ) := by
  rw [q_X0_sumOf, ← sumT_eq M (Nat.le_refl _) hM hR.1 ht]
  exact c_sum_from hd ((hR.pl (pd_lo (by omega))).trans hN0) hM ht M 0 (by omega)
theorem c_wait_from (hd : Hd a σ C) (h0 : C 0 = nI M) (hM : M ≤ 6) : ∀ d i, i + d = M → b_X0_waiting_4 a (sW C i) (nI i) σ = some (some (some (.inl (sW C M))), σ)
  | 0, i, hi => by
    have : i = M := by omega
    subst this
    rw [q_X0_waiting_4, hd.rd ix_many, h0, if_neg (nI_nlt (by omega) (by omega))]
  | d + 1, i, hi => by
    have hw := c_swait (a := a) (s := i) (σ := σ) (C := C) (by omega)
    rw [show wC a σ C = σ from hd] at hw
    rw [q_X0_waiting_4, hd.rd ix_many, h0, if_pos (nI_lt (by omega) (by omega)), if_neg (nI_in (by omega) (by omega)), nI_clamp (by omega), hw]
    dsimp only [bdI]
    rw [nI_1]
    exact c_wait_from hd h0 hM d (i + 1) (by omega)
theorem c_allW (hd : Hd a σ C) (hR : Rl M C N P Q) (hM : M ≤ 6) (hN0 : N 0 = nI M) : e_X0_waiting a σ = some (some (some (.inl (sW N M))), σ) := by
  rw [q_X0_waiting, ← sW_c M (fun s r hs hr => hR.pl (pd_sz hM hs hr))]
  exact c_wait_from hd ((hR.pl (pd_lo (by omega))).trans hN0) hM M 0 (by omega)
theorem c_exOn_from (hd : Hd a σ C) (hR : Rl M C N P Q) (hM : M ≤ 6) (hN0 : N 0 = nI M) (hE : ∀ s, s < M → EV M N s) : ∀ d i, i + d = M → b_X0_exchangesOn_4 a (sX N i) (nI i) σ = some (some (some (.inl (sX N M))), σ)
  | 0, i, hi => by
    have : i = M := by omega
    subst this
    rw [q_X0_exchangesOn_4, hd.rd ix_many, hR.pl (pd_lo (by omega)), hN0, if_neg (nI_nlt (by omega) (by omega))]
  | d + 1, i, hi => by
    have ih := c_exOn_from hd hR hM hN0 hE d (i + 1) (by omega)
    rw [show sX N (i + 1) = sX N i + N (1179 + 16 * i) from rfl] at ih
    rw [q_X0_exchangesOn_4, hd.rd ix_many, hR.pl (pd_lo (by omega)), hN0, if_pos (nI_lt (by omega) (by omega)), if_neg (nI_in (by omega) (by omega)), nI_clamp (by omega), hd.rd (ix_on (by omega)), hR.on (by omega), nI_1]
    rcases hE i (by omega) with h1 | ⟨y, r, h', ph, c, q, w, p, h1⟩
    · rw [h1] at ih ⊢
      rw [if_pos n00]
      exact ih
    · rw [h1.1.1] at ih ⊢
      rw [if_neg n10]
      exact ih
theorem c_exOn (hd : Hd a σ C) (hR : Rl M C N P Q) (hM : M ≤ 6) (hN0 : N 0 = nI M) (hE : ∀ s, s < M → EV M N s) : e_X0_exchangesOn a σ = some (some (some (.inl (sX N M))), σ) := by
  rw [q_X0_exchangesOn]
  exact c_exOn_from hd hR hM hN0 hE M 0 (by omega)
theorem M_wait_from (hN0 : σ.1 (30, 0, 0, 0) 0 = nI M) (hM : M ≤ 6) : ∀ d i, i + d = M → b_X10_allWaiting_4 (sW (σ.1 (30, 0, 0, 0)) i) (nI i) σ = some (some (some (.inl (sW (σ.1 (30, 0, 0, 0)) M))), σ)
  | 0, i, hi => by
    have : i = M := by omega
    subst this
    rw [q_X10_allWaiting_4, if_neg c0, c0c, hN0, if_neg (nI_nlt (by omega) (by omega))]
  | d + 1, i, hi => by
    rw [q_X10_allWaiting_4, if_neg c0, c0c, hN0, if_pos (nI_lt (by omega) (by omega)), M_wt (by omega)]
    dsimp only [bdI]
    rw [nI_1]
    exact M_wait_from hN0 hM d (i + 1) (by omega)
theorem M_allW (hN0 : σ.1 (30, 0, 0, 0) 0 = nI M) (hM : M ≤ 6) : e_X10_allWaiting σ = some (some (some (.inl (sW (σ.1 (30, 0, 0, 0)) M))), σ) := by
  rw [q_X10_allWaiting]
  exact M_wait_from hN0 hM M 0 (by omega)
theorem M_ex_from (hN0 : σ.1 (30, 0, 0, 0) 0 = nI M) (hM : M ≤ 6) : ∀ d i, i + d = M → b_X10_exchanges_4 (sX (σ.1 (30, 0, 0, 0)) i) (nI i) σ = some (some (some (.inl (sX (σ.1 (30, 0, 0, 0)) M))), σ)
  | 0, i, hi => by
    have : i = M := by omega
    subst this
    rw [q_X10_exchanges_4, if_neg c0, c0c, hN0, if_neg (nI_nlt (by omega) (by omega))]
  | d + 1, i, hi => by
    rw [q_X10_exchanges_4, if_neg c0, c0c, hN0, if_pos (nI_lt (by omega) (by omega)), m_exAt]
    dsimp only [bdI]
    rw [nI_add, if_neg (nI_in (by omega) (by omega)), nI_clamp (by omega), nI_1, Nat.add_zero]
    exact M_ex_from hN0 hM d (i + 1) (by omega)
theorem M_ex (hN0 : σ.1 (30, 0, 0, 0) 0 = nI M) (hM : M ≤ 6) : e_X10_exchanges σ = some (some (some (.inl (sX (σ.1 (30, 0, 0, 0)) M))), σ) := by
  rw [q_X10_exchanges]
  exact M_ex_from hN0 hM M 0 (by omega)
theorem o_count (hJ : J K σ) (hK : K ≤ K') (h24 : K' < 2 ^ 24) : Res K' (e_X9_count p) (e_X10_count p) σ := by
  obtain ⟨C, M, hd, hV, hR⟩ := jget hJ
  have hM := hV.1.2.1
  have hN0 := hV.1.1
  have h0 : C 0 = nI M := (hR.pl (pd_lo (by omega))).trans hN0
  obtain ⟨-, ⟨sz, la, u1, u2, u3, u4, u5, -⟩, -, ⟨tn, t1, t2, t3, -⟩, ⟨nn, n1, n2, n3, -⟩, -⟩ := id hJ
  have key : ∀ v, e_X9_count p σ = some (some (some (.inl v)), σ) → e_X10_count p σ = some (some (some (.inl v)), st σ (10, 0, 0, 0) 5 (nI 0)) → Res K' (e_X9_count p) (e_X10_count p) σ := fun v h1 h2 => fin0 hJ hK h24 (fun _ _ h => Ev_gn h) (fun _ _ h => Ev_gn h) h1 h2
  have e10 : ∀ f, f ≠ 5 → (st σ (10, 0, 0, 0) 5 (nI 0)).1 (10, 0, 0, 0) f = σ.1 (10, 0, 0, 0) f := fun f hf => by rw [st_self]; exact upd_n hf
  have hs5 : (st σ (10, 0, 0, 0) 5 (nI 0)).1 (30, 0, 0, 0) 0 = nI M := by rw [s30]; exact hN0
  by_cases c0' : p = nI 0
  · refine key (nI M) ?_ ?_
    · rw [q_X9_count, if_pos c0', hd.rd ix_many, h0]
    · rw [q_X10_count]
      dsimp only
      rw [if_pos c0', if_neg c0, c0c, s30, hN0]
  by_cases c1 : p = nI 1
  · refine key (σ.1 (30, 0, 0, 0) 1) ?_ ?_
    · rw [q_X9_count, if_neg c0', if_pos c1, hd.rd ix_time, hR.pl (pd_lo (by omega))]
    · rw [q_X10_count]
      dsimp only
      rw [if_neg c0', if_pos c1, if_neg (nI_in (by omega) (by omega)), nI_clamp (by omega), s30]
  by_cases c2 : p = nI 2
  · refine key (sW (σ.1 (30, 0, 0, 0)) M) ?_ ?_
    · rw [q_X9_count, if_neg c0', if_neg c1, if_pos c2, c_allW hd hR hM hN0]
      rfl
    · rw [q_X10_count]
      dsimp only
      rw [if_neg c0', if_neg c1, if_pos c2, M_allW hs5 hM]
      dsimp only [bdI]
      rw [s30]
  by_cases c3 : p = nI 3
  · refine key (sX (σ.1 (30, 0, 0, 0)) M) ?_ ?_
    · rw [q_X9_count, if_neg c0', if_neg c1, if_neg c2, if_pos c3, c_exOn hd hR hM hN0 hV.2.2.2.1]
      rfl
    · rw [q_X10_count]
      dsimp only
      rw [if_neg c0', if_neg c1, if_neg c2, if_pos c3, M_ex hs5 hM]
      dsimp only [bdI]
      rw [s30]
  by_cases c4 : p = nI 4
  · refine key (nI sz) ?_ ?_
    · rw [q_X9_count, if_neg c0', if_neg c1, if_neg c2, if_neg c3, if_pos c4, u3]
    · rw [q_X10_count]
      dsimp only
      rw [if_neg c0', if_neg c1, if_neg c2, if_neg c3, if_pos c4, e10 _ (by decide), u5]
  by_cases c5 : p = nI 5
  · refine key (nI nn) ?_ ?_
    · rw [q_X9_count, if_neg c0', if_neg c1, if_neg c2, if_neg c3, if_neg c4, if_pos c5, n2]
    · rw [q_X10_count]
      dsimp only
      rw [if_neg c0', if_neg c1, if_neg c2, if_neg c3, if_neg c4, if_pos c5, e10 _ (by decide), n3]
  by_cases c6 : p = nI 6
  · refine key (nI tn) ?_ ?_
    · rw [q_X9_count, if_neg c0', if_neg c1, if_neg c2, if_neg c3, if_neg c4, if_neg c5, if_pos c6, t2]
    · rw [q_X10_count]
      dsimp only
      rw [if_neg c0', if_neg c1, if_neg c2, if_neg c3, if_neg c4, if_neg c5, if_pos c6, e10 _ (by decide), t3]
  by_cases c7 : p = nI 7
  · refine key (sumT (σ.1 (30, 0, 0, 0)) 0 M) ?_ ?_
    · rw [q_X9_count, if_neg c0', if_neg c1, if_neg c2, if_neg c3, if_neg c4, if_neg c5, if_neg c6, if_pos c7, c_sumOf hd hR hM hN0 (by omega)]
      rfl
    · rw [q_X10_count]
      dsimp only
      rw [if_neg c0', if_neg c1, if_neg c2, if_neg c3, if_neg c4, if_neg c5, if_neg c6, if_pos c7, if_neg (nI_in (by omega) (by omega)), nI_clamp (by omega), s30, hV.2.2.2.2.2.1.2.1]
  · refine key (-1) ?_ ?_
    · rw [q_X9_count, if_neg c0', if_neg c1, if_neg c2, if_neg c3, if_neg c4, if_neg c5, if_neg c6, if_neg c7]
    · rw [q_X10_count]
      dsimp only
      rw [if_neg c0', if_neg c1, if_neg c2, if_neg c3, if_neg c4, if_neg c5, if_neg c6, if_neg c7]
end O3

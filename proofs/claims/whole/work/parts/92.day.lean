/-! A day: the call -/
section DY
variable {M K K' s z r i n m k a b x y t h w lo hi j u L sz la : Nat} {σ τ σ' σ1 σ2 : mS} {C N F F' G O W : Nat → Int32} {E E' : Nat → Nat → Int32} {o : mO} {v p p1 p2 wr x2 : Int32} {T P : Nat → Nat} {l : List Int64}
/-- as the reference begins to read -/
def bg (τ : mS) (n : Nat) : mS := st (st (st τ (10, 0, 0, 0) 5 (nI 0)) (10, 0, 0, 0) 6 (nI n)) (10, 0, 0, 0) 2 (nI 0)
theorem bg_ne (h : o ≠ (10, 0, 0, 0)) : (bg τ n).1 o = τ.1 o := by
  unfold bg
  rw [st_ne h, st_ne h, st_ne h]
theorem bg_10 (h5 : k ≠ 5) (h6 : k ≠ 6) (h2 : k ≠ 2) : (bg τ n).1 (10, 0, 0, 0) k = τ.1 (10, 0, 0, 0) k := by
  unfold bg
  rw [st_self, upd_n h2, st_self, upd_n h6, st_self, upd_n h5]
theorem bg_2 : (bg τ n).1 (10, 0, 0, 0) 2 = nI 0 := by
  unfold bg
  rw [st_self, upd_s]
theorem m_begin (h2 : τ.1 (10, 0, 0, 0) 2 = nI n) : e_X10_begin (st τ (10, 0, 0, 0) 5 (nI 0)) = some (some none, rd (bg τ n) 0 (-1)) := by
  have e : (st τ (10, 0, 0, 0) 5 (nI 0)).1 (10, 0, 0, 0) 2 = nI n := by rw [st_self, upd_n (by decide)]; exact h2
  rw [q_X10_begin, e]
  dsimp only
  unfold rd bg
  rw [st_comm (i := 7) (i' := 8) (by decide), st_comm (i := 7) (i' := 2) (by decide), st_comm (i := 8) (i' := 2) (by decide)]
theorem bg_tx (h31 : ∀ k, k < n → T k < 256 ∧ τ.1 (31, 0, 0, 0) k = (nI (T k)).toInt8.toInt32) : TX (bg τ n) n T := by
  refine ⟨?_, by rw [bg_ne (by decide)]; exact h31⟩
  unfold bg
  rw [st_self, upd_n (by decide), st_self, upd_s]
theorem jt_get (h : JT σ) : ∃ n T, n ≤ 80 ∧ TC σ n T ∧ σ.1 (10, 0, 0, 0) 2 = nI n ∧ ∀ k, k < n → T k < 256 ∧ σ.1 (31, 0, 0, 0) k = (nI (T k)).toInt8.toInt32 := by
  obtain ⟨n, t1, t2, t3, t4⟩ := h
  have : ∀ k, ∃ u, k < n → u < 256 ∧ σ.1 (23, 0, 0, 0) k = nI u ∧ σ.1 (31, 0, 0, 0) k = (nI u).toInt8.toInt32 := fun k => by
    by_cases hk : k < n
    · obtain ⟨u, a, b, c⟩ := t4 k hk
      exact ⟨u, fun _ => ⟨a, b, c⟩⟩
    · exact ⟨0, fun q => absurd q hk⟩
  obtain ⟨T, hT⟩ := Classical.skolem.mp this
  exact ⟨n, T, t1, ⟨t2, fun k hk => ⟨(hT k hk).1, (hT k hk).2.1⟩⟩, t3, fun k hk => ⟨(hT k hk).1, (hT k hk).2.2⟩⟩
theorem m_58_from {x1 : Int32} : ∀ d i, i + d = 1432 → b_X10_day_58 x1 (nI i) (sF τ (39, 0, 0, 0) (cpl (τ.1 (30, 0, 0, 0)) (τ.1 (39, 0, 0, 0)) i)) = b_X10_day_94 x1 (τ.1 (30, 0, 0, 0) 1336) (nI 0) (sF τ (39, 0, 0, 0) (cpl (τ.1 (30, 0, 0, 0)) (τ.1 (39, 0, 0, 0)) 1432))
  | 0, i, hi => by
    rw [show i = 1432 from by omega, q_X10_day_58, if_neg (by decide), if_neg (nI_in (by omega) (by omega)), nI_clamp (by omega), sF_ne (o' := (30, 0, 0, 0)) (by decide)]
  | d + 1, i, hi => by
    rw [q_X10_day_58, if_pos (nI_lt (by omega) (by omega)), if_neg (nI_in (by omega) (by omega)), if_neg (nI_in (by omega) (by omega)), nI_clamp (by omega), sF_ne (o' := (30, 0, 0, 0)) (by decide), sF_st, cpl_s, nI_1]
    exact m_58_from d (i + 1) (by omega)
/-- a text that is wrong: both -/
theorem fin_wrong {f g : mS → Option mR} (hJ : J K σ) (hK : K ≤ K') (h24 : K' < 2 ^ 24) (gf : Gd f) (gg : Gd g) {q : Nat} (hq : q = 33 ∨ q = 37) {σ1 : mS} (h1 : ∀ o : mO, o.1 ≠ 7 → o.1 ≠ 25 → σ1.1 o = σ.1 o) (h2 : σ1.2 = σ.2) (h7 : σ1.1 (7, 0, 0, 0) 1 = nI 0) (hf : f σ = some (some (some (.inl v)), σ1)) (hg : g σ1 = some (some (some (.inl v)), rd (sF (bg σ1 n) (q, 0, 0, 0) F') j wr)) : Res K' f g σ := by
  have fr : ∀ o : mO, o.1 ≠ 7 → o.1 ≠ 25 → o.1 ≠ 10 → o.1 ≠ 33 → o.1 ≠ 37 → (rd (sF (bg σ1 n) (q, 0, 0, 0) F') j wr).1 o = σ.1 o := fun o a1 a2 a3 a4 a5 => by
    rw [rd_ne (fun e => a3 (by rw [e])), sF_ne (fun e => by rw [e] at a4 a5; omega), bg_ne (fun e => a3 (by rw [e])), h1 o a1 a2]
  have nq : ((10, 0, 0, 0) : mO) ≠ (q, 0, 0, 0) := fun e => by injection e with e; omega
  have n7 : ((7, 0, 0, 0) : mO) ≠ (q, 0, 0, 0) := fun e => by injection e with e; omega
  have f10 : ∀ k, k ≠ 7 → k ≠ 8 → k ≠ 5 → k ≠ 6 → k ≠ 2 → (rd (sF (bg σ1 n) (q, 0, 0, 0) F') j wr).1 (10, 0, 0, 0) k = σ.1 (10, 0, 0, 0) k := fun k a1 a2 a3 a4 a5 => by
    rw [rd_10 a1 a2, sF_ne nq, bg_10 a3 a4 a5, h1 _ (by decide) (by decide)]
  have e2 : (rd (sF (bg σ1 n) (q, 0, 0, 0) F') j wr).2 = σ.2 := h2
  refine ⟨_, _, _, hf, hg, hJ.mk2 hK h24 (hJ.1.same hK h24 (fun o _ hk => ?_) (fr _ (by decide) (by decide) (by decide) (by decide) (by decide))) (hJ.2.1.same hK h24 (fun o _ _ hk => ?_) (fr _ (by decide) (by decide) (by decide) (by decide) (by decide)) (f10 _ (by decide) (by decide) (by decide) (by decide) (by decide)) (fr _ (by decide) (by decide) (by decide) (by decide) (by decide))) (fun o a1 a2 => ?_) ⟨0, by omega, ?_, ?_, fun k hk => by omega⟩ (hJ.2.2.2.2.1.same (by rw [fr _ (by decide) (by decide) (by decide) (by decide) (by decide)]) (f10 _ (by decide) (by decide) (by decide) (by decide) (by decide)) (by rw [e2]) (by rw [e2])) ((gg _ _ hg).2 ((gf _ _ hf).2 hJ.2.2.2.2.2))⟩
  · unfold aK at hk
    exact fr o (by omega) (by omega) (by omega) (by omega) (by omega)
  · unfold aK at hk
    exact fr o (by omega) (by omega) (by omega) (by omega) (by omega)
  · unfold BC at a1
    unfold BM at a2
    exact fr o (by omega) (by omega) (by omega) (by omega) (by omega)
  · rw [rd_ne (by decide), sF_ne n7, bg_ne (by decide), h7]
  · rw [rd_10 (by decide) (by decide), sF_ne nq, bg_2]
end DY

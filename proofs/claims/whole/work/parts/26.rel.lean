/-! What the class's row and the reference's row have to do with each other; what the reference's row keeps -/
def mxs (i : Nat) : Nat := [10, 4, 7, 9, 9, 9, 9, 31, 31, 31, 31, 63].getD i 0
/-- plain numbers: the same in both rows -/
def PD (M k : Nat) : Prop :=
  k < 15 ∨ (15 ≤ k ∧ k < 123 ∧ (k - 15) % 36 / 6 < M) ∨ (123 ≤ k ∧ k < 135 ∧ (k - 123) % 6 < M) ∨ (147 ≤ k ∧ k < 171 ∧ (k - 147) / 4 < M) ∨ (1131 ≤ k ∧ k < 1179 ∧ (k - 1131) % 24 / 4 < M) ∨ (1275 ≤ k ∧ k < 1329 ∧ (k - 1275) / 9 < M) ∨ (1329 ≤ k ∧ k < 1332) ∨ (1333 ≤ k ∧ k < 1336) ∨ (1340 ≤ k ∧ k < 1342) ∨ (1342 ≤ k ∧ k < 1360 ∧ (k - 1342) / 3 < M) ∨ (1360 ≤ k ∧ k < 1396 ∧ (k - 1360) / 6 < M ∧ (k - 1360) % 7 ≠ 0) ∨ (1396 ≤ k ∧ k < 1402 ∧ k - 1396 < M) ∨ (1402 ≤ k ∧ k < 1420 ∧ (k - 1402) / 3 < M) ∨ (1420 ≤ k ∧ k < 1432 ∧ (k - 1420) % 6 < M)
section PDs
variable {M s z r i : Nat}
theorem pd_lo {k : Nat} (h : k < 15) : PD M k := Or.inl h
theorem pd_ql (hM : M ≤ 6) (hs : s < M) (hz : z < 6) : PD M (15 + 6 * s + z) := Or.inr (Or.inl ⟨by omega, by omega, by omega⟩)
theorem pd_rt (hM : M ≤ 6) (hs : s < M) (hz : z < 6) : PD M (51 + 6 * s + z) := Or.inr (Or.inl ⟨by omega, by omega, by omega⟩)
theorem pd_lk (hM : M ≤ 6) (hs : s < M) (hz : z < 6) : PD M (87 + 6 * s + z) := Or.inr (Or.inl ⟨by omega, by omega, by omega⟩)
theorem pd_st (hM : M ≤ 6) (hs : s < M) : PD M (123 + s) := Or.inr (Or.inr (Or.inl ⟨by omega, by omega, by omega⟩))
theorem pd_sp (hM : M ≤ 6) (hs : s < M) : PD M (129 + s) := Or.inr (Or.inr (Or.inl ⟨by omega, by omega, by omega⟩))
theorem pd_sz (hM : M ≤ 6) (hs : s < M) (hr : r < 4) : PD M (147 + (4 * s + r)) := Or.inr (Or.inr (Or.inr (Or.inl ⟨by omega, by omega, by omega⟩)))
theorem pd_wi (hM : M ≤ 6) (hs : s < M) (hr : r < 4) : PD M (1131 + (4 * s + r)) := Or.inr (Or.inr (Or.inr (Or.inr (Or.inl ⟨by omega, by omega, by omega⟩))))
theorem pd_ct (hM : M ≤ 6) (hs : s < M) (hr : r < 4) : PD M (1155 + (4 * s + r)) := Or.inr (Or.inr (Or.inr (Or.inr (Or.inl ⟨by omega, by omega, by omega⟩))))
theorem pd_ty (hM : M ≤ 6) (hs : s < M) (hi : i < 9) : PD M (1275 + 9 * s + i) := Or.inr (Or.inr (Or.inr (Or.inr (Or.inr (Or.inl ⟨by omega, by omega, by omega⟩)))))
theorem pd_hi {k : Nat} (h : (1329 ≤ k ∧ k < 1332) ∨ (1333 ≤ k ∧ k < 1336) ∨ (1340 ≤ k ∧ k < 1342)) : PD M k := by
  rcases h with h | h | h
  · exact Or.inr (Or.inr (Or.inr (Or.inr (Or.inr (Or.inr (Or.inl h))))))
  · exact Or.inr (Or.inr (Or.inr (Or.inr (Or.inr (Or.inr (Or.inr (Or.inl h)))))))
  · exact Or.inr (Or.inr (Or.inr (Or.inr (Or.inr (Or.inr (Or.inr (Or.inr (Or.inl h))))))))
theorem pd_fs (hM : M ≤ 6) (hs : s < M) (hi : i < 3) : PD M (1342 + 3 * s + i) := Or.inr (Or.inr (Or.inr (Or.inr (Or.inr (Or.inr (Or.inr (Or.inr (Or.inr (Or.inl ⟨by omega, by omega, by omega⟩)))))))))
theorem pd_so (hM : M ≤ 6) (hs : s < M) (hz : z < 6) (h : z ≠ s) : PD M (1360 + 6 * s + z) := Or.inr (Or.inr (Or.inr (Or.inr (Or.inr (Or.inr (Or.inr (Or.inr (Or.inr (Or.inr (Or.inl ⟨by omega, by omega, by omega, by omega⟩))))))))))
theorem pd_go (hM : M ≤ 6) (hs : s < M) : PD M (1396 + s) := Or.inr (Or.inr (Or.inr (Or.inr (Or.inr (Or.inr (Or.inr (Or.inr (Or.inr (Or.inr (Or.inr (Or.inl ⟨by omega, by omega, by omega⟩)))))))))))
theorem pd_hd (hM : M ≤ 6) (hs : s < M) (hi : i < 3) : PD M (1402 + 3 * s + i) := Or.inr (Or.inr (Or.inr (Or.inr (Or.inr (Or.inr (Or.inr (Or.inr (Or.inr (Or.inr (Or.inr (Or.inr (Or.inl ⟨by omega, by omega, by omega⟩))))))))))))
theorem pd_mk (hM : M ≤ 6) (hs : s < M) : PD M (1420 + s) := Or.inr (Or.inr (Or.inr (Or.inr (Or.inr (Or.inr (Or.inr (Or.inr (Or.inr (Or.inr (Or.inr (Or.inr (Or.inr ⟨by omega, by omega, by omega⟩))))))))))))
theorem pd_se (hM : M ≤ 6) (hs : s < M) : PD M (1426 + s) := Or.inr (Or.inr (Or.inr (Or.inr (Or.inr (Or.inr (Or.inr (Or.inr (Or.inr (Or.inr (Or.inr (Or.inr (Or.inr ⟨by omega, by omega, by omega⟩))))))))))))
/-- where a plain number stands -/
theorem pd_where {k : Nat} (h : PD M k) : k < 135 ∨ (147 ≤ k ∧ k < 171) ∨ (1131 ≤ k ∧ k < 1179) ∨ (1275 ≤ k ∧ k < 1432 ∧ k ≠ 1332 ∧ ¬ (1336 ≤ k ∧ k < 1340)) := by
  unfold PD at h
  rcases h with h | h | h | h | h | h | h | h | h | h | h | h | h | h <;> omega
end PDs
/-- the sum of a run of numbers -/
def ps (N : Nat → Int32) (s : Nat) : Nat → Int32
  | 0 => nI 0
  | k + 1 => ps N s k + N (1179 + 16 * s + 11 + k)
def sumT (N : Nat → Int32) (t : Nat) : Nat → Int32
  | 0 => nI 0
  | n + 1 => sumT N t n + N (1275 + 9 * n + t)
def sm (p : Nat → Nat) (c : Nat) : Nat → Nat
  | 0 => 0
  | d + 1 => p c + sm p (c + 1) d
/-- an exchange in both rows -/
def ExR (C N : Nat → Int32) (s : Nat) : Prop := C (1179 + 16 * s) = N (1179 + 16 * s) ∧ (N (1179 + 16 * s) = nI 1 → C (1179 + 16 * s + 1) = N (1179 + 16 * s + 1) ∧ C (1179 + 16 * s + 2) = N (1179 + 16 * s + 2) ∧ C (1179 + 16 * s + 3) = N (1179 + 16 * s + 3) ∧ C (1179 + 16 * s + 4) = N (1179 + 16 * s + 4) ∧ C (1179 + 16 * s + 6) = N (1179 + 16 * s + 6) ∧ C (1179 + 16 * s + 7) = N (1179 + 16 * s + 7) ∧ C (1179 + 16 * s + 10) = N (1179 + 16 * s + 10) ∧ C (1179 + 16 * s + 15) = N (1179 + 16 * s + 15)
  ∧ (N (1179 + 16 * s + 4) = nI 2 → C (1179 + 16 * s + 5) = N (1179 + 16 * s + 5)) ∧ (N (1179 + 16 * s + 4) ≠ nI 3 → C (1179 + 16 * s + 8) = N (1179 + 16 * s + 8)) ∧ ((C (1179 + 16 * s + 9) = nI 0 ∧ N (1179 + 16 * s + 9) = nI 1) ∨ (C (1179 + 16 * s + 9) = nI 1 ∧ N (1179 + 16 * s + 9) = nI 0)) ∧ ∀ h, h ≤ 4 → N (1179 + 16 * s + 3) = nI h → C (1179 + 16 * s + 11) = ps N s h)
def RP (M : Nat) (C N : Nat → Int32) : Prop := ∀ k, PD M k → C k = N k
def RH (M : Nat) (C N : Nat → Int32) : Prop := ∀ s, s < M → C (1436 + s) = bv (fun z => 0 < N (15 + 6 * s + z)) M
def RF (M : Nat) (C N : Nat → Int32) : Prop := ∀ s r n j, s < M → r < 4 → n ≤ 8 → N (147 + (4 * s + r)) = nI n → j < 5 * n → C (171 + 40 * (4 * s + r) + j) = N (171 + 40 * (4 * s + r) + j)
def RE (M : Nat) (C N : Nat → Int32) : Prop := ∀ s, s < M → ExR C N s
def RD (M : Nat) (C P Q : Nat → Int32) : Prop := ∀ s, s < M → C (135 + s) = P s ∧ C (141 + s) = Q s
def Rl (M : Nat) (C N P Q : Nat → Int32) : Prop := RP M C N ∧ RH M C N ∧ RF M C N ∧ RE M C N ∧ RD M C P Q
/-- what is fixed while slots go by -/
def IS (M : Nat) (N : Nat → Int32) : Prop := N 0 = nI M ∧ M ≤ 6 ∧ (∀ i, i < 12 → ∃ v, N (2 + i) = nI v ∧ 1 ≤ v ∧ v ≤ mxs i) ∧ (∀ s z, s < 6 → z < 6 → ∃ q, q ≤ 3 ∧ N (15 + 6 * s + z) = nI q ∧ N (15 + 6 * z + s) = nI q) ∧ (∀ s, s < 6 → N (15 + 6 * s + s) = nI 0) ∧ (∀ s z, s < 6 → z < 6 → M ≤ z → N (15 + 6 * s + z) = nI 0)
def IR (M : Nat) (N : Nat → Int32) : Prop := ∀ s z, s < M → z < M → ∃ ρ, N (51 + 6 * s + z) = nI ρ ∧ 1 ≤ ρ ∧ ρ ≤ 3
/-- a frame of s -/
def FR (M : Nat) (N : Nat → Int32) (s f : Nat) : Prop := ∃ y u, y < M ∧ y ≠ s ∧ N f = nI y ∧ 0 < N (15 + 6 * s + y) ∧ N (f + 1) = nI u ∧ 1 ≤ u ∧ u ≤ 9
def IQ1 (M : Nat) (N : Nat → Int32) (s r n : Nat) : Prop := n ≤ 8 ∧ N (147 + (4 * s + r)) = nI n ∧ (∃ w, w ≤ 63 ∧ N (1131 + (4 * s + r)) = nI w) ∧ ∀ i, i < n → FR M N s (171 + 5 * (8 * (4 * s + r) + i))
def IQ (M : Nat) (N : Nat → Int32) : Prop := ∀ s r, s < M → r < 4 → ∃ n, IQ1 M N s r n
def EX (M : Nat) (N : Nat → Int32) (s y r h ph c q w : Nat) (p : Nat → Nat) : Prop :=
  (N (1179 + 16 * s) = nI 1 ∧ N (1179 + 16 * s + 1) = nI y ∧ N (1179 + 16 * s + 2) = nI r ∧ N (1179 + 16 * s + 3) = nI h ∧ N (1179 + 16 * s + 4) = nI ph ∧ N (1179 + 16 * s + 7) = nI c ∧ N (1179 + 16 * s + 8) = nI q ∧ N (1179 + 16 * s + 6) = nI w) ∧
  (y < M ∧ y ≠ s ∧ 0 < N (15 + 6 * s + y) ∧ r < 4 ∧ 1 ≤ h ∧ h ≤ 4 ∧ ph < 4 ∧ w < 2 ^ h) ∧
  (∃ n, n ≤ 8 ∧ h ≤ n ∧ N (147 + (4 * s + r)) = nI n) ∧
  (∀ k, k < h → N (1179 + 16 * s + 11 + k) = nI (p k) ∧ 1 ≤ p k ∧ p k ≤ 9 ∧ (N (171 + 5 * (8 * (4 * s + r) + k) + 1) + N (51 + 6 * s + y) - nI 1) / N (51 + 6 * s + y) = nI (p k)) ∧
  (ph ≤ 2 → c < h ∧ 1 ≤ q ∧ q ≤ 9 ∧ w < 2 ^ c ∧ N (1179 + 16 * s + 5) = nI (q + sm p (c + 1) (h - 1 - c))) ∧ (ph < 2 → c = 0 ∧ q = p 0 ∧ N (1179 + 16 * s + 9) = nI 1) ∧ (N (1179 + 16 * s + 9) = nI 0 ∨ N (1179 + 16 * s + 9) = nI 1)
def EV (M : Nat) (N : Nat → Int32) (s : Nat) : Prop := N (1179 + 16 * s) = nI 0 ∨ ∃ y r h ph c q w p, EX M N s y r h ph c q w p
/-- reasons and debts at rest -/
def DB (M : Nat) (N : Nat → Int32) : Prop :=
  (∀ y, y < M → (N (135 + y) = -1 ∧ N (141 + y) = nI 0) ∨ ∃ x, x < M ∧ N (135 + y) = nI x ∧ N (1179 + 16 * x) = nI 1 ∧ N (1179 + 16 * x + 1) = nI y ∧ N (1179 + 16 * x + 15) = nI 0 ∧ ((N (141 + y) = nI 1 ∧ N (1179 + 16 * x + 4) = nI 1) ∨ (N (141 + y) = nI 2 ∧ N (1179 + 16 * x + 4) = nI 3))) ∧
  (∀ x y, x < M → y < M → N (1179 + 16 * x) = nI 1 → N (1179 + 16 * x + 1) = nI y → (N (1179 + 16 * x + 15) = nI 0 ∨ 0 < N (1179 + 16 * x + 15)) ∧ (N (1179 + 16 * x + 4) = nI 0 ∨ N (1179 + 16 * x + 4) = nI 2 → N (1179 + 16 * x + 15) = nI 0) ∧ (N (1179 + 16 * x + 4) = nI 1 → N (1179 + 16 * x + 15) = nI 0 → N (135 + y) = nI x ∧ N (141 + y) = nI 1) ∧ (N (1179 + 16 * x + 4) = nI 3 → N (1179 + 16 * x + 15) = nI 0 → N (135 + y) = nI x ∧ N (141 + y) = nI 2)) ∧
  (∀ x1 x2, x1 < M → x2 < M → x1 ≠ x2 → N (1179 + 16 * x1) = nI 1 → N (1179 + 16 * x2) = nI 1 → N (1179 + 16 * x1 + 4) = nI 2 → N (1179 + 16 * x2 + 4) = nI 2 → N (1179 + 16 * x1 + 1) = N (1179 + 16 * x2 + 1) → N (1179 + 16 * x1 + 6) = nI 0 ∨ N (1179 + 16 * x2 + 6) = nI 0) ∧
  (∀ y x1 x2, y < M → x1 < M → x2 < M → N (135 + y) = nI x1 → x2 ≠ x1 → N (1179 + 16 * x2) = nI 1 → N (1179 + 16 * x2 + 4) = nI 2 → N (1179 + 16 * x2 + 1) = nI y → N (1179 + 16 * x2 + 6) = nI 0)
/-- sums, and the mark -/
def IM (M : Nat) (N : Nat → Int32) : Prop := (N 1340 = nI 0 ∨ N 1340 = nI 1) ∧ N 1336 = sumT N 0 M ∧ N 1337 = sumT N 2 M ∧ N 1338 = sumT N 4 M ∧ N 1339 = sumT N 6 M
/-- time, units -/
def IT (M K : Nat) (N : Nat → Int32) : Prop := ∃ t, t ≤ K ∧ K < 2 ^ 24 ∧ N 1 = nI t ∧ N 1332 = nI (if t = 0 then 0 else 1) ∧ ∀ s, s < M → ∃ u, u ≤ 36 * t ∧ N (1275 + 9 * s + 1) = nI u
/-- a row at rest -/
def IV (M K : Nat) (N : Nat → Int32) : Prop := IS M N ∧ IR M N ∧ IQ M N ∧ (∀ s, s < M → EV M N s) ∧ DB M N ∧ IM M N ∧ IT M K N
section RU
variable {M k : Nat} {C N P Q C' N' : Nat → Int32} {v : Int32}
theorem RP.mono (h : RP M C N) (hx : ∀ k, PD M k → C' k = N' k ∨ (C' k = C k ∧ N' k = N k)) : RP M C' N' := fun k hk => by
  rcases hx k hk with e | ⟨e1, e2⟩
  · exact e
  · rw [e1, e2, h k hk]
theorem RP.u (h : RP M C N) : RP M (upd C k v) (upd N k v) := h.mono fun j _ => by
  by_cases e : j = k
  · left; rw [upd_e e, upd_e e]
  · right; exact ⟨upd_n e, upd_n e⟩
theorem RP.uC (h : RP M C N) (hk : ¬ PD M k) : RP M (upd C k v) N := h.mono fun j hj => by
  right; exact ⟨upd_n (fun e => hk (e ▸ hj)), rfl⟩
theorem RP.uN (h : RP M C N) (hk : ¬ PD M k) : RP M C (upd N k v) := h.mono fun j hj => by
  right; exact ⟨rfl, upd_n (fun e => hk (e ▸ hj))⟩
theorem RH.mono (h : RH M C N) (hM : M ≤ 6) (h1 : ∀ s, s < M → C' (1436 + s) = C (1436 + s)) (h2 : ∀ k, 15 ≤ k → k < 51 → N' k = N k) : RH M C' N' := fun s hs => by
  rw [h1 s hs, h s hs]
  refine bv_c fun z hz => ?_
  rw [h2 _ (by omega) (by omega)]
theorem RF.mono (h : RF M C N) (hM : M ≤ 6) (h1 : ∀ k, 171 ≤ k → k < 1131 → C' k = C k) (h2 : ∀ k, 147 ≤ k → k < 1131 → N' k = N k) : RF M C' N' := fun s r n j hs hr hn hN hj => by
  rw [h1 _ (by omega) (by omega), h2 _ (by omega) (by omega)]
  rw [h2 _ (by omega) (by omega)] at hN
  exact h s r n j hs hr hn hN hj
theorem ps_c {s : Nat} : ∀ {h : Nat}, (∀ k, k < h → N' (1179 + 16 * s + 11 + k) = N (1179 + 16 * s + 11 + k)) → ps N' s h = ps N s h
  | 0, _ => rfl
  | h + 1, e => by
    unfold ps
    rw [ps_c (fun k hk => e k (by omega)), e h (by omega)]
theorem ExR.mono {s : Nat} (h : ExR C N s) (h1 : ∀ k, k < 16 → C' (1179 + 16 * s + k) = C (1179 + 16 * s + k)) (h2 : ∀ k, k < 16 → N' (1179 + 16 * s + k) = N (1179 + 16 * s + k)) : ExR C' N' s := by
  have a0 : C' (1179 + 16 * s) = C (1179 + 16 * s) := h1 0 (by omega)
  have b0 : N' (1179 + 16 * s) = N (1179 + 16 * s) := h2 0 (by omega)
  unfold ExR
  rw [a0, b0]
  refine ⟨h.1, fun h0 => ?_⟩
  obtain ⟨e1, e2, e3, e4, e5, e6, e7, e8, e9, e10, e11, e12⟩ := h.2 h0
  rw [h1 1 (by omega), h1 2 (by omega), h1 3 (by omega), h1 4 (by omega), h1 5 (by omega), h1 6 (by omega), h1 7 (by omega), h1 8 (by omega), h1 9 (by omega), h1 10 (by omega), h1 11 (by omega), h1 15 (by omega), h2 1 (by omega), h2 2 (by omega), h2 3 (by omega), h2 4 (by omega), h2 5 (by omega), h2 6 (by omega), h2 7 (by omega), h2 8 (by omega), h2 9 (by omega), h2 10 (by omega), h2 15 (by omega)]
  refine ⟨e1, e2, e3, e4, e5, e6, e7, e8, e9, e10, e11, fun hh hle hN => ?_⟩
  rw [e12 hh hle hN]
  exact (ps_c fun k hk => by rw [Nat.add_assoc, h2 _ (by omega)]).symm
theorem RE.mono (h : RE M C N) (hM : M ≤ 6) (h1 : ∀ k, 1179 ≤ k → k < 1275 → C' k = C k) (h2 : ∀ k, 1179 ≤ k → k < 1275 → N' k = N k) : RE M C' N' := fun s hs =>
  (h s hs).mono (fun k hk => h1 _ (by omega) (by omega)) (fun k hk => h2 _ (by omega) (by omega))
theorem RE.one (h : RE M C N) (hM : M ≤ 6) {x : Nat} (hx : ExR C' N' x) (h1 : ∀ k, 1179 ≤ k → k < 1275 → (k < 1179 + 16 * x ∨ 1179 + 16 * x + 16 ≤ k) → C' k = C k) (h2 : ∀ k, 1179 ≤ k → k < 1275 → (k < 1179 + 16 * x ∨ 1179 + 16 * x + 16 ≤ k) → N' k = N k) : RE M C' N' := fun s hs => by
  by_cases e : s = x
  · rw [e]; exact hx
  · exact (h s hs).mono (fun k hk => h1 _ (by omega) (by omega) (by omega)) (fun k hk => h2 _ (by omega) (by omega) (by omega))
theorem RD.mono (h : RD M C P Q) (h1 : ∀ s, s < M → C' (135 + s) = C (135 + s) ∧ C' (141 + s) = C (141 + s)) : RD M C' P Q := fun s hs => by
  rw [(h1 s hs).1, (h1 s hs).2]; exact h s hs
/-- a number that nothing else hangs on -/
def UK (k : Nat) : Prop := k < 15 ∨ (51 ≤ k ∧ k < 135) ∨ (1131 ≤ k ∧ k < 1179) ∨ (1275 ≤ k ∧ k < 1436)
theorem Rl.u (h : Rl M C N P Q) (hM : M ≤ 6) (hk : UK k) : Rl M (upd C k v) (upd N k v) P Q := by
  obtain ⟨h1, h2, h3, h4, h5⟩ := h
  unfold UK at hk
  refine ⟨h1.u, h2.mono hM (fun s hs => upd_n (by omega)) (fun j a b => upd_n (by omega)), h3.mono hM (fun j a b => upd_n (by omega)) (fun j a b => upd_n (by omega)), h4.mono hM (fun j a b => upd_n (by omega)) (fun j a b => upd_n (by omega)), h5.mono fun s hs => ⟨upd_n (by omega), upd_n (by omega)⟩⟩
theorem Rl.uN (h : Rl M C N P Q) (hM : M ≤ 6) (hk : k = 1332 ∨ (1336 ≤ k ∧ k < 1340)) : Rl M C (upd N k v) P Q := by
  obtain ⟨h1, h2, h3, h4, h5⟩ := h
  refine ⟨h1.uN (fun q => by have := pd_where q; omega), h2.mono hM (fun s hs => rfl) (fun j a b => upd_n (by omega)), h3.mono hM (fun j a b => rfl) (fun j a b => upd_n (by omega)), h4.mono hM (fun j a b => rfl) (fun j a b => upd_n (by omega)), h5⟩
theorem Rl.pl (h : Rl M C N P Q) (hk : PD M k) : C k = N k := h.1 k hk
end RU

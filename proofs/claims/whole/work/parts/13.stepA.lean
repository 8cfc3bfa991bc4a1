/-! One instruction of the small machine is one of the machine: loads, constants, numbers, branches -/
section SA
variable {l : Launch} {D : va_G} {cy : Nat → ClassId} {ad : mO → Nat} {xs ys : Nat → Int32} {XL : Nat} {A : Nat → Prop} {b : Nat} {j : Nat} {P : List mE → Prop}
theorem LR.set {ls : Array Slot} {nL : Nat} {L : List (Option mV)} {i : Nat} {x : Int32} {v : mV} {ls' : Array Slot} (h : LR ad ls nL L) (hx : lget L i = some (.inl x)) (h' : lv_has ls' nL ((i, toV ad v) :: (lpairs ad 0 L).filter (fun q => !(q.1 == i) && !(q.1 + 1 == i && q.2.category == 2)))) : LR ad ls' nL (lset L i (some v)) := by
  refine LR.of h' fun k w hw => ?_
  rw [lget_set] at hw
  by_cases hk : k = i ∧ i < L.length
  · rw [if_pos hk] at hw
    cases hw
    rw [hk.1]
    exact List.mem_cons_self
  · rw [if_neg hk] at hw
    have hl : ∀ (L : List (Option mV)) (i : Nat) (v : mV), lget L i = some v → i < L.length := by
      intro L
      induction L with
      | nil => intro i v h; simp [lget] at h
      | cons a L ih =>
        intro i v h
        cases i with
        | zero => simp
        | succ i => simp only [lget] at h; have := ih i v h; simp; omega
    have hne : k ≠ i := fun e => hk ⟨e, hl _ _ _ hx⟩
    refine List.mem_cons_of_mem _ (List.mem_filter.mpr ⟨(lpairs_mem L 0 _).mpr ⟨k, w, hw, by rw [Nat.zero_add]⟩, ?_⟩)
    simp only [Bool.and_eq_true, Bool.not_eq_true', beq_eq_false_iff_ne, ne_eq, Bool.and_eq_false_iff]
    refine ⟨hne, ?_⟩
    by_cases q : k + 1 = i
    · right
      intro e
      have h1 := h.2.1.1 k _ (h.get hw) e
      rw [q, h.get hx] at h1
      cases h1
    · left; exact q
theorem eTgt_ex {pc : Nat} {off : Int} {info : List Nat} (h : eTgt pc off info = true) : ∃ t : Nat, (pc : Int) + off = (t : Int) := by
  unfold eTgt at h
  split at h
  · exact ⟨_, of_decide_eq_true h⟩
  · cases h
theorem CL_in {a b c d : Nat} (h : CL.contains (a, b, c, d) = true) : CLok (a, b, c, d) := CL_ok _ (List.contains_iff_mem.mp h)

theorem snd_switch {K : mK} (hK : KOk l D cy ad xs ys XL A b j P K) {rest : List mE} (hcr : P rest) {pc len : Nat} {d lo hi : Int} {offs : Array Int} {d' : Nat} {ts : List Nat} (hd : decode (mrow j).2.1 pc = .ok (.tableswitch d lo hi offs, len)) (hsz : offs.size < 1000) (e1 : lo = 0) (e2 : hi + 1 = (offs.size : Int)) (e3 : Int.ofNat d' = (pc : Int) + d) (e4 : ts.map Int.ofNat = offs.toList.map (fun o => (pc : Int) + o)) {x : Int32} {L : List (Option mV)} {S : List mV} {σ : mS} {r : mR} (h : mswitch x (fun t => K (dropTo rest t) L S σ) d' 0 ts = some r) : SndB l D cy ad xs ys XL A b (j, pc, L, .inl x :: S, σ) r := by
  have hlen : ts.length = offs.size := by
    have := congrArg List.length e4
    simpa using this
  have key : ∀ (us : List Nat) (k : Nat), (∀ n : Nat, us[n]? = ts[k + n]?) → k + us.length = ts.length → mswitch x (fun t => K (dropTo rest t) L S σ) d' k us = some r → (∃ n t : Nat, ts[n]? = some t ∧ k ≤ n ∧ x = nI n ∧ SndB l D cy ad xs ys XL A b (j, t, L, S, σ) r) ∨ ((∀ n : Nat, k ≤ n → n < ts.length → x ≠ nI n) ∧ SndB l D cy ad xs ys XL A b (j, d', L, S, σ) r) := by
    intro us
    induction us with
    | nil =>
      intro k hk hl h
      refine Or.inr ⟨fun n h1 h2 => ?_, hK.dr hcr h⟩
      simp at hl; omega
    | cons t us ih =>
      intro k hk hl h
      unfold mswitch at h
      have h0 : ts[k]? = some t := by have := hk 0; simpa using this.symm
      split at h
      · rename_i q
        exact Or.inl ⟨k, t, h0, Nat.le_refl _, q, hK.dr hcr h⟩
      · rename_i q
        rcases ih (k + 1) (fun n => by have := hk (n + 1); rw [List.getElem?_cons_succ] at this; rw [this]; congr 1; omega) (by simp at hl; omega) h with ⟨n, t', a1, a2, a3, a4⟩ | ⟨a1, a2⟩
        · exact Or.inl ⟨n, t', a1, by omega, a3, a4⟩
        · refine Or.inr ⟨fun n h1 h2 => ?_, a2⟩
          by_cases hn : n = k
          · rw [hn]; exact q
          · exact a1 n (by omega) h2
  rcases key ts 0 (fun n => by rw [Nat.zero_add]) (by omega) h with ⟨n, t, a1, -, a3, a4⟩ | ⟨a1, a2⟩
  · have hn : n < ts.length := (List.getElem?_eq_some_iff.mp a1).1
    have ho : ∃ off, offs[n]? = some off ∧ (pc : Int) + off = (t : Int) := by
      have h5 : (ts.map Int.ofNat)[n]? = some (t : Int) := by rw [List.getElem?_map, a1]; rfl
      rw [e4, List.getElem?_map, Array.getElem?_toList] at h5
      cases hq : offs[n]? with
      | none => rw [hq] at h5; cases h5
      | some off => rw [hq] at h5; exact ⟨off, rfl, Option.some.inj h5⟩
    obtain ⟨off, ho, ht⟩ := ho
    have hx : x.toInt = (n : Int) := by rw [a3, nI_toInt (by omega)]
    refine snd_pure (fun hx' hb _ _ k' => lv_tableIn (tgt := t) hx' hb hd (by rw [e1, hx]; omega) (by rw [hx]; omega) (by rw [e1, hx]; simpa using ho) ht k') a4 okS.tl
  · by_cases hin : x.toInt < lo ∨ hi < x.toInt
    · exact snd_pure (fun hx' hb _ _ k' => lv_tableOut (tgt := d') hx' hb hd hin e3.symm k') a2 okS.tl
    · exfalso
      have hx0 : (0 : Int) ≤ x.toInt := by omega
      have hx1 : x.toInt < (offs.size : Int) := by omega
      refine a1 x.toInt.toNat (Nat.zero_le _) (by omega) ?_
      apply Int32.toInt_inj.mp
      have hx2 : x.toInt < 2 ^ 31 := by have := Int32.toInt_lt x; omega
      rw [nI_toInt (by omega)]
      omega

set_option maxHeartbeats 4000000 in
theorem snd_A {Rf : mQ → Option mR} {K : mK} (hR : ∀ q r, Rf q = some r → q.1 = j → SndB l D cy ad xs ys XL A b q r) (hK : KOk l D cy ad xs ys XL A b j P K) {e : mE} {rest : List mE} (hc : P (e :: rest)) (ho : eOk j e = true) {L : List (Option mV)} {S : List mV} {σ : mS} {r : mR} (h : mstepA Rf j K e rest L S σ = some r) : SndB l D cy ad xs ys XL A b (j, e.1, L, S, σ) r := by
  obtain ⟨hd, hl, -, hcr⟩ := hK.1 _ _ hc
  obtain ⟨pc, i, len, info, cut⟩ := e
  cases i
  case iload_n k =>
    have hlen : len = 1 := Nat.eq_of_beq_eq_true hl
    subst hlen
    change mload1 K rest L S σ k.val = some r at h
    unfold mload1 at h
    split at h
    · rename_i x hx
      exact snd_load hx (fun hx hb hl k' => lv_iload_n hx hb hd rfl hl k') (hK.nx hc rfl h)
    · cases h
  case iload k =>
    have hlen : len = 2 := Nat.eq_of_beq_eq_true hl
    subst hlen
    change mload1 K rest L S σ k = some r at h
    unfold mload1 at h
    split at h
    · rename_i x hx
      exact snd_load hx (fun hx hb hl k' => lv_iload hx hb hd hl k') (hK.nx hc rfl h)
    · cases h
  case lload_n k =>
    have hlen : len = 1 := Nat.eq_of_beq_eq_true hl
    subst hlen
    change mload2 K rest L S σ k.val = some r at h
    unfold mload2 at h
    split at h
    · rename_i x hx
      exact snd_load hx (fun hx hb hl k' => lv_lload_n hx hb hd rfl hl k') (hK.nx hc rfl h)
    · cases h
  case lload k =>
    have hlen : len = 2 := Nat.eq_of_beq_eq_true hl
    subst hlen
    change mload2 K rest L S σ k = some r at h
    unfold mload2 at h
    split at h
    · rename_i x hx
      exact snd_load hx (fun hx hb hl k' => lv_lload hx hb hd hl k') (hK.nx hc rfl h)
    · cases h
  case aload_n k =>
    have hlen : len = 1 := Nat.eq_of_beq_eq_true hl
    subst hlen
    change mload3 K rest L S σ k.val = some r at h
    unfold mload3 at h
    split at h
    · rename_i x hx
      exact snd_load hx (fun hx hb hl k' => lv_aload_n hx hb hd rfl hl k') (hK.nx hc rfl h)
    · cases h
  case aload k =>
    have hlen : len = 2 := Nat.eq_of_beq_eq_true hl
    subst hlen
    change mload3 K rest L S σ k = some r at h
    unfold mload3 at h
    split at h
    · rename_i x hx
      exact snd_load hx (fun hx hb hl k' => lv_aload hx hb hd hl k') (hK.nx hc rfl h)
    · cases h
  case istore_n k =>
    have hlen : len = 1 := Nat.eq_of_beq_eq_true hl
    subst hlen
    change mstore1 K rest L S σ k.val = some r at h
    unfold mstore1 at h
    split at h
    · rename_i x S
      exact snd_store (fun hx hb hLR k' => lv_istore_n hx hb hd rfl hLR (Nat.le_of_ble_eq_true ho) rfl (fun ls' h' => k' ls' (LR.put (v := .inl x) h'))) (hK.nx hc rfl h) (fun h1 h2 => h1.put trivial) okS.tl
    · cases h
  case lstore_n k =>
    have hlen : len = 1 := Nat.eq_of_beq_eq_true hl
    subst hlen
    change mstore2 K rest L S σ k.val = some r at h
    unfold mstore2 at h
    split at h
    · rename_i x S
      exact snd_store (fun hx hb hLR k' => lv_lstore_n hx hb hd rfl hLR (Nat.le_of_ble_eq_true ho) rfl (fun ls' h' => k' ls' (LR.putL (v := .inr (.inl x)) h'))) (hK.nx hc rfl h) (fun h1 h2 => h1.putL trivial) okS.tl
    · cases h
  case astore_n k =>
    have hlen : len = 1 := Nat.eq_of_beq_eq_true hl
    subst hlen
    change mstore3 K rest L S σ k.val = some r at h
    unfold mstore3 at h
    split at h
    · rename_i x S
      exact snd_store (fun hx hb hLR k' => lv_astore_n hx hb hd rfl hLR (Nat.le_of_ble_eq_true ho) rfl (fun ls' h' => k' ls' (LR.put (v := .inr (.inr x)) h'))) (hK.nx hc rfl h) (fun h1 h2 => h1.put h2.hd) okS.tl
    · cases h
  case istore k =>
    have hlen : len = 2 := Nat.eq_of_beq_eq_true hl
    subst hlen
    change mstore1 K rest L S σ k = some r at h
    unfold mstore1 at h
    split at h
    · rename_i x S
      exact snd_store (fun hx hb hLR k' => lv_istore hx hb hd hLR (Nat.le_of_ble_eq_true ho) rfl (fun ls' h' => k' ls' (LR.put (v := .inl x) h'))) (hK.nx hc rfl h) (fun h1 h2 => h1.put trivial) okS.tl
    · cases h
  case lstore k =>
    have hlen : len = 2 := Nat.eq_of_beq_eq_true hl
    subst hlen
    change mstore2 K rest L S σ k = some r at h
    unfold mstore2 at h
    split at h
    · rename_i x S
      exact snd_store (fun hx hb hLR k' => lv_lstore hx hb hd hLR (Nat.le_of_ble_eq_true ho) rfl (fun ls' h' => k' ls' (LR.putL (v := .inr (.inl x)) h'))) (hK.nx hc rfl h) (fun h1 h2 => h1.putL trivial) okS.tl
    · cases h
  case astore k =>
    have hlen : len = 2 := Nat.eq_of_beq_eq_true hl
    subst hlen
    change mstore3 K rest L S σ k = some r at h
    unfold mstore3 at h
    split at h
    · rename_i x S
      exact snd_store (fun hx hb hLR k' => lv_astore hx hb hd hLR (Nat.le_of_ble_eq_true ho) rfl (fun ls' h' => k' ls' (LR.put (v := .inr (.inr x)) h'))) (hK.nx hc rfl h) (fun h1 h2 => h1.put h2.hd) okS.tl
    · cases h
  case iconst c =>
    have hlen : len = 1 := Nat.eq_of_beq_eq_true hl
    subst hlen
    cases info with
    | nil => exact snd_pure (fun hx hb _ _ k' => lv_iconst hx hb hd rfl k') (hK.nx hc rfl h) (okS.cs trivial)
    | cons n info => exact snd_pure (fun hx hb _ _ k' => lv_iconst hx hb hd (of_decide_eq_true ho) k') (hK.nx hc rfl h) (okS.cs trivial)
  case bipush c =>
    have hlen : len = 2 := Nat.eq_of_beq_eq_true hl
    subst hlen
    cases info with
    | nil => exact snd_pure (fun hx hb _ _ k' => lv_bipush hx hb hd rfl k') (hK.nx hc rfl h) (okS.cs trivial)
    | cons n info => exact snd_pure (fun hx hb _ _ k' => lv_bipush hx hb hd (of_decide_eq_true ho) k') (hK.nx hc rfl h) (okS.cs trivial)
  case sipush c =>
    have hlen : len = 3 := Nat.eq_of_beq_eq_true hl
    subst hlen
    cases info with
    | nil => exact snd_pure (fun hx hb _ _ k' => lv_sipush hx hb hd rfl k') (hK.nx hc rfl h) (okS.cs trivial)
    | cons n info => exact snd_pure (fun hx hb _ _ k' => lv_sipush hx hb hd (of_decide_eq_true ho) k') (hK.nx hc rfl h) (okS.cs trivial)
  case lconst c =>
    have hlen : len = 1 := Nat.eq_of_beq_eq_true hl
    subst hlen
    cases info with
    | nil => cases ho
    | cons n info => exact snd_pure (fun hx hb _ _ k' => lv_lconst hx hb hd (of_decide_eq_true ho) k') (hK.nx hc rfl h) (okS.cs trivial)
  case ldc c =>
    have hlen : len = 2 := Nat.eq_of_beq_eq_true hl
    subst hlen
    cases info with
    | nil => cases ho
    | cons n info => exact snd_pure (fun hx hb hown hts k' => lv_ldc hx hb hown (hts _ (CL_in ho)) hd k') (hK.nx hc rfl h) (okS.cs trivial)
  case ldc_w c =>
    have hlen : len = 3 := Nat.eq_of_beq_eq_true hl
    subst hlen
    cases info with
    | nil => cases ho
    | cons n info => exact snd_pure (fun hx hb hown hts k' => lv_ldcw hx hb hown (hts _ (CL_in ho)) hd k') (hK.nx hc rfl h) (okS.cs trivial)
  case ldc2_w c =>
    have hlen : len = 3 := Nat.eq_of_beq_eq_true hl
    subst hlen
    cases info with
    | nil => cases ho
    | cons n info => exact snd_pure (fun hx hb hown hts k' => lv_ldc2 hx hb hown (hts _ (CL_in ho)) hd k') (hK.nx hc rfl h) (okS.cs trivial)
  case iinc k c =>
    have hlen : len = 3 := Nat.eq_of_beq_eq_true hl
    subst hlen
    simp only [mstepA] at h
    split at h
    · rename_i x hx
      exact snd_store (fun hx' hb hLR k' => by
        obtain ⟨n, hn⟩ := List.getElem?_of_mem ((lpairs_mem (ad := ad) L 0 (k, .int x)).mpr ⟨k, .inl x, hx, by rw [Nat.zero_add]; rfl⟩)
        exact lv_iinc hx' hb hd hLR hn rfl (Nat.le_of_ble_eq_true ho) rfl (fun ls' h' => k' ls' (LR.set (v := .inl (x + Int32.ofInt c)) hLR hx h'))) (hK.nx hc rfl h) (fun h1 h2 i v hv => by
        rw [lget_set] at hv
        split at hv
        · cases hv; trivial
        · exact h1 i v hv) id
    · cases h
  case iadd =>
    have hlen : len = 1 := Nat.eq_of_beq_eq_true hl
    subst hlen
    simp only [mstepA, mii] at h
    split at h
    · exact snd_pure (fun hx hb _ _ k' => lv_iadd hx hb hd k') (hK.nx hc rfl h) (fun q => (okS.tl (okS.tl q)).cs trivial)
    · cases h
  case isub =>
    have hlen : len = 1 := Nat.eq_of_beq_eq_true hl
    subst hlen
    simp only [mstepA, mii] at h
    split at h
    · exact snd_pure (fun hx hb _ _ k' => lv_isub hx hb hd k') (hK.nx hc rfl h) (fun q => (okS.tl (okS.tl q)).cs trivial)
    · cases h
  case imul =>
    have hlen : len = 1 := Nat.eq_of_beq_eq_true hl
    subst hlen
    simp only [mstepA, mii] at h
    split at h
    · exact snd_pure (fun hx hb _ _ k' => lv_imul hx hb hd k') (hK.nx hc rfl h) (fun q => (okS.tl (okS.tl q)).cs trivial)
    · cases h
  case iand =>
    have hlen : len = 1 := Nat.eq_of_beq_eq_true hl
    subst hlen
    simp only [mstepA, mii] at h
    split at h
    · exact snd_pure (fun hx hb _ _ k' => lv_iand hx hb hd k') (hK.nx hc rfl h) (fun q => (okS.tl (okS.tl q)).cs trivial)
    · cases h
  case ior =>
    have hlen : len = 1 := Nat.eq_of_beq_eq_true hl
    subst hlen
    simp only [mstepA, mii] at h
    split at h
    · exact snd_pure (fun hx hb _ _ k' => lv_ior hx hb hd k') (hK.nx hc rfl h) (fun q => (okS.tl (okS.tl q)).cs trivial)
    · cases h
  case ishl =>
    have hlen : len = 1 := Nat.eq_of_beq_eq_true hl
    subst hlen
    simp only [mstepA, mii] at h
    split at h
    · exact snd_pure (fun hx hb _ _ k' => lv_ishl hx hb hd k') (hK.nx hc rfl h) (fun q => (okS.tl (okS.tl q)).cs trivial)
    · cases h
  case ishr =>
    have hlen : len = 1 := Nat.eq_of_beq_eq_true hl
    subst hlen
    simp only [mstepA, mii] at h
    split at h
    · exact snd_pure (fun hx hb _ _ k' => lv_ishr hx hb hd k') (hK.nx hc rfl h) (fun q => (okS.tl (okS.tl q)).cs trivial)
    · cases h
  case iushr =>
    have hlen : len = 1 := Nat.eq_of_beq_eq_true hl
    subst hlen
    simp only [mstepA, mii] at h
    split at h
    · exact snd_pure (fun hx hb _ _ k' => lv_iushr hx hb hd rfl k') (hK.nx hc rfl h) (fun q => (okS.tl (okS.tl q)).cs trivial)
    · cases h
  case ladd =>
    have hlen : len = 1 := Nat.eq_of_beq_eq_true hl
    subst hlen
    simp only [mstepA, mll] at h
    split at h
    · exact snd_pure (fun hx hb _ _ k' => lv_ladd hx hb hd k') (hK.nx hc rfl h) (fun q => (okS.tl (okS.tl q)).cs trivial)
    · cases h
  case lmul =>
    have hlen : len = 1 := Nat.eq_of_beq_eq_true hl
    subst hlen
    simp only [mstepA, mll] at h
    split at h
    · exact snd_pure (fun hx hb _ _ k' => lv_lmul hx hb hd k') (hK.nx hc rfl h) (fun q => (okS.tl (okS.tl q)).cs trivial)
    · cases h
  case idiv =>
    have hlen : len = 1 := Nat.eq_of_beq_eq_true hl
    subst hlen
    simp only [mstepA, ml1] at h
    split at h
    · split at h
      · cases h
      · rename_i hz
        exact snd_pure (fun hx hb _ _ k' => lv_idiv hx hb hd hz k') (hK.nx hc rfl h) (fun q => (okS.tl (okS.tl q)).cs trivial)
    · cases h
  case irem =>
    have hlen : len = 1 := Nat.eq_of_beq_eq_true hl
    subst hlen
    simp only [mstepA, ml1] at h
    split at h
    · split at h
      · cases h
      · rename_i hz
        exact snd_pure (fun hx hb _ _ k' => lv_irem hx hb hd hz k') (hK.nx hc rfl h) (fun q => (okS.tl (okS.tl q)).cs trivial)
    · cases h
  case ldiv =>
    have hlen : len = 1 := Nat.eq_of_beq_eq_true hl
    subst hlen
    simp only [mstepA] at h
    split at h
    · split at h
      · cases h
      · rename_i hz
        exact snd_pure (fun hx hb _ _ k' => lv_ldiv hx hb hd hz k') (hK.nx hc rfl h) (fun q => (okS.tl (okS.tl q)).cs trivial)
    · cases h
  case lrem =>
    have hlen : len = 1 := Nat.eq_of_beq_eq_true hl
    subst hlen
    simp only [mstepA] at h
    split at h
    · split at h
      · cases h
      · rename_i hz
        exact snd_pure (fun hx hb _ _ k' => lv_lrem hx hb hd hz k') (hK.nx hc rfl h) (fun q => (okS.tl (okS.tl q)).cs trivial)
    · cases h
  case lcmp =>
    have hlen : len = 1 := Nat.eq_of_beq_eq_true hl
    subst hlen
    simp only [mstepA] at h
    split at h
    · exact snd_pure (fun hx hb _ _ k' => W.lcmp hx hb hd k') (hK.nx hc rfl h) (fun q => (okS.tl (okS.tl q)).cs trivial)
    · cases h
  case i2l =>
    have hlen : len = 1 := Nat.eq_of_beq_eq_true hl
    subst hlen
    simp only [mstepA, ml0] at h
    split at h
    · exact snd_pure (fun hx hb _ _ k' => lv_i2l hx hb hd rfl k') (hK.nx hc rfl h) (fun q => (okS.tl q).cs trivial)
    · cases h
  case i2b =>
    have hlen : len = 1 := Nat.eq_of_beq_eq_true hl
    subst hlen
    simp only [mstepA, ml0] at h
    split at h
    · exact snd_pure (fun hx hb _ _ k' => lv_i2b hx hb hd rfl k') (hK.nx hc rfl h) (fun q => (okS.tl q).cs trivial)
    · cases h
  case i2s =>
    have hlen : len = 1 := Nat.eq_of_beq_eq_true hl
    subst hlen
    simp only [mstepA, ml0] at h
    split at h
    · exact snd_pure (fun hx hb _ _ k' => lv_i2s hx hb hd rfl k') (hK.nx hc rfl h) (fun q => (okS.tl q).cs trivial)
    · cases h
  case dup =>
    have hlen : len = 1 := Nat.eq_of_beq_eq_true hl
    subst hlen
    simp only [mstepA] at h
    split at h
    · exact snd_pure (fun hx hb _ _ k' => lv_dup hx hb hd rfl k') (hK.nx hc rfl h) (fun q => q.cs q.hd)
    · exact snd_pure (fun hx hb _ _ k' => lv_dup hx hb hd rfl k') (hK.nx hc rfl h) (fun q => q.cs q.hd)
    · cases h
  case dup_x1 =>
    have hlen : len = 1 := Nat.eq_of_beq_eq_true hl
    subst hlen
    simp only [mstepA] at h
    split at h
    · exact snd_pure (fun hx hb _ _ k' => lv_dup_x1 hx hb hd rfl rfl k') (hK.nx hc rfl h) (fun q => q.tl.tl.cs q.hd |>.cs q.tl.hd |>.cs q.hd)
    · cases h
  case dup2 =>
    have hlen : len = 1 := Nat.eq_of_beq_eq_true hl
    subst hlen
    simp only [mstepA] at h
    split at h
    · exact snd_pure (fun hx hb _ _ k' => lv_dup2_11 hx hb hd rfl rfl k') (hK.nx hc rfl h) (fun q => (q.cs q.tl.hd).cs q.hd)
    · cases h
  case pop =>
    have hlen : len = 1 := Nat.eq_of_beq_eq_true hl
    subst hlen
    simp only [mstepA] at h
    split at h
    · exact snd_pure (fun hx hb _ _ k' => lv_pop hx hb hd rfl k') (hK.nx hc rfl h) okS.tl
    · exact snd_pure (fun hx hb _ _ k' => lv_pop hx hb hd rfl k') (hK.nx hc rfl h) okS.tl
    · cases h
  case goto off =>
    have hlen : len = 3 := Nat.eq_of_beq_eq_true hl
    subst hlen
    obtain ⟨t, ht, hS⟩ := KOk.jp hR hK hcr ho h
    exact snd_pure (fun hx hb _ _ k' => lv_goto (tgt := t) hx hb hd ht k') hS id
  case if_icmp cnd off =>
    have hlen : len = 3 := Nat.eq_of_beq_eq_true hl
    subst hlen
    obtain ⟨t0, ht0⟩ := eTgt_ex ho
    cases cnd
    case eq =>
      simp only [mstepA, ml1] at h
      split at h
      · split at h
        · rename_i q
          obtain ⟨t, ht, hS⟩ := KOk.jp hR hK hcr ho h
          exact snd_pure (fun hx hb _ _ k' => lv_icmp_eq (tgt := t) hx hb hd ht (fun _ => k') (fun z => absurd q z)) hS (fun q => (okS.tl (okS.tl q)))
        · rename_i q
          exact snd_pure (fun hx hb _ _ k' => lv_icmp_eq (tgt := t0) hx hb hd ht0 (fun z => absurd z q) (fun _ => k')) (hK.nx hc rfl h) (fun q => (okS.tl (okS.tl q)))
      · cases h
    case ne =>
      simp only [mstepA, ml1] at h
      split at h
      · split at h
        · rename_i q
          exact snd_pure (fun hx hb _ _ k' => lv_icmp_ne (tgt := t0) hx hb hd ht0 (fun z => absurd q z) (fun _ => k')) (hK.nx hc rfl h) (fun q => (okS.tl (okS.tl q)))
        · rename_i q
          obtain ⟨t, ht, hS⟩ := KOk.jp hR hK hcr ho h
          exact snd_pure (fun hx hb _ _ k' => lv_icmp_ne (tgt := t) hx hb hd ht (fun _ => k') (fun z => absurd z q)) hS (fun q => (okS.tl (okS.tl q)))
      · cases h
    case lt =>
      simp only [mstepA, ml1] at h
      split at h
      · split at h
        · rename_i q
          obtain ⟨t, ht, hS⟩ := KOk.jp hR hK hcr ho h
          exact snd_pure (fun hx hb _ _ k' => lv_icmp_lt (tgt := t) hx hb hd ht (fun _ => k') (fun z => absurd q z)) hS (fun q => (okS.tl (okS.tl q)))
        · rename_i q
          exact snd_pure (fun hx hb _ _ k' => lv_icmp_lt (tgt := t0) hx hb hd ht0 (fun z => absurd z q) (fun _ => k')) (hK.nx hc rfl h) (fun q => (okS.tl (okS.tl q)))
      · cases h
    case ge =>
      simp only [mstepA, ml1] at h
      split at h
      · split at h
        · rename_i q
          exact snd_pure (fun hx hb _ _ k' => lv_icmp_ge (tgt := t0) hx hb hd ht0 (fun z => absurd q (Int32.not_lt.mpr z)) (fun _ => k')) (hK.nx hc rfl h) (fun q => (okS.tl (okS.tl q)))
        · rename_i q
          obtain ⟨t, ht, hS⟩ := KOk.jp hR hK hcr ho h
          exact snd_pure (fun hx hb _ _ k' => lv_icmp_ge (tgt := t) hx hb hd ht (fun _ => k') (fun z => absurd (Int32.not_lt.mp q) z)) hS (fun q => (okS.tl (okS.tl q)))
      · cases h
    case gt =>
      simp only [mstepA, ml1] at h
      split at h
      · split at h
        · rename_i q
          obtain ⟨t, ht, hS⟩ := KOk.jp hR hK hcr ho h
          exact snd_pure (fun hx hb _ _ k' => lv_icmp_gt (tgt := t) hx hb hd ht (fun _ => k') (fun z => absurd q z)) hS (fun q => (okS.tl (okS.tl q)))
        · rename_i q
          exact snd_pure (fun hx hb _ _ k' => lv_icmp_gt (tgt := t0) hx hb hd ht0 (fun z => absurd z q) (fun _ => k')) (hK.nx hc rfl h) (fun q => (okS.tl (okS.tl q)))
      · cases h
    case le =>
      simp only [mstepA, ml1] at h
      split at h
      · split at h
        · rename_i q
          exact snd_pure (fun hx hb _ _ k' => lv_icmp_le (tgt := t0) hx hb hd ht0 (fun z => absurd q (Int32.not_lt.mpr z)) (fun _ => k')) (hK.nx hc rfl h) (fun q => (okS.tl (okS.tl q)))
        · rename_i q
          obtain ⟨t, ht, hS⟩ := KOk.jp hR hK hcr ho h
          exact snd_pure (fun hx hb _ _ k' => lv_icmp_le (tgt := t) hx hb hd ht (fun _ => k') (fun z => absurd (Int32.not_lt.mp q) z)) hS (fun q => (okS.tl (okS.tl q)))
      · cases h
  case ifCond cnd off =>
    have hlen : len = 3 := Nat.eq_of_beq_eq_true hl
    subst hlen
    obtain ⟨t0, ht0⟩ := eTgt_ex ho
    cases cnd
    case eq =>
      simp only [mstepA, ml0] at h
      split at h
      · split at h
        · rename_i q
          obtain ⟨t, ht, hS⟩ := KOk.jp hR hK hcr ho h
          exact snd_pure (fun hx hb _ _ k' => lv_if_eq (tgt := t) hx hb hd ht (fun _ => k') (fun z => absurd q z)) hS (fun q => (okS.tl q))
        · rename_i q
          exact snd_pure (fun hx hb _ _ k' => lv_if_eq (tgt := t0) hx hb hd ht0 (fun z => absurd z q) (fun _ => k')) (hK.nx hc rfl h) (fun q => (okS.tl q))
      · cases h
    case ne =>
      simp only [mstepA, ml0] at h
      split at h
      · split at h
        · rename_i q
          exact snd_pure (fun hx hb _ _ k' => lv_if_ne (tgt := t0) hx hb hd ht0 (fun z => absurd q z) (fun _ => k')) (hK.nx hc rfl h) (fun q => (okS.tl q))
        · rename_i q
          obtain ⟨t, ht, hS⟩ := KOk.jp hR hK hcr ho h
          exact snd_pure (fun hx hb _ _ k' => lv_if_ne (tgt := t) hx hb hd ht (fun _ => k') (fun z => absurd z q)) hS (fun q => (okS.tl q))
      · cases h
    case lt =>
      simp only [mstepA, ml0] at h
      split at h
      · split at h
        · rename_i q
          obtain ⟨t, ht, hS⟩ := KOk.jp hR hK hcr ho h
          exact snd_pure (fun hx hb _ _ k' => lv_if_lt (tgt := t) hx hb hd ht (fun _ => k') (fun z => absurd q z)) hS (fun q => (okS.tl q))
        · rename_i q
          exact snd_pure (fun hx hb _ _ k' => lv_if_lt (tgt := t0) hx hb hd ht0 (fun z => absurd z q) (fun _ => k')) (hK.nx hc rfl h) (fun q => (okS.tl q))
      · cases h
    case ge =>
      simp only [mstepA, ml0] at h
      split at h
      · split at h
        · rename_i q
          exact snd_pure (fun hx hb _ _ k' => lv_if_ge (tgt := t0) hx hb hd ht0 (fun z => absurd q (Int32.not_lt.mpr z)) (fun _ => k')) (hK.nx hc rfl h) (fun q => (okS.tl q))
        · rename_i q
          obtain ⟨t, ht, hS⟩ := KOk.jp hR hK hcr ho h
          exact snd_pure (fun hx hb _ _ k' => lv_if_ge (tgt := t) hx hb hd ht (fun _ => k') (fun z => absurd (Int32.not_lt.mp q) z)) hS (fun q => (okS.tl q))
      · cases h
    case gt =>
      simp only [mstepA, ml0] at h
      split at h
      · split at h
        · rename_i q
          obtain ⟨t, ht, hS⟩ := KOk.jp hR hK hcr ho h
          exact snd_pure (fun hx hb _ _ k' => lv_if_gt (tgt := t) hx hb hd ht (fun _ => k') (fun z => absurd q z)) hS (fun q => (okS.tl q))
        · rename_i q
          exact snd_pure (fun hx hb _ _ k' => lv_if_gt (tgt := t0) hx hb hd ht0 (fun z => absurd z q) (fun _ => k')) (hK.nx hc rfl h) (fun q => (okS.tl q))
      · cases h
    case le =>
      simp only [mstepA, ml0] at h
      split at h
      · split at h
        · rename_i q
          exact snd_pure (fun hx hb _ _ k' => lv_if_le (tgt := t0) hx hb hd ht0 (fun z => absurd q (Int32.not_lt.mpr z)) (fun _ => k')) (hK.nx hc rfl h) (fun q => (okS.tl q))
        · rename_i q
          obtain ⟨t, ht, hS⟩ := KOk.jp hR hK hcr ho h
          exact snd_pure (fun hx hb _ _ k' => lv_if_le (tgt := t) hx hb hd ht (fun _ => k') (fun z => absurd (Int32.not_lt.mp q) z)) hS (fun q => (okS.tl q))
      · cases h
  case tableswitch d lo hi offs =>
    obtain ⟨h123, h4⟩ := (Bool.and_eq_true _ _).mp ho
    obtain ⟨h12, h3⟩ := (Bool.and_eq_true _ _).mp h123
    obtain ⟨h1, h2⟩ := (Bool.and_eq_true _ _).mp h12
    have e1 : lo = 0 := of_decide_eq_true h1
    have e2 : hi + 1 = (offs.size : Int) := of_decide_eq_true h2
    have e3 : info.map Int.ofNat = ((pc : Int) + d) :: offs.toList.map (fun o => (pc : Int) + o) := of_decide_eq_true h3
    simp only [mstepA, ml0] at h
    split at h
    · rename_i x S
      cases info with
      | nil => cases h
      | cons d' ts =>
        simp only [List.map_cons, List.cons.injEq] at e3
        exact snd_switch hK hcr hd (Nat.le_of_ble_eq_true h4) e1 e2 e3.1 e3.2 h
    · cases h
  all_goals (cases h; done)
end SA

/-! What every run of the small machine leaves alone: the script and the static rows; booleans stay 0 or 1 -/
section GN
variable {σ σ' σ'' : mS} {o : mO} {i : Nat} {v : Int32} {Rf : mQ → Option mR} {K : mK}
def bcl (k f : Nat) : Bool := (Nat.beq k 0 && Nat.beq f 12) || (Nat.beq k 2 && (Nat.beq f 0 || Nat.beq f 12))
def Bo (σ : mS) : Prop := ∀ (o : mO) (i : Nat), bcl o.1 i = true → σ.1 o i = 0 ∨ σ.1 o i = 1
def Gn (σ σ' : mS) : Prop := (∀ o : mO, 46 ≤ o.1 → σ'.1 o = σ.1 o) ∧ (Bo σ → Bo σ')
def gE (e : mE) : Bool := match e.2.1 with
  | .putfield _ => (match e.2.2.2.1 with
    | [ci, f] => Nat.blt ci 46 && !(bcl ci f)
    | ci :: _ => Nat.blt ci 46
    | _ => true)
  | _ => true
theorem bcl_hi {k f : Nat} (h : 11 ≤ k) : bcl k f = false := by
  unfold bcl
  rw [show Nat.beq k 0 = false from by cases hb : Nat.beq k 0 with | false => rfl | true => have := Nat.eq_of_beq_eq_true hb; omega, show Nat.beq k 2 = false from by cases hb : Nat.beq k 2 with | false => rfl | true => have := Nat.eq_of_beq_eq_true hb; omega]
  rfl
theorem Gn.rf : Gn σ σ := ⟨fun _ _ => rfl, id⟩
theorem Gn.tr (h1 : Gn σ σ') (h2 : Gn σ' σ'') : Gn σ σ'' := ⟨fun o ho => (h2.1 o ho).trans (h1.1 o ho), fun h => h2.2 (h1.2 h)⟩
theorem Gn.s1 (ho : o.1 < 46) (hb : bcl o.1 i = true → v = 0 ∨ v = 1) : Gn σ (st σ o i v) := by
  refine ⟨fun o' ho' => st_ne fun e => by rw [e] at ho'; omega, fun h o' i' hb' => ?_⟩
  show (if o' = o ∧ i' = i then v else σ.1 o' i') = 0 ∨ (if o' = o ∧ i' = i then v else σ.1 o' i') = 1
  by_cases q : o' = o ∧ i' = i
  · rw [if_pos q]
    exact hb (by rw [← q.1, ← q.2]; exact hb')
  · rw [if_neg q]
    exact h o' i' hb'
theorem Gn.s2 {w : Int64} : Gn σ (stL σ o i w) := ⟨fun _ _ => rfl, id⟩
theorem Gn.s3 {o1 : mO} {p1 p2 n : Nat} (ho : o.1 < 46) (h11 : 11 ≤ o.1) : Gn σ (stC σ o1 p1 o p2 n) := by
  refine ⟨fun o' ho' => stC_ne fun e => by rw [e] at ho'; omega, fun h o' i' hb' => ?_⟩
  have hne : o' ≠ o := fun e => by
    rw [e, bcl_hi h11] at hb'
    cases hb'
  rw [stC_ne hne]
  exact h o' i' hb'
/-- whatever it answers, the store is changed by rule -/
def Pg (σ : mS) (X : Option mR) : Prop := ∀ r, X = some r → Gn σ r.2
theorem Pg.no : Pg σ none := fun _ h => by cases h
theorem Pg.tr {X : Option mR} (h1 : Gn σ σ') (h2 : Pg σ' X) : Pg σ X := fun r h => h1.tr (h2 r h)
theorem Pg.so {u : Option (Option mV)} : Pg σ (some (u, σ)) := fun r h => by cases h; exact Gn.rf
theorem Pg.cnd {b : Bool} {X : Option mR} (h : Pg σ X) : Pg σ (bif b then X else none) := by
  cases b
  · exact Pg.no
  · exact h
theorem bdV_g {a : Option mR} {k : mS → Option mR} (ha : Pg σ a) (hk : ∀ s, Pg s (k s)) : Pg σ (bdV a k) := by
  unfold bdV
  split
  · exact Pg.tr (ha _ rfl) (hk _)
  · exact Pg.no
theorem bdI_g {a : Option mR} {k : Int32 → mS → Option mR} (ha : Pg σ a) (hk : ∀ x s, Pg s (k x s)) : Pg σ (bdI a k) := by
  unfold bdI
  split
  · exact Pg.tr (ha _ rfl) (hk _ _)
  · exact Pg.no
theorem bdL_g {a : Option mR} {k : Int64 → mS → Option mR} (ha : Pg σ a) (hk : ∀ x s, Pg s (k x s)) : Pg σ (bdL a k) := by
  unfold bdL
  split
  · exact Pg.tr (ha _ rfl) (hk _ _)
  · exact Pg.no
theorem bdX_g {a : Option mR} {k : Int32 → mS → Option mR} {kx : mS → Option mR} (ha : Pg σ a) (hk : ∀ x s, Pg s (k x s)) (hx : ∀ s, Pg s (kx s)) : Pg σ (bdX a k kx) := by
  unfold bdX
  split
  · exact Pg.tr (ha _ rfl) (hk _ _)
  · exact Pg.tr (ha _ rfl) (hx _)
  · exact Pg.no
theorem bdY_g {a : Option mR} {k : Int64 → mS → Option mR} {kx : mS → Option mR} (ha : Pg σ a) (hk : ∀ x s, Pg s (k x s)) (hx : ∀ s, Pg s (kx s)) : Pg σ (bdY a k kx) := by
  unfold bdY
  split
  · exact Pg.tr (ha _ rfl) (hk _ _)
  · exact Pg.tr (ha _ rfl) (hx _)
  · exact Pg.no
theorem drop_g : ∀ (c : List mE) (t : Nat), c.all gE = true → (dropTo c t).all gE = true
  | [], t, h => by unfold dropTo; exact h
  | e :: r, t, h => by
    unfold dropTo
    cases hb : Nat.beq e.1 t
    · exact drop_g r t (by rw [List.all_cons, Bool.and_eq_true] at h; exact h.2)
    · exact h
theorem mswitch_g {x : Int32} {J : Nat → Option mR} {d : Nat} (hJ : ∀ t, Pg σ (J t)) : ∀ (ts : List Nat) (k : Nat), Pg σ (mswitch x J d k ts)
  | [], k => hJ _
  | t :: ts, k => by
    unfold mswitch
    split
    · exact hJ _
    · exact mswitch_g hJ ts (k + 1)
theorem mjump_g (hR : ∀ q, Pg q.2.2.2.2 (Rf q)) (hK : ∀ a b c d, a.all gE = true → Pg d (K a b c d)) {j : Nat} {rest : List mE} {info : List Nat} {L : List (Option mV)} {S : List mV} (hr : rest.all gE = true) : Pg σ (mjump Rf j K rest info L S σ) := by
  unfold mjump
  split
  · exact hK _ _ _ _ (drop_g _ _ hr)
  · exact hR _
  · exact Pg.no
theorem mcall_g (hR : ∀ q, Pg q.2.2.2.2 (Rf q)) (hK : ∀ a b c d, a.all gE = true → Pg d (K a b c d)) {rest : List mE} {info : List Nat} {L : List (Option mV)} {kr : Nat} (hr : rest.all gE = true) : ∀ (n : Nat) (acc S : List mV), Pg σ (mcall Rf K rest info L σ kr n acc S)
  | n + 1, acc, v :: S => by unfold mcall; exact mcall_g hR hK hr n (v :: acc) S
  | n + 1, acc, [] => by unfold mcall; exact Pg.no
  | 0, acc, S => by
    unfold mcall
    refine Pg.cnd ?_
    split
    · exact bdV_g (hR _) fun s => hK _ _ _ _ hr
    · exact bdI_g (hR _) fun x s => hK _ _ _ _ hr
    · exact bdL_g (hR _) fun x s => hK _ _ _ _ hr
    · exact bdX_g (hR _) (fun x s => hK _ _ _ _ hr) fun s => hK _ _ _ _ (drop_g _ _ hr)
    · exact bdY_g (hR _) (fun x s => hK _ _ _ _ hr) fun s => hK _ _ _ _ (drop_g _ _ hr)
    · exact Pg.no
set_option maxHeartbeats 4000000 in
theorem mstepA_g (hR : ∀ q, Pg q.2.2.2.2 (Rf q)) (hK : ∀ a b c d, a.all gE = true → Pg d (K a b c d)) {j : Nat} {e : mE} {rest : List mE} {L : List (Option mV)} {S : List mV} (hr : rest.all gE = true) : Pg σ (mstepA Rf j K e rest L S σ) := by
  obtain ⟨pc, i, len, info, cut⟩ := e
  have hk : ∀ L S, Pg σ (K rest L S σ) := fun L S => hK _ _ _ _ hr
  have hj : ∀ L S, Pg σ (mjump Rf j K rest info L S σ) := fun L S => mjump_g hR hK hr
  cases i
  case tableswitch =>
    dsimp only [mstepA, ml0]
    split
    · split
      · exact mswitch_g (fun t => hK _ _ _ _ (drop_g _ _ hr)) _ _
      · exact Pg.no
    · exact Pg.no
  all_goals first
    | exact Pg.no
    | exact hk _ _
    | exact hj _ _
    | (dsimp only [mstepA, mload1, mload2, mload3, mstore1, mstore2, mstore3, mii, mll, ml1, ml0]
       (repeat' split) <;> first | exact Pg.no | exact hk _ _ | exact hj _ _ | exact mswitch_g (fun t => hK _ _ _ _ (drop_g _ _ hr)) _ _)
theorem row_lo {k t n : Nat} (h : kRow k = (t + 1, n)) (ht : t = 0 ∨ t = 1 ∨ t = 2 ∨ t = 3 ∨ t = 4) : 11 ≤ k ∧ k < 46 := ⟨kRow_lt _ _ _ h, kRow_le _ _ _ h (by omega)⟩
theorem Gn.row {t n : Nat} (h : kRow o.1 = (t + 1, n)) (ht : t = 0 ∨ t = 1 ∨ t = 2 ∨ t = 3 ∨ t = 4) : Gn σ (st σ o i v) := by
  have := row_lo h ht
  exact Gn.s1 this.2 (fun hb => by rw [bcl_hi this.1] at hb; cases hb)
set_option maxHeartbeats 4000000 in
theorem mstepB_g (hR : ∀ q, Pg q.2.2.2.2 (Rf q)) (hK : ∀ a b c d, a.all gE = true → Pg d (K a b c d)) {e : mE} {rest : List mE} {L : List (Option mV)} {S : List mV} (he : gE e = true) (hr : rest.all gE = true) : Pg σ (mstepB Rf K e rest L S σ) := by
  obtain ⟨pc, i, len, info, cut⟩ := e
  have hk : ∀ L S, Pg σ (K rest L S σ) := fun L S => hK _ _ _ _ hr
  have hk' : ∀ {σ'}, Gn σ σ' → ∀ L S, Pg σ (K rest L S σ') := fun h L S => Pg.tr h (hK _ _ _ _ hr)
  cases i
  case putfield =>
    dsimp only [mstepB]
    split
    · rename_i x o S ci f
      cases hb : Nat.beq o.1 ci
      · exact Pg.no
      · have e1 := Nat.eq_of_beq_eq_true hb
        have he : (Nat.blt ci 46 && !(bcl ci f)) = true := he
        obtain ⟨h1, h2⟩ := (Bool.and_eq_true _ _).mp he
        refine hk' (Gn.s1 (by rw [e1]; exact Nat.le_of_ble_eq_true h1) (fun hb => ?_)) _ _
        rw [e1] at hb
        rw [hb] at h2
        cases h2
    · rename_i x o S ci f w
      cases hb : Nat.beq o.1 ci
      · exact Pg.no
      · have e1 := Nat.eq_of_beq_eq_true hb
        have he : Nat.blt ci 46 = true := he
        show Pg σ (if x = 0 ∨ x = 1 then K rest L S (st σ o f x) else none)
        split
        · rename_i hx
          exact hk' (Gn.s1 (by rw [e1]; exact Nat.le_of_ble_eq_true he) (fun _ => hx)) _ _
        · exact Pg.no
    · exact Pg.no
  case iastore =>
    dsimp only [mstepB]
    split
    · split
      · rename_i n hr1
        split
        · exact Pg.no
        · exact hk' (Gn.row hr1 (Or.inl rfl)) _ _
      · exact Pg.no
    · exact Pg.no
  case bastore =>
    dsimp only [mstepB]
    split
    · split
      · rename_i n hr1
        split
        · exact Pg.no
        · exact hk' (Gn.row hr1 (by omega)) _ _
      · rename_i n hr1
        split
        · exact Pg.no
        · split
          · exact hk' (Gn.row hr1 (by omega)) _ _
          · exact Pg.no
      · exact Pg.no
    · exact Pg.no
  case lastore =>
    dsimp only [mstepB]
    (repeat' split) <;> first | exact Pg.no | exact hk' Gn.s2 _ _
  case invokevirtual =>
    dsimp only [mstepB]
    split
    · exact mcall_g hR hK hr _ _ _
    · exact Pg.no
  case invokestatic =>
    dsimp only [mstepB]
    split
    · dsimp only [ml1]
      split
      · exact Pg.cnd (hk _ _)
      · exact Pg.no
    · dsimp only [ml1]
      split
      · exact Pg.cnd (hk _ _)
      · exact Pg.no
    · split
      · split
        · rename_i hr1 hr2
          refine Pg.cnd ?_
          split
          · exact Pg.no
          · have := row_lo hr2 (Or.inl rfl)
            exact hk' (Gn.s3 this.2 this.1) _ _
        · exact Pg.no
      · exact Pg.no
    · exact mcall_g hR hK hr _ _ _
    · exact Pg.no
  case getfield =>
    dsimp only [mstepB]
    split
    · refine Pg.cnd ?_
      split <;> exact hk _ _
    · exact Pg.no
  all_goals first
    | exact Pg.no
    | exact hk _ _
    | (dsimp only [mstepB]
       (repeat' split) <;> first | exact Pg.no | exact hk _ _ | exact Pg.so)
theorem goF_g {j : Nat} (hR : ∀ q, Pg q.2.2.2.2 (Rf q)) (hK : ∀ a b c d, a.all gE = true → Pg d (K a b c d)) : ∀ a b c d, a.all gE = true → Pg d (goF Rf j K a b c d) := by
  intro a b c d ha
  unfold goF
  split
  · exact Pg.no
  · split
    · exact hK _ _ _ _ ha
    · exact hR _
theorem stepN_g {j : Nat} (hR : ∀ q, Pg q.2.2.2.2 (Rf q)) : ∀ (n : Nat) a b c d, a.all gE = true → Pg d (stepN Rf j n a b c d)
  | 0, _, _, _, _, _ => by unfold stepN; exact Pg.no
  | n + 1, [], _, _, _, _ => by unfold stepN; exact Pg.no
  | n + 1, e :: rest, L, S, σ, ha => by
    rw [List.all_cons, Bool.and_eq_true] at ha
    unfold stepN
    cases hb : mGrp e.2.1
    · exact mstepA_g hR (goF_g hR (stepN_g hR n)) ha.2
    · exact mstepB_g hR (goF_g hR (stepN_g hR n)) ha.1 ha.2
theorem gC_all (j : Nat) : (mcode j).all gE = true := by
  have h : mtab.all (fun c => c.all gE) = true := by decide +kernel
  unfold mcode
  rw [List.getD_eq_getElem?_getD]
  cases hj : mtab[j]? with
  | none => rfl
  | some c => exact List.all_eq_true.mp h c (List.mem_of_getElem? hj)
/-- the law of every run -/
theorem ev_gn {q : mQ} {r : mR} (h : EvR mcode q r) : Gn q.2.2.2.2 r.2 := by
  refine h (fun q r => Gn q.2.2.2.2 r.2) ?_
  intro Rf q r hR hb
  exact stepN_g (fun q r' h' => hR q r' h') 400 _ _ _ _ (drop_g _ _ (gC_all q.1)) r hb
theorem Ev_gn {q : mQ} {r : mR} (h : Ev q = some r) : Gn q.2.2.2.2 r.2 := ev_gn (EvOf_R.mp h)
end GN

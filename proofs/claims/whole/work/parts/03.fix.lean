/-! What the small machine comes to: the least answers that its steps give (no counting of steps) -/
section FX
variable {Rf Rg : mQ → Option mR} {K K' : mK}
theorem bdV_mono {a a' : Option mR} {k k' : mS → Option mR} (ha : ∀ r, a = some r → a' = some r) (hk : ∀ s r, k s = some r → k' s = some r) : ∀ r, bdV a k = some r → bdV a' k' = some r := by
  intro r h
  unfold bdV at h
  split at h
  · rw [ha _ rfl]; exact hk _ _ h
  · cases h
theorem bdI_mono {a a' : Option mR} {k k' : Int32 → mS → Option mR} (ha : ∀ r, a = some r → a' = some r) (hk : ∀ x s r, k x s = some r → k' x s = some r) : ∀ r, bdI a k = some r → bdI a' k' = some r := by
  intro r h
  unfold bdI at h
  split at h
  · rw [ha _ rfl]; exact hk _ _ _ h
  · cases h
theorem bdL_mono {a a' : Option mR} {k k' : Int64 → mS → Option mR} (ha : ∀ r, a = some r → a' = some r) (hk : ∀ x s r, k x s = some r → k' x s = some r) : ∀ r, bdL a k = some r → bdL a' k' = some r := by
  intro r h
  unfold bdL at h
  split at h
  · rw [ha _ rfl]; exact hk _ _ _ h
  · cases h
theorem bdX_mono {a a' : Option mR} {k k' : Int32 → mS → Option mR} {kx kx' : mS → Option mR} (ha : ∀ r, a = some r → a' = some r) (hk : ∀ x s r, k x s = some r → k' x s = some r) (hx : ∀ s r, kx s = some r → kx' s = some r) : ∀ r, bdX a k kx = some r → bdX a' k' kx' = some r := by
  intro r h
  unfold bdX at h
  split at h
  · rw [ha _ rfl]; exact hk _ _ _ h
  · rw [ha _ rfl]; exact hx _ _ h
  · cases h
theorem bdY_mono {a a' : Option mR} {k k' : Int64 → mS → Option mR} {kx kx' : mS → Option mR} (ha : ∀ r, a = some r → a' = some r) (hk : ∀ x s r, k x s = some r → k' x s = some r) (hx : ∀ s r, kx s = some r → kx' s = some r) : ∀ r, bdY a k kx = some r → bdY a' k' kx' = some r := by
  intro r h
  unfold bdY at h
  split at h
  · rw [ha _ rfl]; exact hk _ _ _ h
  · rw [ha _ rfl]; exact hx _ _ h
  · cases h
theorem ml1_mono {S : List mV} {k k' : Int32 → Int32 → List mV → Option mR} (hk : ∀ x y S r, k x y S = some r → k' x y S = some r) : ∀ r, ml1 S k = some r → ml1 S k' = some r := by
  intro r h
  unfold ml1 at h ⊢
  split at h
  · exact hk _ _ _ _ h
  · cases h
theorem ml0_mono {S : List mV} {k k' : Int32 → List mV → Option mR} (hk : ∀ x S r, k x S = some r → k' x S = some r) : ∀ r, ml0 S k = some r → ml0 S k' = some r := by
  intro r h
  unfold ml0 at h ⊢
  split at h
  · exact hk _ _ _ h
  · cases h
theorem mswitch_mono {J J' : Nat → Option mR} {d : Nat} (hJ : ∀ t r, J t = some r → J' t = some r) : ∀ (ts : List Nat) (k : Nat) (x : Int32) r, mswitch x J d k ts = some r → mswitch x J' d k ts = some r
  | [], k, x, r, h => hJ _ _ h
  | t :: ts, k, x, r, h => by
    unfold mswitch at h ⊢
    by_cases q : x = nI k
    · rw [if_pos q] at h ⊢; exact hJ _ _ h
    · rw [if_neg q] at h ⊢; exact mswitch_mono hJ ts (k + 1) x r h
variable (hR : ∀ q r, Rf q = some r → Rg q = some r) (hK : ∀ a b c d r, K a b c d = some r → K' a b c d = some r)
theorem mjump_mono (hR : ∀ q r, Rf q = some r → Rg q = some r) (hK : ∀ a b c d r, K a b c d = some r → K' a b c d = some r) {j : Nat} {rest : List mE} {info : List Nat} {L : List (Option mV)} {S : List mV} {σ : mS} : ∀ r, mjump Rf j K rest info L S σ = some r → mjump Rg j K' rest info L S σ = some r := by
  intro r h
  unfold mjump at h ⊢
  split at h
  · exact hK _ _ _ _ _ h
  · exact hR _ _ h
  · cases h
theorem mcall_mono (hR : ∀ q r, Rf q = some r → Rg q = some r) (hK : ∀ a b c d r, K a b c d = some r → K' a b c d = some r) {rest : List mE} {info : List Nat} {L : List (Option mV)} {σ : mS} {kr : Nat} : ∀ (n : Nat) (acc S : List mV) r, mcall Rf K rest info L σ kr n acc S = some r → mcall Rg K' rest info L σ kr n acc S = some r
  | n + 1, acc, v :: S, r, h => by unfold mcall at h ⊢; exact mcall_mono hR hK n (v :: acc) S r h
  | n + 1, acc, [], r, h => by unfold mcall at h; cases h
  | 0, acc, S, r, h => by
    unfold mcall at h ⊢
    cases hb : (Nat.ble (swords S) 8 && Nat.ble (swords acc) (info.getD 1 0) && mrc kr acc)
    · rw [hb] at h; cases h
    · rw [hb] at h
      simp only [cond_true] at h ⊢
      split at h
      · exact bdV_mono (hR _) (fun _ _ q => hK _ _ _ _ _ q) _ h
      · exact bdI_mono (hR _) (fun _ _ _ q => hK _ _ _ _ _ q) _ h
      · exact bdL_mono (hR _) (fun _ _ _ q => hK _ _ _ _ _ q) _ h
      · exact bdX_mono (hR _) (fun _ _ _ q => hK _ _ _ _ _ q) (fun _ _ q => hK _ _ _ _ _ q) _ h
      · exact bdY_mono (hR _) (fun _ _ _ q => hK _ _ _ _ _ q) (fun _ _ q => hK _ _ _ _ _ q) _ h
      · cases h
theorem mld1_mono (hK : ∀ a b c d r, K a b c d = some r → K' a b c d = some r) {rest : List mE} {L : List (Option mV)} {S : List mV} {σ : mS} {i : Nat} : ∀ r, mload1 K rest L S σ i = some r → mload1 K' rest L S σ i = some r := by
  intro r h; unfold mload1 at h ⊢; split at h
  · exact hK _ _ _ _ _ h
  · cases h
theorem mld2_mono (hK : ∀ a b c d r, K a b c d = some r → K' a b c d = some r) {rest : List mE} {L : List (Option mV)} {S : List mV} {σ : mS} {i : Nat} : ∀ r, mload2 K rest L S σ i = some r → mload2 K' rest L S σ i = some r := by
  intro r h; unfold mload2 at h ⊢; split at h
  · exact hK _ _ _ _ _ h
  · cases h
theorem mld3_mono (hK : ∀ a b c d r, K a b c d = some r → K' a b c d = some r) {rest : List mE} {L : List (Option mV)} {S : List mV} {σ : mS} {i : Nat} : ∀ r, mload3 K rest L S σ i = some r → mload3 K' rest L S σ i = some r := by
  intro r h; unfold mload3 at h ⊢; split at h
  · exact hK _ _ _ _ _ h
  · cases h
theorem mst1_mono (hK : ∀ a b c d r, K a b c d = some r → K' a b c d = some r) {rest : List mE} {L : List (Option mV)} {S : List mV} {σ : mS} {i : Nat} : ∀ r, mstore1 K rest L S σ i = some r → mstore1 K' rest L S σ i = some r := by
  intro r h; unfold mstore1 at h ⊢; split at h
  · exact hK _ _ _ _ _ h
  · cases h
theorem mst2_mono (hK : ∀ a b c d r, K a b c d = some r → K' a b c d = some r) {rest : List mE} {L : List (Option mV)} {S : List mV} {σ : mS} {i : Nat} : ∀ r, mstore2 K rest L S σ i = some r → mstore2 K' rest L S σ i = some r := by
  intro r h; unfold mstore2 at h ⊢; split at h
  · exact hK _ _ _ _ _ h
  · cases h
theorem mst3_mono (hK : ∀ a b c d r, K a b c d = some r → K' a b c d = some r) {rest : List mE} {L : List (Option mV)} {S : List mV} {σ : mS} {i : Nat} : ∀ r, mstore3 K rest L S σ i = some r → mstore3 K' rest L S σ i = some r := by
  intro r h; unfold mstore3 at h ⊢; split at h
  · exact hK _ _ _ _ _ h
  · cases h
theorem mii_mono (hK : ∀ a b c d r, K a b c d = some r → K' a b c d = some r) {rest : List mE} {L : List (Option mV)} {S : List mV} {σ : mS} {g : Int32 → Int32 → Int32} : ∀ r, mii K rest L S σ g = some r → mii K' rest L S σ g = some r := by
  intro r h; unfold mii at h ⊢; split at h
  · exact hK _ _ _ _ _ h
  · cases h
theorem mll_mono (hK : ∀ a b c d r, K a b c d = some r → K' a b c d = some r) {rest : List mE} {L : List (Option mV)} {S : List mV} {σ : mS} {g : Int64 → Int64 → Int64} : ∀ r, mll K rest L S σ g = some r → mll K' rest L S σ g = some r := by
  intro r h; unfold mll at h ⊢; split at h
  · exact hK _ _ _ _ _ h
  · cases h
theorem ite_mono {c : Prop} {i1 : Decidable c} {a b a' b' : Option mR} (h1 : ∀ r, a = some r → a' = some r) (h2 : ∀ r, b = some r → b' = some r) : ∀ r, ite c a b = some r → ite c a' b' = some r := by
  intro r h
  by_cases q : c
  · rw [if_pos q] at h ⊢; exact h1 r h
  · rw [if_neg q] at h ⊢; exact h2 r h
theorem none_mono {a' : Option mR} : ∀ r : mR, (none : Option mR) = some r → a' = some r := fun _ h => by cases h
theorem cnd_mono {b : Bool} {a a' : Option mR} (h1 : ∀ r, a = some r → a' = some r) : ∀ r, (bif b then a else none) = some r → (bif b then a' else none) = some r := by
  intro r h
  cases b
  · cases h
  · exact h1 r h
set_option maxHeartbeats 4000000 in
theorem mstepA_mono (hR : ∀ q r, Rf q = some r → Rg q = some r) (hK : ∀ a b c d r, K a b c d = some r → K' a b c d = some r) {j : Nat} {e : mE} {rest : List mE} {L : List (Option mV)} {S : List mV} {σ : mS} : ∀ r, mstepA Rf j K e rest L S σ = some r → mstepA Rg j K' e rest L S σ = some r := by
  obtain ⟨pc, i, len, info, cut⟩ := e
  intro r
  cases i
  case if_icmp cnd off => cases cnd <;> exact ml1_mono (fun x y S => ite_mono (by first | exact mjump_mono hR hK | exact hK _ _ _ _) (by first | exact mjump_mono hR hK | exact hK _ _ _ _)) r
  case ifCond cnd off => cases cnd <;> exact ml0_mono (fun x S => ite_mono (by first | exact mjump_mono hR hK | exact hK _ _ _ _) (by first | exact mjump_mono hR hK | exact hK _ _ _ _)) r
  case tableswitch =>
    refine ml0_mono (fun x S r h => ?_) r
    dsimp only at h ⊢
    split at h
    · exact mswitch_mono (fun t r q => hK _ _ _ _ _ q) _ _ _ _ h
    · cases h
  case goto => exact mjump_mono hR hK r
  case idiv => exact ml1_mono (fun x y S => ite_mono none_mono (hK _ _ _ _)) r
  case irem => exact ml1_mono (fun x y S => ite_mono none_mono (hK _ _ _ _)) r
  case i2l => exact ml0_mono (fun x S => hK _ _ _ _) r
  case i2b => exact ml0_mono (fun x S => hK _ _ _ _) r
  case i2s => exact ml0_mono (fun x S => hK _ _ _ _) r
  all_goals first
    | exact none_mono r
    | exact hK _ _ _ _ r
    | exact mld1_mono hK r
    | exact mld2_mono hK r
    | exact mld3_mono hK r
    | exact mst1_mono hK r
    | exact mst2_mono hK r
    | exact mst3_mono hK r
    | exact mii_mono hK r
    | exact mll_mono hK r
    | (intro h; simp only [mstepA] at h ⊢; split at h <;> first | (cases h; done) | exact hK _ _ _ _ _ h | exact ite_mono none_mono (hK _ _ _ _) _ h)
set_option maxHeartbeats 4000000 in
theorem mstepB_mono (hR : ∀ q r, Rf q = some r → Rg q = some r) (hK : ∀ a b c d r, K a b c d = some r → K' a b c d = some r) {e : mE} {rest : List mE} {L : List (Option mV)} {S : List mV} {σ : mS} : ∀ r, mstepB Rf K e rest L S σ = some r → mstepB Rg K' e rest L S σ = some r := by
  obtain ⟨pc, i, len, info, cut⟩ := e
  intro r
  cases i
  case invokevirtual => 
    intro h
    simp only [mstepB] at h ⊢
    split at h
    · exact mcall_mono hR hK _ _ _ _ h
    · cases h
  case invokestatic =>
    intro h
    simp only [mstepB] at h ⊢
    split at h
    · exact ml1_mono (fun x y S => cnd_mono (hK _ _ _ _)) _ h
    · exact ml1_mono (fun x y S => cnd_mono (hK _ _ _ _)) _ h
    · split at h
      · split at h
        · exact cnd_mono (ite_mono none_mono (hK _ _ _ _)) _ h
        · cases h
      · cases h
    · exact mcall_mono hR hK _ _ _ _ h
    · cases h
  case getfield =>
    intro h
    simp only [mstepB] at h ⊢
    split at h
    · refine cnd_mono (fun r h => ?_) _ h
      split at h <;> exact hK _ _ _ _ _ h
    · cases h
  case putfield =>
    intro h
    simp only [mstepB] at h ⊢
    split at h
    · exact cnd_mono (hK _ _ _ _) _ h
    · exact cnd_mono (ite_mono (hK _ _ _ _) none_mono) _ h
    · cases h
  case bastore =>
    intro h
    simp only [mstepB] at h ⊢
    split at h
    · split at h
      · exact ite_mono none_mono (hK _ _ _ _) _ h
      · exact ite_mono none_mono (ite_mono (hK _ _ _ _) none_mono) _ h
      · cases h
    · cases h
  all_goals first
    | exact none_mono r
    | exact hK _ _ _ _ r
    | exact id
    | (intro h; simp only [mstepB] at h ⊢
       split at h <;> first
         | (cases h; done)
         | exact hK _ _ _ _ _ h
         | exact ite_mono none_mono (hK _ _ _ _) _ h
         | (split at h <;> first
             | (cases h; done)
             | exact hK _ _ _ _ _ h
             | exact ite_mono none_mono (hK _ _ _ _) _ h
             | (refine ite_mono none_mono (fun r h => ?_) _ h
                split at h <;> first | exact hK _ _ _ _ _ h | (cases h; done))))
theorem goF_mono (hR : ∀ q r, Rf q = some r → Rg q = some r) (hK : ∀ a b c d r, K a b c d = some r → K' a b c d = some r) {j : Nat} : ∀ a b c d r, goF Rf j K a b c d = some r → goF Rg j K' a b c d = some r := by
  intro a b c d r h
  unfold goF at h ⊢
  split at h
  · cases h
  · split at h
    · exact hK _ _ _ _ _ h
    · exact hR _ _ h
theorem stepN_mono (hR : ∀ q r, Rf q = some r → Rg q = some r) {j : Nat} : ∀ (n : Nat) a b c d r, stepN Rf j n a b c d = some r → stepN Rg j n a b c d = some r
  | 0, _, _, _, _, r, h => by unfold stepN at h; cases h
  | n + 1, [], _, _, _, r, h => by unfold stepN at h; cases h
  | n + 1, e :: rest, L, S, σ, r, h => by
    unfold stepN at h ⊢
    cases hb : mGrp e.2.1
    · rw [hb] at h
      simp only [cond_false] at h ⊢
      exact mstepA_mono hR (goF_mono hR (stepN_mono hR n)) _ h
    · rw [hb] at h
      simp only [cond_true] at h ⊢
      exact mstepB_mono hR (goF_mono hR (stepN_mono hR n)) _ h
theorem mblock_mono (code : Nat → List mE) (hR : ∀ q r, Rf q = some r → Rg q = some r) {q : mQ} : ∀ r, mblockOf code Rf q = some r → mblockOf code Rg q = some r := fun r h => stepN_mono hR _ _ _ _ _ r h
end FX
/-- the least relation that the steps close -/
def EvR (code : Nat → List mE) (q : mQ) (r : mR) : Prop := ∀ P : mQ → mR → Prop, (∀ (Rf : mQ → Option mR) (q : mQ) (r : mR), (∀ q' r', Rf q' = some r' → P q' r') → mblockOf code Rf q = some r → P q r) → P q r
theorem EvR.mk {code : Nat → List mE} {Rf : mQ → Option mR} {q : mQ} {r : mR} (hR : ∀ q' r', Rf q' = some r' → EvR code q' r') (h : mblockOf code Rf q = some r) : EvR code q r :=
  fun P hP => hP Rf q r (fun q' r' h' => hR q' r' h' P hP) h
theorem EvR.inv {code : Nat → List mE} {q : mQ} {r : mR} (h : EvR code q r) : ∃ Rf : mQ → Option mR, (∀ q' r', Rf q' = some r' → EvR code q' r') ∧ mblockOf code Rf q = some r := by
  refine h (fun q r => ∃ Rf : mQ → Option mR, (∀ q' r', Rf q' = some r' → EvR code q' r') ∧ mblockOf code Rf q = some r) ?_
  intro Rf q r hR hb
  refine ⟨Rf, fun q' r' h' => ?_, hb⟩
  obtain ⟨Rg, h1, h2⟩ := hR q' r' h'
  exact EvR.mk h1 h2
theorem EvR.uniq {code : Nat → List mE} {q : mQ} {r : mR} (h : EvR code q r) : ∀ r2, EvR code q r2 → r2 = r := by
  refine (h (fun q r => EvR code q r ∧ ∀ r2, EvR code q r2 → r2 = r) ?_).2
  intro Rf q r hR hb
  refine ⟨EvR.mk (fun q' r' h' => (hR q' r' h').1) hb, fun r2 h2 => ?_⟩
  obtain ⟨Rg, hg, hg2⟩ := h2.inv
  have hF : ∀ q' r', Rf q' = some r' → (fun q => match Rf q with | some r => some r | none => Rg q) q' = some r' := by
    intro q' r' h'
    simp only [h']
  have hG : ∀ q' r', Rg q' = some r' → (fun q => match Rf q with | some r => some r | none => Rg q) q' = some r' := by
    intro q' r' h'
    cases hq : Rf q' with
    | none => simp only [hq, h']
    | some r'' => simp only [hq]; rw [(hR q' r'' hq).2 r' (hg q' r' h')]
  have e1 := mblock_mono code hF _ hb
  have e2 := mblock_mono code hG _ hg2
  rw [e1] at e2
  exact (Option.some.inj e2).symm
noncomputable def EvOf (code : Nat → List mE) (q : mQ) : Option mR := @dite _ (∃ r, EvR code q r) (Classical.propDecidable _) (fun h => some (Classical.choose h)) (fun _ => none)
theorem EvOf_R {code : Nat → List mE} {q : mQ} {r : mR} : EvOf code q = some r ↔ EvR code q r := by
  unfold EvOf
  by_cases h : ∃ r, EvR code q r
  · rw [dif_pos h]
    constructor
    · intro e
      rw [← Option.some.inj e]
      exact Classical.choose_spec h
    · intro e
      rw [EvR.uniq e _ (Classical.choose_spec h)]
  · rw [dif_neg h]
    constructor
    · intro e; cases e
    · intro e; exact absurd ⟨r, e⟩ h
/-- one step of it -/
theorem EvOf_eq (code : Nat → List mE) (q : mQ) : EvOf code q = mblockOf code (EvOf code) q := by
  have h1 : ∀ r, EvOf code q = some r → mblockOf code (EvOf code) q = some r := by
    intro r h
    obtain ⟨Rf, hR, hb⟩ := (EvOf_R.mp h).inv
    exact mblock_mono code (fun q' r' h' => EvOf_R.mpr (hR q' r' h')) _ hb
  have h2 : ∀ r, mblockOf code (EvOf code) q = some r → EvOf code q = some r := fun r h => EvOf_R.mpr (EvR.mk (fun q' r' h' => EvOf_R.mp h') h)
  cases h : EvOf code q with
  | some r => exact (h1 r h).symm
  | none =>
    cases h' : mblockOf code (EvOf code) q with
    | none => rfl
    | some r => rw [h2 r h'] at h; cases h

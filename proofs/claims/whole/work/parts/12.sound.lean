/-! The small machine's answers are the machine's: context, and what a block's answer says of the machine -/
def isNestW : Cond → Bool
  | .fieldLinkNest .. => true
  | .methodLinkNest .. => true
  | _ => false
theorem nest_warm {w : Cond} (hw : isNestW w = true) {s U : State} (hW : s.WarmedH U.vm) (h : va_Nw w s) : va_Nw w U := by
  cases w <;> first | (simp [isNestW] at hw; done) | exact va_Nw.warmF hW h | exact va_Nw.warmM hW h
def mKS (D : va_G) (cy : Nat → ClassId) (U : State) : Prop := va_K D vwCl (mTys cy) U ∧ ∀ w ∈ tables_1, isNestW w = true → va_Nw w U
def mHS (ad : mO → Nat) (xs ys : Nat → Int32) (XL : Nat) (A : Nat → Prop) (U : State) (H : Heap) : Prop := va_X (ad (46, 0, 0, 0)) XL xs U H ∧ va_X (ad (51, 0, 0, 0)) 12 ys U H ∧ va_Z "SharedAir" "SETTING_AT_MOST" "[I" (.ref (ad (51, 0, 0, 0))) A U H
def mFix (ad : mO → Nat) (XL : Nat) (A : Nat → Prop) : Prop := adInj ad ∧ ¬ A (ad (46, 0, 0, 0)) ∧ ¬ A (ad (51, 0, 0, 0)) ∧ XL < 2 ^ 31 ∧ ∀ q, mA ad q → A q
def mRel (D : va_G) (cy : Nat → ClassId) (ad : mO → Nat) (xs ys : Nat → Int32) (XL : Nat) (σ : mS) (H : Heap) : Prop := va_P D vwCl (wsAll cy ad σ) H ∧ σ.1 (46, 0, 0, 0) = xs ∧ σ.1 (46, 0, 0, 1) 0 = nI XL ∧ σ.1 (51, 0, 0, 0) = ys
def mCtx (D : va_G) (cy : Nat → ClassId) (ad : mO → Nat) (xs ys : Nat → Int32) (XL : Nat) (A : Nat → Prop) (j : Nat) (p : Program) (s : State) (m : MethodId) (args : Array Value) (c : Code) : Prop :=
  p.tables.exec = Jvm.exec ∧ c.code = (mrow j).2.1 ∧ c.maxLocals = (mrow j).2.2.1 ∧ s.vm.findClass (cn (mrow j).2.2.2.2.1) = some m.cls ∧ (∀ w ∈ mBig, w.before args s = true) ∧ mKS D cy s ∧ mHS ad xs ys XL A s s.heap ∧ (j = 226 → mTh A s s.heap)
def okL (L : List (Option mV)) : Prop := ∀ i v, lget L i = some v → okV v
def okS (S : List mV) : Prop := ∀ v ∈ S, okV v
def mEnd (j : Nat) (pc : Nat) (rv : Option (Option mV)) (S : List Value) : Prop := match rv with
  | none => ∃ idx, decode (mrow j).2.1 pc = .ok (.new idx, 3) ∧ S = []
  | some none => decode (mrow j).2.1 pc = .ok (.return_, 1) ∧ S = [] ∧ (mrow j).2.2.2.1 = none
  | some (some (.inl x)) => decode (mrow j).2.1 pc = .ok (.ireturn, 1) ∧ S = [.int x] ∧ ((mrow j).2.2.2.1 = some .int ∨ ((mrow j).2.2.2.1 = some .boolean ∧ (x = 0 ∨ x = 1)))
  | some (some (.inr (.inl y))) => decode (mrow j).2.1 pc = .ok (.lreturn, 1) ∧ S = [.long y] ∧ (mrow j).2.2.2.1 = some .long
  | _ => False
def SndB (l : Launch) (D : va_G) (cy : Nat → ClassId) (ad : mO → Nat) (xs ys : Nat → Int32) (XL : Nat) (A : Nat → Prop) (b : Nat) (q : mQ) (r : mR) : Prop :=
  ∀ (p : Program) (e : Env) (R : Room) (s : State) (m : MethodId) (args : Array Value) (below : List Frame) (meth : Method) (c : Code), mCtx D cy ad xs ys XL A q.1 p s m args c → (mrow q.1).2.2.2.2.2.1 ≤ R.frames → (mrow q.1).2.2.2.2.2.2 ≤ R.locals →
  ∀ (Q : State → Prop) (H : Heap) (locs : List Loc) (cells slots : Nat) (ls : Array Slot), cells + b ≤ R.cells → slots + 6 * b ≤ R.slots → mRel D cy ad xs ys XL q.2.2.2.2 H → va_S A s.heap H locs → LR ad ls (mrow q.1).2.2.1 q.2.2.1 → okL q.2.2.1 → okS q.2.2.2.1 →
  (∀ (H' : Heap) (locs' : List Loc) (cells' slots' : Nat) (ls' : Array Slot) (pc' : Nat) (S' : List Value), cells' ≤ cells + b → slots' ≤ slots + 6 * b → mRel D cy ad xs ys XL r.2 H' → va_S A s.heap H' locs' → ls'.size = (mrow q.1).2.2.1 → mEnd q.1 pc' r.1 S' → W p l e R s m args below meth c H' locs' cells' slots' Q (F0 m pc' ls' S')) →
  W p l e R s m args below meth c H locs cells slots Q (F0 m q.2.1 ls (q.2.2.2.1.map (toV ad)))
theorem SndB.go {l : Launch} {D : va_G} {cy : Nat → ClassId} {ad : mO → Nat} {xs ys : Nat → Int32} {XL : Nat} {A : Nat → Prop} {b : Nat} {j pc : Nat} {L : List (Option mV)} {S : List mV} {σ : mS} {r : mR} (h : SndB l D cy ad xs ys XL A b (j, pc, L, S, σ) r)
  {p : Program} {e : Env} {R : Room} {s : State} {m : MethodId} {args : Array Value} {below : List Frame} {meth : Method} {c : Code} (C : mCtx D cy ad xs ys XL A j p s m args c) (hfr : (mrow j).2.2.2.2.2.1 ≤ R.frames) (hlo : (mrow j).2.2.2.2.2.2 ≤ R.locals)
  {Q : State → Prop} {H : Heap} {locs : List Loc} {cells slots : Nat} {ls : Array Slot} (hc : cells + b ≤ R.cells) (hs : slots + 6 * b ≤ R.slots) (hRel : mRel D cy ad xs ys XL σ H) (hSS : va_S A s.heap H locs) (hLR : LR ad ls (mrow j).2.2.1 L) (hokL : okL L) (hokS : okS S)
  (hfin : ∀ (H' : Heap) (locs' : List Loc) (cells' slots' : Nat) (ls' : Array Slot) (pc' : Nat) (S' : List Value), cells' ≤ cells + b → slots' ≤ slots + 6 * b → mRel D cy ad xs ys XL r.2 H' → va_S A s.heap H' locs' → ls'.size = (mrow j).2.2.1 → mEnd j pc' r.1 S' → W p l e R s m args below meth c H' locs' cells' slots' Q (F0 m pc' ls' S')) :
  W p l e R s m args below meth c H locs cells slots Q (F0 m pc ls (S.map (toV ad))) := h p e R s m args below meth c C hfr hlo Q H locs cells slots ls hc hs hRel hSS hLR hokL hokS hfin
def eLen (i : Jvm.ClassFile.Instr) : Nat := match i with
  | .iload _ | .lload _ | .aload _ | .istore _ | .lstore _ | .astore _ | .bipush _ | .ldc _ => 2
  | .sipush _ | .getfield _ | .putfield _ | .getstatic _ | .invokevirtual _ | .invokestatic _ | .invokespecial _ | .goto _ | .if_icmp _ _ | .ifCond _ _ | .iinc _ _ | .ldc_w _ | .ldc2_w _ | .new _ => 3
  | _ => 1
def eTgt (pc : Nat) (off : Int) (info : List Nat) : Bool := match info with
  | t :: _ :: _ => decide ((pc : Int) + off = (t : Int))
  | _ => false
def retB (ret : Nat) (t : Option FieldType) : Bool := match ret, t with
  | 0, none => true
  | 1, some .int => true
  | 1, some .boolean => true
  | 2, some .long => true
  | _, _ => false
def eCall (own i k fr lo : Nat) (info : List Nat) : Bool := match info with
  | [n, jc, ml, ret] => PLs.contains jc && ML.contains (own, i, jc, k, n) && Nat.beq ml (mrow jc).2.2.1 && retB ret (mrow jc).2.2.2.1 && Nat.ble ((mrow jc).2.2.2.2.2.1 + 1) fr && Nat.ble (8 + (ml + 11) + (mrow jc).2.2.2.2.2.2) lo
  | _ => false
def eOk (j : Nat) (e : mE) : Bool := match e.2.1 with
  | .iconst c => (match e.2.2.2.1 with | n :: _ => decide (Int32.ofInt c = nI n) | [] => true)
  | .bipush c => (match e.2.2.2.1 with | n :: _ => decide ((Int8.ofInt c).toInt32 = nI n) | [] => true)
  | .sipush c => (match e.2.2.2.1 with | n :: _ => decide ((Int16.ofInt c).toInt32 = nI n) | [] => true)
  | .ldc i => (match e.2.2.2.1 with | n :: _ => CL.contains ((mrow j).2.2.2.2.1, i, n, 0) | [] => false)
  | .ldc_w i => (match e.2.2.2.1 with | n :: _ => CL.contains ((mrow j).2.2.2.2.1, i, n, 0) | [] => false)
  | .ldc2_w i => (match e.2.2.2.1 with | n :: _ => CL.contains ((mrow j).2.2.2.2.1, i, n, 1) | [] => false)
  | .lconst c => (match e.2.2.2.1 with | n :: _ => decide (Int64.ofNat (c : Nat) = lN n) | [] => false)
  | .istore_n k => Nat.blt k.val (mrow j).2.2.1
  | .astore_n k => Nat.blt k.val (mrow j).2.2.1
  | .lstore_n k => Nat.blt (k.val + 1) (mrow j).2.2.1
  | .istore k => Nat.blt k (mrow j).2.2.1
  | .astore k => Nat.blt k (mrow j).2.2.1
  | .lstore k => Nat.blt (k + 1) (mrow j).2.2.1
  | .iinc k _ => Nat.blt k (mrow j).2.2.1
  | .goto off => eTgt e.1 off e.2.2.2.1
  | .if_icmp _ off => eTgt e.1 off e.2.2.2.1
  | .ifCond _ off => eTgt e.1 off e.2.2.2.1
  | .tableswitch d lo hi offs => decide (lo = 0) && decide (hi + 1 = (offs.size : Int)) && decide (e.2.2.2.1.map Int.ofNat = ((e.1 : Int) + d) :: offs.toList.map (fun o => (e.1 : Int) + o)) && Nat.blt offs.size 1000
  | .getfield i => (match e.2.2.2.1 with | [ci, f] => FL.contains ((mrow j).2.2.2.2.1, i, ci, f) | _ => false)
  | .putfield i => (match e.2.2.2.1 with
    | [ci, f] => FL.contains ((mrow j).2.2.2.2.1, i, ci, f) && !(fT ci f).2.2.2 && decide (fY ci f = .int) && decide (kFld f (ci, 0, 0, 0) = none)
    | [ci, f, _] => FL.contains ((mrow j).2.2.2.2.1, i, ci, f) && !(fT ci f).2.2.2 && decide (fY ci f = .boolean) && decide (kFld f (ci, 0, 0, 0) = none)
    | _ => false)
  | .getstatic i => (match e.2.2.2.1 with | [k] => Nat.beq (mrow j).2.2.2.2.1 9 && Nat.beq i 92 && Nat.beq k 51 | _ => false)
  | .invokevirtual i => (match e.2.2.2.1 with
    | n :: k :: jc :: info => Nat.blt k 11 && Nat.beq k (mrow jc).2.2.2.2.1 && eCall (mrow j).2.2.2.2.1 i 0 (mrow j).2.2.2.2.2.1 (mrow j).2.2.2.2.2.2 (n :: jc :: info)
    | _ => false)
  | .invokestatic i => (match e.2.2.2.1 with
    | [k] => MM.contains ((mrow j).2.2.2.2.1, i, k) && Nat.ble 1 (mrow j).2.2.2.2.2.1 && Nat.ble 21 (mrow j).2.2.2.2.2.2 && Nat.ble (8 + (nativeFrameWords "java/lang/System" "arraycopy" 5 + 11)) (mrow j).2.2.2.2.2.2
    | info => eCall (mrow j).2.2.2.2.1 i 1 (mrow j).2.2.2.2.2.1 (mrow j).2.2.2.2.2.2 info)
  | .ireturn => (match e.2.2.2.1 with
    | [] => decide ((mrow j).2.2.2.1 = some .int)
    | _ => decide ((mrow j).2.2.2.1 = some .boolean))
  | .lreturn => decide ((mrow j).2.2.2.1 = some .long)
  | .return_ => decide ((mrow j).2.2.2.1 = none)
  | _ => true
def eFall (i : Jvm.ClassFile.Instr) : Bool := match i with
  | .goto _ | .tableswitch .. | .ireturn | .lreturn | .return_ | .new _ | .athrow => false
  | _ => true
def eNext (e : mE) : List mE → Bool
  | [] => true
  | e' :: _ => !(eFall e.2.1) || Nat.beq e'.1 (e.1 + e.2.2.1)
def eLn (e : mE) : Bool := match e.2.1 with
  | .tableswitch .. => true
  | i => Nat.beq e.2.2.1 (eLen i)
def cOk (j : Nat) : List mE → Bool
  | [] => true
  | e :: rest => decide (decode (mrow j).2.1 e.1 = .ok (e.2.1, e.2.2.1)) && eLn e && eOk j e && eNext e rest && cOk j rest
theorem cOk_inv {j : Nat} {e : mE} {rest : List mE} (h : cOk j (e :: rest) = true) : decode (mrow j).2.1 e.1 = .ok (e.2.1, e.2.2.1) ∧ eLn e = true ∧ eOk j e = true ∧ eNext e rest = true ∧ cOk j rest = true := by
  unfold cOk at h
  obtain ⟨h, h5⟩ := (Bool.and_eq_true _ _).mp h
  obtain ⟨h, h4⟩ := (Bool.and_eq_true _ _).mp h
  obtain ⟨h, h3⟩ := (Bool.and_eq_true _ _).mp h
  obtain ⟨h1, h2⟩ := (Bool.and_eq_true _ _).mp h
  exact ⟨of_decide_eq_true h1, h2, h3, h4, h5⟩
theorem cOk_drop {j : Nat} : ∀ (c : List mE) (t : Nat), cOk j c = true → cOk j (dropTo c t) = true
  | [], _, _ => rfl
  | e :: r, t, h => by
    unfold dropTo
    cases Nat.beq e.1 t
    · exact cOk_drop r t (cOk_inv h).2.2.2.2
    · exact h
theorem dropTo_head : ∀ (c : List mE) (t : Nat) (e : mE) (r : List mE), dropTo c t = e :: r → e.1 = t
  | [], _, _, _, h => by cases h
  | e' :: r', t, e, r, h => by
    unfold dropTo at h
    cases hb : Nat.beq e'.1 t
    · rw [hb] at h; exact dropTo_head r' t e r h
    · rw [hb] at h
      cases h
      exact Nat.eq_of_beq_eq_true hb
/-- a property of what is left of the code: it stays along the code, and says what an entry is -/
def POk (j : Nat) (P : List mE → Prop) : Prop := ∀ (e : mE) (rest : List mE), P (e :: rest) → decode (mrow j).2.1 e.1 = .ok (e.2.1, e.2.2.1) ∧ eLn e = true ∧ eNext e rest = true ∧ P rest
theorem POk.drop {j : Nat} {P : List mE → Prop} (hP : POk j P) : ∀ (c : List mE) (t : Nat), P c → P (dropTo c t)
  | [], _, h => h
  | e :: r, t, h => by
    unfold dropTo
    cases Nat.beq e.1 t
    · exact POk.drop hP r t (hP e r h).2.2.2
    · exact h
theorem pOk_c (j : Nat) : POk j (fun c => cOk j c = true) := fun _ _ h => ⟨(cOk_inv h).1, (cOk_inv h).2.1, (cOk_inv h).2.2.2.1, (cOk_inv h).2.2.2.2⟩
section SN
variable {l : Launch} {D : va_G} {cy : Nat → ClassId} {ad : mO → Nat} {xs ys : Nat → Int32} {XL : Nat} {A : Nat → Prop} {b : Nat} {j : Nat} {P : List mE → Prop}
theorem SndB.mask {pc : Nat} {M : List Nat} {L : List (Option mV)} {S : List mV} {σ : mS} {r : mR} (h : SndB l D cy ad xs ys XL A b (j, pc, lmask M L, S, σ) r) : SndB l D cy ad xs ys XL A b (j, pc, L, S, σ) r := by
  intro p e R s m args below meth c C hfr hlo Q H locs cells slots ls hc hs hRel hSS hLR hokL hokS hfin
  exact h.go C hfr hlo hc hs hRel hSS (LR.of hLR fun i v hv => (lpairs_mem L 0 _).mpr ⟨i, v, lget_mask M L i v hv, by rw [Nat.zero_add]⟩) (fun i v hv => hokL i v (lget_mask M L i v hv)) hokS hfin
def KOk (l : Launch) (D : va_G) (cy : Nat → ClassId) (ad : mO → Nat) (xs ys : Nat → Int32) (XL : Nat) (A : Nat → Prop) (b : Nat) (j : Nat) (P : List mE → Prop) (K : mK) : Prop := POk j P ∧ ∀ (rest : List mE) (L : List (Option mV)) (S : List mV) (σ : mS) (r : mR), P rest → K rest L S σ = some r → ∃ (e : mE) (rest' : List mE), rest = e :: rest' ∧ SndB l D cy ad xs ys XL A b (j, e.1, L, S, σ) r
theorem KOk.nx {K : mK} (hK : KOk l D cy ad xs ys XL A b j P K) {e : mE} {rest : List mE} (hc : P (e :: rest)) (hf : eFall e.2.1 = true) {L : List (Option mV)} {S : List mV} {σ : mS} {r : mR} (h : K rest L S σ = some r) : SndB l D cy ad xs ys XL A b (j, e.1 + e.2.2.1, L, S, σ) r := by
  obtain ⟨-, -, h4, h5⟩ := hK.1 _ _ hc
  obtain ⟨e', rest', rfl, hS⟩ := hK.2 rest L S σ r h5 h
  unfold eNext at h4
  rw [hf] at h4
  have : e'.1 = e.1 + e.2.2.1 := Nat.eq_of_beq_eq_true (by simpa using h4)
  rw [← this]
  exact hS
theorem KOk.jp {Rf : mQ → Option mR} {K : mK} (hR : ∀ q r, Rf q = some r → q.1 = j → SndB l D cy ad xs ys XL A b q r) (hK : KOk l D cy ad xs ys XL A b j P K) {pc : Nat} {off : Int} {info : List Nat} {rest : List mE} (hc : P rest) (ht : eTgt pc off info = true) {L : List (Option mV)} {S : List mV} {σ : mS} {r : mR} (h : mjump Rf j K rest info L S σ = some r) : ∃ t : Nat, (pc : Int) + off = (t : Int) ∧ SndB l D cy ad xs ys XL A b (j, t, L, S, σ) r := by
  unfold eTgt at ht
  split at ht
  · rename_i t x M
    refine ⟨t, of_decide_eq_true ht, ?_⟩
    unfold mjump at h
    split at h
    · rename_i t' M' heq
      cases heq
      obtain ⟨e', rest', he, hS⟩ := hK.2 _ L S σ r (hK.1.drop rest _ hc) h
      have := dropTo_head _ _ _ _ he
      rw [← this]
      exact hS
    · rename_i t' x' M' _ heq
      cases heq
      exact (hR _ _ h rfl).mask
    · cases h
  · cases ht
theorem KOk.dr {K : mK} (hK : KOk l D cy ad xs ys XL A b j P K) {rest : List mE} {t : Nat} (hc : P rest) {L : List (Option mV)} {S : List mV} {σ : mS} {r : mR} (h : K (dropTo rest t) L S σ = some r) : SndB l D cy ad xs ys XL A b (j, t, L, S, σ) r := by
  obtain ⟨e', rest', he, hS⟩ := hK.2 _ L S σ r (hK.1.drop rest _ hc) h
  have := dropTo_head _ _ _ _ he
  rw [← this]
  exact hS
theorem snd_pure {pc pc' : Nat} {L : List (Option mV)} {S S' : List mV} {σ : mS} {r : mR}
    (hrow : ∀ {p : Program} {e : Env} {R : Room} {s : State} {m : MethodId} {args : Array Value} {below : List Frame} {meth : Method} {c : Code} {H : Heap} {locs : List Loc} {cells slots : Nat} {Q : State → Prop} {ls : Array Slot}, p.tables.exec = Jvm.exec → c.code = (mrow j).2.1 → s.vm.findClass (cn (mrow j).2.2.2.2.1) = some m.cls → (∀ w ∈ mBig, w.before args s = true) →
      W p l e R s m args below meth c H locs cells slots Q (F0 m pc' ls (S'.map (toV ad))) → W p l e R s m args below meth c H locs cells slots Q (F0 m pc ls (S.map (toV ad))))
    (hn : SndB l D cy ad xs ys XL A b (j, pc', L, S', σ) r) (hok : okS S → okS S') : SndB l D cy ad xs ys XL A b (j, pc, L, S, σ) r := by
  intro p e R s m args below meth c C hfr hlo Q H locs cells slots ls hc hs hRel hSS hLR hokL hokS hfin
  obtain ⟨hx, hb, hml, hown, hts, hKS, hHS, hT0⟩ := id C
  exact hrow hx hb hown hts (hn.go C hfr hlo hc hs hRel hSS hLR hokL (hok hokS) hfin)
theorem snd_load {pc pc' i : Nat} {L : List (Option mV)} {S : List mV} {v : mV} {σ : mS} {r : mR} (hv : lget L i = some v)
    (hrow : ∀ {p : Program} {e : Env} {R : Room} {s : State} {m : MethodId} {args : Array Value} {below : List Frame} {meth : Method} {c : Code} {H : Heap} {locs : List Loc} {cells slots : Nat} {Q : State → Prop} {ls : Array Slot}, p.tables.exec = Jvm.exec → c.code = (mrow j).2.1 → ls[i]? = some (.val (toV ad v)) →
      W p l e R s m args below meth c H locs cells slots Q (F0 m pc' ls (toV ad v :: S.map (toV ad))) → W p l e R s m args below meth c H locs cells slots Q (F0 m pc ls (S.map (toV ad))))
    (hn : SndB l D cy ad xs ys XL A b (j, pc', L, v :: S, σ) r) : SndB l D cy ad xs ys XL A b (j, pc, L, S, σ) r := by
  intro p e R s m args below meth c C hfr hlo Q H locs cells slots ls hc hs hRel hSS hLR hokL hokS hfin
  obtain ⟨hx, hb, hml, hown, hts, hKS, hHS, hT0⟩ := id C
  exact hrow hx hb (hLR.get hv) (hn.go C hfr hlo hc hs hRel hSS hLR hokL (fun w hw => by
    rcases List.mem_cons.mp hw with rfl | hw
    · exact hokL i _ hv
    · exact hokS w hw) hfin)
theorem snd_store {pc pc' : Nat} {L L' : List (Option mV)} {S S' : List mV} {σ : mS} {r : mR}
    (hrow : ∀ {p : Program} {e : Env} {R : Room} {s : State} {m : MethodId} {args : Array Value} {below : List Frame} {meth : Method} {c : Code} {H : Heap} {locs : List Loc} {cells slots : Nat} {Q : State → Prop} {ls : Array Slot}, p.tables.exec = Jvm.exec → c.code = (mrow j).2.1 → LR ad ls (mrow j).2.2.1 L →
      (∀ ls' : Array Slot, LR ad ls' (mrow j).2.2.1 L' → W p l e R s m args below meth c H locs cells slots Q (F0 m pc' ls' (S'.map (toV ad)))) → W p l e R s m args below meth c H locs cells slots Q (F0 m pc ls (S.map (toV ad))))
    (hn : SndB l D cy ad xs ys XL A b (j, pc', L', S', σ) r) (hokl : okL L → okS S → okL L') (hok : okS S → okS S') : SndB l D cy ad xs ys XL A b (j, pc, L, S, σ) r := by
  intro p e R s m args below meth c C hfr hlo Q H locs cells slots ls hc hs hRel hSS hLR hokL hokS hfin
  obtain ⟨hx, hb, hml, hown, hts, hKS, hHS, hT0⟩ := id C
  exact hrow hx hb hLR (fun ls' hLR' => hn.go C hfr hlo hc hs hRel hSS hLR' (hokl hokL hokS) (hok hokS) hfin)
theorem okS.tl {v : mV} {S : List mV} (h : okS (v :: S)) : okS S := fun w hw => h w (List.mem_cons_of_mem _ hw)
theorem okS.hd {v : mV} {S : List mV} (h : okS (v :: S)) : okV v := h v List.mem_cons_self
theorem okS.cs {v : mV} {S : List mV} (hv : okV v) (h : okS S) : okS (v :: S) := fun w hw => by
  rcases List.mem_cons.mp hw with rfl | hw
  · exact hv
  · exact h w hw
theorem okL.put {L : List (Option mV)} {i : Nat} {v : mV} (h : okL L) (hv : okV v) : okL (lput L i v) := fun k w hw => by
  rcases lget_put hw with ⟨-, rfl⟩ | ⟨-, h2, -⟩
  · exact hv
  · exact h k w h2
theorem okL.putL {L : List (Option mV)} {i : Nat} {v : mV} (h : okL L) (hv : okV v) : okL (lputL L i v) := fun k w hw => by
  unfold lputL at hw
  rw [lget_set] at hw
  by_cases hj : k = i + 1 ∧ i + 1 < (lput L i v).length
  · rw [if_pos hj] at hw; cases hw
  · rw [if_neg hj] at hw; exact h.put hv k w hw
theorem nI_ofInt {c : Int} {n : Nat} (h : decide (Int32.ofInt c = nI n) = true) : Int32.ofInt c = nI n := of_decide_eq_true h
end SN

/-! The six methods that throw: contracts -/
theorem dec_u0 {cc : ByteArray} {pc : Nat} (hn : ¬ pc < cc.size) : (Reader.u1 : Decoder Nat) cc pc = .error (HasTruncated.truncated pc) := by
  have e : (Reader.u1 : Decoder Nat) cc pc = (dite (pc < cc.size) (fun h => (do set (pc + 1); Pure.pure cc[pc].toNat : Decoder Nat)) (fun _ => throw (HasTruncated.truncated pc))) cc pc := rfl
  rw [e, dif_neg hn]
  rfl
theorem dec_u1 {α : Type} {cc : ByteArray} {pc : Nat} (hn : ¬ pc < cc.size) (k : Nat → Decoder α) : Reader.runAt (Reader.u1 >>= k) cc pc = .error (HasTruncated.truncated pc) := by
  have e : Reader.runAt (Reader.u1 >>= k) cc pc = ((Reader.u1 : Decoder Nat) cc pc >>= fun q => k q.1 cc q.2) := rfl
  rw [e, dec_u0 hn]
  rfl
theorem dec_lt {cc : ByteArray} {pc : Nat} {x : Jvm.ClassFile.Instr × Nat} (h : decode cc pc = .ok x) : pc < cc.size := by
  apply Classical.byContradiction
  intro hn
  have e : (Decoder.instr pc).runAt cc pc = .error (HasTruncated.truncated pc) := dec_u1 hn _
  unfold decode at h
  rw [e] at h
  cases h
/-- every 'new' is that of the one throw -/
def thOk (cc : ByteArray) : Bool := (List.range cc.size).all fun pc => match decode cc pc with
  | .ok (.new idx, 3) => Nat.beq idx 98 && (match decode cc (pc + 3) with | .ok (.dup, 1) => true | _ => false) && (match decode cc (pc + 4) with | .ok (.invokespecial i, 3) => Nat.beq i 100 | _ => false) && (match decode cc (pc + 7) with | .ok (.athrow, 1) => true | _ => false)
  | _ => true
theorem thOk_at {cc : ByteArray} (h : thOk cc = true) {pc idx : Nat} (hd : decode cc pc = .ok (.new idx, 3)) : idx = 98 ∧ decode cc (pc + 3) = .ok (.dup, 1) ∧ decode cc (pc + 4) = .ok (.invokespecial 100, 3) ∧ decode cc (pc + 7) = .ok (.athrow, 1) := by
  have h1 := List.all_eq_true.mp h pc (List.mem_range.mpr (dec_lt hd))
  rw [hd] at h1
  simp only [Bool.and_eq_true] at h1
  obtain ⟨⟨⟨a, b⟩, c⟩, d⟩ := h1
  refine ⟨Nat.eq_of_beq_eq_true a, ?_, ?_, ?_⟩
  · split at b
    · assumption
    · cases b
  · split at c
    · rename_i i he
      rw [he, Nat.eq_of_beq_eq_true c]
    · cases c
  · split at d
    · assumption
    · cases d
section TH
variable {l : Launch} {D : va_G} {cy : Nat → ClassId} {ad : mO → Nat} {xs ys : Nat → Int32} {XL : Nat} {A : Nat → Prop} {b : Nat} {j : Nat}
theorem tW_tab : tW.all (fun w => w.onTables) = true := by decide +kernel
theorem tW_at {args : Array Value} {s : State} (hts : ∀ w ∈ mBig, w.before args s = true) (h : ∀ w ∈ tW, goodWord w = false → va_Nw w s) : ∀ w ∈ tW, w.before args s = true := fun w hw => by
  cases hg : goodWord w
  · exact va_Nw.use (List.all_eq_true.mp tW_tab w hw) (h w hw hg)
  · exact hts w (mB (List.contains_iff_mem.mp (List.all_eq_true.mp tW_in w hw)) hg)
theorem mRel.kept {σ : mS} {H H1 : Heap} (h : mRel D cy ad xs ys XL σ H) (hq : ∀ q : Nat, q < H.size → H1[q]? = H[q]?) : mRel D cy ad xs ys XL σ H1 := by
  refine ⟨va_P.kept h.1 fun k q hk => hq _ (vx_lt h.1 hk), h.2⟩
def mRmT (jc : Nat) : Room := { frames := (mrow jc).2.2.2.2.2.1, cells := 1, slots := 6, locals := (mrow jc).2.2.2.2.2.2 }
def mQt (D : va_G) (cy : Nat → ClassId) (ad : mO → Nat) (xs ys : Nat → Int32) (XL : Nat) (r : mR) : Array Value → State → Outcome → State → Prop := match r.1 with
  | some rv => mQc D cy ad xs ys XL rv r.2
  | none => fun _ _ _ _ => False
def mXt (D : va_G) (cy : Nat → ClassId) (ad : mO → Nat) (xs ys : Nat → Int32) (XL : Nat) (r : mR) : String → State → State → Prop := match r.1 with
  | none => vx_X (fun _ : Unit => True) (fun E _ t => E = nse ∧ mRel D cy ad xs ys XL r.2 t.heap) (mA ad)
  | some _ => fun _ _ _ => False
def MetT (l : Launch) (D : va_G) (cy : Nat → ClassId) (ad : mO → Nat) (xs ys : Nat → Int32) (XL : Nat) (jc : Nat) (acc : List mV) (σ : mS) (r : mR) : Prop :=
  vx_Met l (mrow jc).1 (mW jc) (mRmT jc) (va_Pc (acc.map (toV ad)) (fun U => mRel D cy ad xs ys XL σ U.heap ∧ mKS D cy U ∧ mHS ad xs ys XL (mA ad) U U.heap ∧ mTh (mA ad) U U.heap)) (mQt D cy ad xs ys XL r) (mXt D cy ad xs ys XL r) 1 6 (mA ad)
theorem met_ofT (hl : l.stackTraces = false) {jc : Nat} (hj : jc ≠ 226) {acc : List mV} {σ : mS} {r : mR} (h : SndB l D cy ad xs ys XL (mA ad) 0 (jc, 0, largs (mrow jc).2.2.1 acc, [], σ) r) (hcl : (mrow jc).1.cls = cn (mrow jc).2.2.2.2.1) (hok : okS acc) (hw : swords acc ≤ (mrow jc).2.2.1)
    (hth : thOk (mrow jc).2.1 = true) (h9 : cn (mrow jc).2.2.2.2.1 = "SharedAir") (hf5 : 5 < (mrow jc).2.2.2.2.2.1) (hl81 : 81 ≤ (mrow jc).2.2.2.2.2.2) : MetT l D cy ad xs ys XL jc acc σ r := by
  refine vx_ofW (cc := (mrow jc).2.1) (maxL := (mrow jc).2.2.1) (ret := (mrow jc).2.2.2.1) (by rw [hcl]; exact cn_plain _) rfl ?_
  intro p e s m args below meth c s₁ B hml htab hv
  obtain ⟨rfl, hRel, hKS, hHS, hTh⟩ := hv
  have hx := B.exec
  have hb := B.bytes
  have hr := B.returns
  have hts0 := atoms_spec (ws := mW jc) B.pre
  have hts : ∀ w ∈ mBig, w.before (acc.map (toV ad)).toArray s = true := fun w hw => hts0 w (List.mem_cons_of_mem _ hw)
  have hown : s.vm.findClass (cn (mrow jc).2.2.2.2.1) = some m.cls := by rw [← hcl]; exact findClass_of_methodNamed B.named
  have hlocks := B.notSynchronized
  have hlv := lv_entry (acc.map (toV ad)) (n := (mrow jc).2.2.1) (by rw [lg_words]; exact hw)
  rw [lg_entry_eq]
  generalize (lg_sl (acc.map (toV ad)) ++ List.replicate ((mrow jc).2.2.1 - (lg_sl (acc.map (toV ad))).length) Slot.unset).toArray = ls at hlv ⊢
  have hLR : LR ad ls (mrow jc).2.2.1 (largs (mrow jc).2.2.1 acc) := LR.of hlv fun i v hv => by
    have := largs_pairs (ad := ad) _ _ 0 i v hv
    rwa [Nat.zero_add] at this
  have tat := tW_at hts hTh.1
  refine h.go (Q := vx_MQ below (mQt D cy ad xs ys XL r) (mXt D cy ad xs ys XL r) (acc.map (toV ad)).toArray s 1 6 (mA ad)) ⟨hx, hb, hml, hown, hts, hKS, hHS, fun z => absurd z hj⟩ (Nat.le_refl _) (Nat.le_refl _) (Nat.zero_le _) (Nat.zero_le _) hRel va_S.rf hLR (largs_ok hok) (fun w hw => absurd hw List.not_mem_nil) ?_
  intro H' locs' cells' slots' ls' pc' S' hc0 hs0 hRel' hSS' hsz hend
  obtain ⟨rv, σ'⟩ := r
  match rv, hend with
  | none, hend =>
    obtain ⟨idx, hd, rfl⟩ := hend
    obtain ⟨rfl, d3, d4, d7⟩ := thOk_at hth hd
    exact vx_throw0 (own := "SharedAir") (cls := nse) (names := nseUp) (A := mA ad) hx hb hl (by rw [← h9]; exact hown) nse_fit (List.all_eq_true.mp nseUp_fit) (tat _ List.mem_cons_self) (tat _ (List.mem_cons_of_mem _ List.mem_cons_self)) (fun w hw => tat w (List.mem_cons_of_mem _ (List.mem_cons_of_mem _ hw))) (List.all_eq_true.mp tW_ot) hTh.2.1 hTh.2.2 hSS' (hsz.trans hml.symm) hd d3 d4 d7 (fun x hx => (htab x hx).elim) hf5 (by show 0 + (13 * (2 + 1) + 42) ≤ (mrow jc).2.2.2.2.2.2; omega) (by show cells' + 1 ≤ 1; omega) (by show slots' + 6 ≤ 6; omega) hlocks
      (fun t hal hsz2 hq => ⟨(), trivial, ⟨rfl, hRel'.kept hq⟩, Nat.le_trans hSS'.1 hsz2, fun q h1 h2 => (hq q (Nat.lt_of_lt_of_le h1 hSS'.1)).trans (hSS'.2.1 q h1 h2)⟩) hSS'.2.2 (by omega) (by omega)
  | some rv, hend =>
    have wd : ∀ {g : JFrame}, W p l e (headSpec (mW jc) (mRmT jc)).room s m (acc.map (toV ad)).toArray below meth c H' locs' 1 6 (MQ below (mQc D cy ad xs ys XL rv σ') (acc.map (toV ad)).toArray s 1 6 (mA ad)) g → W p l e (headSpec (mW jc) (mRmT jc)).room s m (acc.map (toV ad)).toArray below meth c H' locs' cells' slots' (vx_MQ below (mQt D cy ad xs ys XL (some rv, σ')) (mXt D cy ad xs ys XL (some rv, σ')) (acc.map (toV ad)).toArray s 1 6 (mA ad)) g := fun k => vx_ret (fun T hT X => k T hT (stand_widen X (by omega) (by omega)))
    match rv, hend with
    | none, hend =>
      obtain ⟨hd, rfl, hret⟩ := hend
      exact wd (W.vret hx hb (by rw [hr, hret]) (fun t ht hW => ⟨⟨(), rfl, trivial, by dsimp only; rw [ht]; exact hRel'⟩, hSS'.F ht⟩) hSS'.2.2 hd)
    | some (.inl x), hend =>
      obtain ⟨hd, rfl, hret⟩ := hend
      rcases hret with hret | ⟨hret, hx01⟩
      · exact wd (W.zret (ty := .int) hx hb (by rw [hr, hret]) rfl (fun t ht hW => ⟨⟨x, (), rfl, rfl, by dsimp only; rw [ht]; exact hRel'⟩, hSS'.F ht⟩) hSS'.2.2 hd)
      · exact wd (W.zret (ty := .boolean) hx hb (by rw [hr, hret]) (by rcases hx01 with rfl | rfl <;> rfl) (fun t ht hW => ⟨⟨x, (), rfl, rfl, by dsimp only; rw [ht]; exact hRel'⟩, hSS'.F ht⟩) hSS'.2.2 hd)
    | some (.inr (.inl y)), hend =>
      obtain ⟨hd, rfl, hret⟩ := hend
      exact wd (W.lret hx hb (by rw [hr, hret]) (fun t ht hW => ⟨⟨y, (), rfl, rfl, by dsimp only; rw [ht]; exact hRel'⟩, hSS'.F ht⟩) hSS'.2.2 hd)
    | some (.inr (.inr o)), hend => exact absurd hend id
end TH

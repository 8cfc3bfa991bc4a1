/-! One instruction of the small machine is one of the machine: fields, rows, one lemma each -/
section SC
variable {l : Launch} {D : va_G} {cy : Nat → ClassId} {ad : mO → Nat} {xs ys : Nat → Int32} {XL : Nat} {A : Nat → Prop} {b : Nat} {j : Nat}
theorem fDc : ∀ k, k < 11 → ∀ f, f < fN k → (fT k f).1 = cn k
  | 0, _ => (by decide +kernel : ∀ f, f < fN 0 → (TX0 f).1 = RX0)
  | 1, _ => (by decide +kernel : ∀ f, f < fN 1 → (TX1 f).1 = RX1)
  | 2, _ => (by decide +kernel : ∀ f, f < fN 2 → (TX2 f).1 = RX2)
  | 3, _ => (by decide +kernel : ∀ f, f < fN 3 → (TX3 f).1 = RX3)
  | 4, _ => (by decide +kernel : ∀ f, f < fN 4 → (TX4 f).1 = RX4)
  | 5, _ => (by decide +kernel : ∀ f, f < fN 5 → (TX5 f).1 = RX5)
  | 6, _ => (by decide +kernel : ∀ f, f < fN 6 → (TX6 f).1 = RX6)
  | 7, _ => (by decide +kernel : ∀ f, f < fN 7 → (TX7 f).1 = RX7)
  | 8, _ => (by decide +kernel : ∀ f, f < fN 8 → (TX8 f).1 = RX8)
  | 9, _ => (by decide +kernel : ∀ f, f < fN 9 → (TX9 f).1 = RX9)
  | 10, _ => (by decide +kernel : ∀ f, f < fN 10 → (TX10 f).1 = RX10)
  | n + 11, h => by omega
theorem snd_getf {pc idx ci f : Nat} {o : mO} {L : List (Option mV)} {S : List mV} {σ : mS} {r : mR} (hd : decode (mrow j).2.1 pc = .ok (.getfield idx, 3)) (hlk : FLok ((mrow j).2.2.2.2.1, idx, ci, f)) (hk : o.1 = ci) {v : mV} (hv : v = match kFld f o with | some o' => .inr (.inr o') | none => .inl (σ.1 o f))
    (hn : SndB l D cy ad xs ys XL A b (j, pc + 3, L, v :: S, σ) r) : SndB l D cy ad xs ys XL A b (j, pc, L, .inr (.inr o) :: S, σ) r := by
  intro p e R s m args below meth c C hfr hlo Q H locs cells slots ls hc hs hRel hSS hLR hokL hokS hfin
  obtain ⟨hx, hb, hml, hown, hts, hKS, hHS, hT0⟩ := id C
  obtain ⟨hl, hci, hfn⟩ := hlk
  dsimp only at hl hci hfn
  have hoR : okR o := hokS.hd
  have hoO : okO o := okR_ok hoR (by omega)
  obtain ⟨q0, hq, hw⟩ := ws_at (cy := cy) (ad := ad) hoO
  have he := hw σ
  rw [mCell_obj (by omega), hk] at he
  have hvv : ((List.range (fN ci)).map (fCell ad σ o))[f]? = some (fCell ad σ o f) := by simp [hfn]
  have key : fCell ad σ o f = toV ad v := by
    rw [hv]
    unfold fCell
    cases kFld f o <;> rfl
  have hokv : okV v := by
    rw [hv]
    cases hkf : kFld f o with
    | none => trivial
    | some o' => exact Or.inl (kFld_ok _ _ _ _ _ _ hoO hkf)
  have kk := hn.go C hfr hlo hc hs hRel hSS hLR hokL (hokS.tl.cs hokv) hfin
  rw [List.map_cons, ← key] at kk
  rcases hl with hl | hl
  · exact va_get hx hb hts (fLay ci hci) hown hKS.1 hRel.1 q0 he (fCl ci hci) f hfn (hts _ hl) (fun _ h => by rw [← fDc ci hci f hfn]; exact h) hvv hd kk
  · exact va_getN hx hb hts (fLay ci hci) hown hKS.1 hRel.1 q0 he (fCl ci hci) f hfn (va_Nw.use rfl (hKS.2 _ hl rfl)) (fun _ h => by rw [← fDc ci hci f hfn]; exact h) hvv hd kk
theorem snd_putf (hF : mFix ad XL A) {pc idx ci f : Nat} {o : mO} {x : Int32} {L : List (Option mV)} {S : List mV} {σ : mS} {r : mR} (hd : decode (mrow j).2.1 pc = .ok (.putfield idx, 3)) (hlk : FLok ((mrow j).2.2.2.2.1, idx, ci, f)) (hk : o.1 = ci) (hfin0 : (fT ci f).2.2.2 = false) {ty : FieldType} (hty : fY ci f = ty) (hnar : narrow ty (.int x) = .int x) (hfit : fits ty (.int x) = true) (hkf : kFld f (ci, 0, 0, 0) = none)
    (hn : SndB l D cy ad xs ys XL A b (j, pc + 3, L, S, st σ o f x) r) : SndB l D cy ad xs ys XL A b (j, pc, L, .inl x :: .inr (.inr o) :: S, σ) r := by
  intro p e R s m args below meth c C hfr hlo Q H locs cells slots ls hc hs hRel hSS hLR hokL hokS hfin
  obtain ⟨hx, hb, hml, hown, hts, hKS, hHS, hT0⟩ := id C
  obtain ⟨hl, hci, hfn⟩ := hlk
  dsimp only at hl hci hfn
  have hoR : okR o := hokS.tl.hd
  have hoO : okO o := okR_ok hoR (by omega)
  obtain ⟨q0, hq, hw⟩ := ws_at (cy := cy) (ad := ad) hoO
  have he := hw σ
  rw [mCell_obj (by omega), hk] at he
  have hkf' : kFld f o = none := by
    obtain ⟨k, a, s', r'⟩ := o
    cases hk
    exact (kFld_dep0 _ _ _ _ _).mpr hkf
  have hset : (.inr (ci, ((List.range (fN ci)).map (fCell ad σ o)).set f (.int x)) : va_E) = mCell cy ad (st σ o f x) o := by
    rw [mCell_obj (by omega), hk]
    have e1 : (Value.int x) = fCell ad (st σ o f x) o f := by
      unfold fCell
      rw [hkf']
      simp [st]
    rw [e1, set_map (g := fCell ad σ o) (g' := fCell ad (st σ o f x) o)]
    intro k hkn
    unfold fCell
    cases kFld k o with
    | some o' => rfl
    | none => simp [st, hkn]
  have hty2 : parseFieldDescriptor (fT ci f).2.2.1 = some ty := by rw [fTy ci hci f hfn, hty]
  have hlen : f < ((List.range (fN ci)).map (fCell ad σ o)).length := by simpa using hfn
  have kk : ∀ (H1 : Heap) (locs1 : List Loc), va_P D vwCl ((wsAll cy ad σ).set q0 (ad o, .inr (ci, ((List.range (fN ci)).map (fCell ad σ o)).set f (.int x)))) H1 → va_D A ((wsAll cy ad σ).set q0 (ad o, .inr (ci, ((List.range (fN ci)).map (fCell ad σ o)).set f (.int x)))) → va_S A s.heap H1 locs1 → W p l e R s m args below meth c H1 locs1 cells slots Q (F0 m (pc + 3) ls (S.map (toV ad))) := by
    intro H1 locs1 hP1 hD1 hS1
    exact hn.go C hfr hlo hc hs (rel_st hoO hq hset hRel hP1) hS1 hLR hokL hokS.tl.tl hfin
  rcases hl with hl | hl
  · exact va_put hx hb hts (fLay ci hci) (fY ci) (fTy ci hci) (fNm ci hci) hown hKS.1 hRel.1 ((ws_D hF.1 σ).weaken (fun _ _ _ h => hF.2.2.2.2 _ h)) hSS q0 he (fCl ci hci) f hfn (hts _ hl) (fun _ h => by rw [← fDc ci hci f hfn]; exact h) hfin0 hty2 hnar hfit hlen hd kk
  · exact va_putN hx hb hts (fLay ci hci) (fY ci) (fTy ci hci) (fNm ci hci) hown hKS.1 hRel.1 ((ws_D hF.1 σ).weaken (fun _ _ _ h => hF.2.2.2.2 _ h)) hSS q0 he (fCl ci hci) f hfn (va_Nw.use rfl (hKS.2 _ hl rfl)) (fun _ h => by rw [← fDc ci hci f hfn]; exact h) hfin0 hty2 hnar hfit hlen hd kk
theorem vp_of {i : Int32} {n : Nat} (h : ¬ (i < 0 ∨ n ≤ i.toNatClampNeg)) : vp_in i n := h
theorem row_ok {o : mO} {t n : Nat} (h : okR o) (hr : kRow o.1 = (t, n)) (ht : t = 1 ∨ t = 2 ∨ t = 3 ∨ t = 4 ∨ t = 5) : okO o := okR_ok h (kRow_le _ _ _ hr ht)
/-- a number out of a row of ints, bytes or booleans -/
theorem snd_rld {pc pc' t n : Nat} {o : mO} {i : Int32} {L : List (Option mV)} {S : List mV} {σ : mS} {r : mR} (hr : kRow o.1 = (t, n)) (ht : t = 1 ∨ t = 2 ∨ t = 3) (hin : ¬ (i < 0 ∨ n ≤ i.toNatClampNeg))
    (hrow : ∀ {p : Program} {e : Env} {R : Room} {s : State} {m : MethodId} {args : Array Value} {below : List Frame} {meth : Method} {c : Code} {H : Heap} {locs : List Loc} {cells slots : Nat} {Q : State → Prop} {ls : Array Slot} {ws : va_W} {a q0 : Nat} {f : Nat → Int32}, p.tables.exec = Jvm.exec → c.code = (mrow j).2.1 → va_K D vwCl (mTys cy) s → va_P D vwCl ws H → ws[q0]? = some (a, .inl (cy t, n, .inl f)) →
      W p l e R s m args below meth c H locs cells slots Q (F0 m pc' ls (.int (f i.toNatClampNeg) :: S.map (toV ad))) → W p l e R s m args below meth c H locs cells slots Q (F0 m pc ls (.int i :: .ref a :: S.map (toV ad))))
    (hn : SndB l D cy ad xs ys XL A b (j, pc', L, .inl (σ.1 o i.toNatClampNeg) :: S, σ) r) : SndB l D cy ad xs ys XL A b (j, pc, L, .inl i :: .inr (.inr o) :: S, σ) r := by
  intro p e R s m args below meth c C hfr hlo Q H locs cells slots ls hc hs hRel hSS hLR hokL hokS hfin
  obtain ⟨hx, hb, hml, hown, hts, hKS, hHS, hT0⟩ := id C
  have hoO : okO o := row_ok hokS.tl.hd hr (by omega)
  obtain ⟨q0, hq, hw⟩ := ws_at (cy := cy) (ad := ad) hoO
  have he := hw σ
  rw [mCell_int hr ht] at he
  exact hrow hx hb hKS.1 hRel.1 he (hn.go C hfr hlo hc hs hRel hSS hLR hokL (hokS.tl.tl.cs trivial) hfin)
theorem snd_lld {pc n : Nat} {o : mO} {i : Int32} {L : List (Option mV)} {S : List mV} {σ : mS} {r : mR} (hr : kRow o.1 = (4, n)) (hin : ¬ (i < 0 ∨ n ≤ i.toNatClampNeg)) (hd : decode (mrow j).2.1 pc = .ok (.laload, 1))
    (hn : SndB l D cy ad xs ys XL A b (j, pc + 1, L, .inr (.inl (σ.2 o i.toNatClampNeg)) :: S, σ) r) : SndB l D cy ad xs ys XL A b (j, pc, L, .inl i :: .inr (.inr o) :: S, σ) r := by
  intro p e R s m args below meth c C hfr hlo Q H locs cells slots ls hc hs hRel hSS hLR hokL hokS hfin
  obtain ⟨hx, hb, hml, hown, hts, hKS, hHS, hT0⟩ := id C
  have hoO : okO o := row_ok hokS.tl.hd hr (by omega)
  obtain ⟨q0, hq, hw⟩ := ws_at (cy := cy) (ad := ad) hoO
  have he := hw σ
  rw [mCell_long hr] at he
  exact va_lald hx hb hKS.1 hRel.1 q0 3 he rfl (vp_of hin) hd (hn.go C hfr hlo hc hs hRel hSS hLR hokL (hokS.tl.tl.cs trivial) hfin)
theorem snd_ald {pc n : Nat} {o o' : mO} {i : Int32} {L : List (Option mV)} {S : List mV} {σ : mS} {r : mR} (hr : kRow o.1 = (5, n)) (hin : ¬ (i < 0 ∨ n ≤ i.toNatClampNeg)) (ho' : kEl i.toNatClampNeg o = some o') (hd : decode (mrow j).2.1 pc = .ok (.aaload, 1))
    (hn : SndB l D cy ad xs ys XL A b (j, pc + 1, L, .inr (.inr o') :: S, σ) r) : SndB l D cy ad xs ys XL A b (j, pc, L, .inl i :: .inr (.inr o) :: S, σ) r := by
  intro p e R s m args below meth c C hfr hlo Q H locs cells slots ls hc hs hRel hSS hLR hokL hokS hfin
  obtain ⟨hx, hb, hml, hown, hts, hKS, hHS, hT0⟩ := id C
  have hoO : okO o := row_ok hokS.tl.hd hr (by omega)
  obtain ⟨q0, hq, hw⟩ := ws_at (cy := cy) (ad := ad) hoO
  have he := hw σ
  rw [mCell_ref hr] at he
  have hlt : i.toNatClampNeg < n := Nat.not_le.mp fun q => hin (Or.inr q)
  have hok' : okO o' := by
    obtain ⟨k, a, s', r'⟩ := o
    exact kEl_ok _ _ _ _ _ _ _ hoO hr hlt ho'
  have kk := hn.go C hfr hlo hc hs hRel hSS hLR hokL (hokS.tl.tl.cs (v := .inr (.inr o')) (Or.inl hok')) hfin
  have ev : toV ad (.inr (.inr o')) = va_rf (((fun i => (kEl i o).map ad) : Nat → Option Nat) i.toNatClampNeg) := by
    show Value.ref (ad o') = va_rf ((kEl i.toNatClampNeg o).map ad)
    rw [ho']
    rfl
  rw [List.map_cons, ev] at kk
  rcases kRow_kind5 _ _ hr with h5 | h5 | h5 | h5
  · rw [h5] at he
    exact va_aldq hx hb hKS.1 hRel.1 q0 4 he rfl (vp_of hin) hd kk
  · rw [h5] at he
    exact va_aldq hx hb hKS.1 hRel.1 q0 5 he rfl (vp_of hin) hd kk
  · rw [h5] at he
    exact va_aldq hx hb hKS.1 hRel.1 q0 6 he rfl (vp_of hin) hd kk
  · rw [h5] at he
    exact va_aldq hx hb hKS.1 hRel.1 q0 7 he rfl (vp_of hin) hd kk
/-- the script, and the static row -/
theorem script_o {o : mO} {n : Nat} (h : okR o) (hr : kRow o.1 = (6, n)) : o = (46, 0, 0, 0) := by
  rcases h with h | rfl | rfl
  · have := kRow_46 _ _ hr
    have := h.1
    omega
  · rfl
  · cases hr
theorem static_o {o : mO} {n : Nat} (h : okR o) (hr : kRow o.1 = (7, n)) : o = (51, 0, 0, 0) ∧ n = 12 := by
  rcases h with h | rfl | rfl
  · have := kRow_50 _ _ hr
    have := h.1
    omega
  · cases hr
  · cases hr; exact ⟨rfl, rfl⟩
theorem va_X.lt {b L : Nat} {zs : Nat → Int32} {U : State} {H : Heap} (h : va_X b L zs U H) : b < H.size := by
  obtain ⟨scr, h1, -⟩ := h
  exact (Array.getElem?_eq_some_iff.mp h1).1
theorem snd_sld (hF : mFix ad XL A) {pc n : Nat} {o : mO} {i : Int32} {L : List (Option mV)} {S : List mV} {σ : mS} {r : mR} (hr : kRow o.1 = (6, n)) (hin : ¬ (i < 0 ∨ (σ.1 (46, 0, 0, 1) 0).toNatClampNeg ≤ i.toNatClampNeg)) (hd : decode (mrow j).2.1 pc = .ok (.iaload, 1))
    (hn : SndB l D cy ad xs ys XL A b (j, pc + 1, L, .inl (σ.1 o i.toNatClampNeg) :: S, σ) r) : SndB l D cy ad xs ys XL A b (j, pc, L, .inl i :: .inr (.inr o) :: S, σ) r := by
  intro p e R s m args below meth c C hfr hlo Q H locs cells slots ls hc hs hRel hSS hLR hokL hokS hfin
  obtain ⟨hx, hb, hml, hown, hts, hKS, hHS, hT0⟩ := id C
  have ho := script_o hokS.tl.hd hr
  subst ho
  rw [hRel.2.2.1, nI_clamp hF.2.2.2.1] at hin
  have kk := hn.go C hfr hlo hc hs hRel hSS hLR hokL (hokS.tl.tl.cs trivial) hfin
  rw [hRel.2.1] at kk
  exact va_sld hx hb hHS.1 hHS.1.lt hF.2.1 hSS (vp_of hin) hd kk
theorem snd_tld (hF : mFix ad XL A) {pc n : Nat} {o : mO} {i : Int32} {L : List (Option mV)} {S : List mV} {σ : mS} {r : mR} (hr : kRow o.1 = (7, n)) (hin : ¬ (i < 0 ∨ n ≤ i.toNatClampNeg)) (hd : decode (mrow j).2.1 pc = .ok (.iaload, 1))
    (hn : SndB l D cy ad xs ys XL A b (j, pc + 1, L, .inl (σ.1 o i.toNatClampNeg) :: S, σ) r) : SndB l D cy ad xs ys XL A b (j, pc, L, .inl i :: .inr (.inr o) :: S, σ) r := by
  intro p e R s m args below meth c C hfr hlo Q H locs cells slots ls hc hs hRel hSS hLR hokL hokS hfin
  obtain ⟨hx, hb, hml, hown, hts, hKS, hHS, hT0⟩ := id C
  obtain ⟨ho, hn12⟩ := static_o hokS.tl.hd hr
  subst ho
  subst hn12
  have kk := hn.go C hfr hlo hc hs hRel hSS hLR hokL (hokS.tl.tl.cs trivial) hfin
  rw [hRel.2.2.2] at kk
  exact va_sld hx hb hHS.2.1 hHS.2.1.lt hF.2.2.1 hSS (vp_of hin) hd kk
theorem snd_slen {pc n : Nat} {o : mO} {L : List (Option mV)} {S : List mV} {σ : mS} {r : mR} (hF : mFix ad XL A) (hr : kRow o.1 = (6, n)) (hd : decode (mrow j).2.1 pc = .ok (.arraylength, 1))
    (hn : SndB l D cy ad xs ys XL A b (j, pc + 1, L, .inl (σ.1 (46, 0, 0, 1) 0) :: S, σ) r) : SndB l D cy ad xs ys XL A b (j, pc, L, .inr (.inr o) :: S, σ) r := by
  intro p e R s m args below meth c C hfr hlo Q H locs cells slots ls hc hs hRel hSS hLR hokL hokS hfin
  obtain ⟨hx, hb, hml, hown, hts, hKS, hHS, hT0⟩ := id C
  have ho := script_o hokS.hd hr
  subst ho
  have kk := hn.go C hfr hlo hc hs hRel hSS hLR hokL (hokS.tl.cs trivial) hfin
  rw [hRel.2.2.1] at kk
  exact va_slen hx hb hHS.1 hHS.1.lt hF.2.1 hSS hd kk
theorem snd_ilen {pc n : Nat} {o : mO} {L : List (Option mV)} {S : List mV} {σ : mS} {r : mR} (hr : kRow o.1 = (1, n)) (hd : decode (mrow j).2.1 pc = .ok (.arraylength, 1))
    (hn : SndB l D cy ad xs ys XL A b (j, pc + 1, L, .inl (nI n) :: S, σ) r) : SndB l D cy ad xs ys XL A b (j, pc, L, .inr (.inr o) :: S, σ) r := by
  intro p e R s m args below meth c C hfr hlo Q H locs cells slots ls hc hs hRel hSS hLR hokL hokS hfin
  obtain ⟨hx, hb, hml, hown, hts, hKS, hHS, hT0⟩ := id C
  have hoO : okO o := row_ok hokS.hd hr (by omega)
  obtain ⟨q0, hq, hw⟩ := ws_at (cy := cy) (ad := ad) hoO
  have he := hw σ
  rw [mCell_int hr (by omega)] at he
  exact va_alen hx hb hKS.1 hRel.1 q0 0 he rfl rfl hd (hn.go C hfr hlo hc hs hRel hSS hLR hokL (hokS.tl.cs trivial) hfin)
theorem snd_gets {pc idx : Nat} {L : List (Option mV)} {S : List mV} {σ : mS} {r : mR} (hj : (mrow j).2.2.2.2.1 = 9) (hi : idx = 92) (hd : decode (mrow j).2.1 pc = .ok (.getstatic idx, 3))
    (hn : SndB l D cy ad xs ys XL A b (j, pc + 3, L, .inr (.inr (51, 0, 0, 0)) :: S, σ) r) : SndB l D cy ad xs ys XL A b (j, pc, L, S, σ) r := by
  intro p e R s m args below meth c C hfr hlo Q H locs cells slots ls hc hs hRel hSS hLR hokL hokS hfin
  obtain ⟨hx, hb, hml, hown, hts, hKS, hHS, hT0⟩ := id C
  subst hi
  rw [hj] at hown
  exact va_gets hx hb hHS.2.2 hSS hown (hts _ gl_0) (fun _ h => h) hd (hn.go C hfr hlo hc hs hRel hSS hLR hokL (hokS.cs (v := .inr (.inr (51, 0, 0, 0))) (Or.inr (Or.inr rfl))) hfin)
/-- a number into a row -/
theorem snd_rst (hF : mFix ad XL A) {pc pc' t n : Nat} {o : mO} {i : Int32} {x y : Int32} {L : List (Option mV)} {S : List mV} {σ : mS} {r : mR} (hr : kRow o.1 = (t, n)) (ht : t = 1 ∨ t = 2 ∨ t = 3)
    (hrow : ∀ {p : Program} {e : Env} {R : Room} {s : State} {m : MethodId} {args : Array Value} {below : List Frame} {meth : Method} {c : Code} {H H0 : Heap} {locs : List Loc} {cells slots : Nat} {Q : State → Prop} {ls : Array Slot} {ws : va_W} {A : Nat → Prop} {a q0 : Nat} {f : Nat → Int32}, p.tables.exec = Jvm.exec → c.code = (mrow j).2.1 → va_K D vwCl (mTys cy) s → va_P D vwCl ws H → va_D A ws → va_S A H0 H locs → ws[q0]? = some (a, .inl (cy t, n, .inl f)) →
      (∀ (H1 : Heap) (locs1 : List Loc), va_P D vwCl (ws.set q0 (a, .inl (cy t, n, .inl (upd f i.toNatClampNeg y)))) H1 → va_S A H0 H1 locs1 → W p l e R s m args below meth c H1 locs1 cells slots Q (F0 m pc' ls (S.map (toV ad)))) → W p l e R s m args below meth c H locs cells slots Q (F0 m pc ls (.int x :: .int i :: .ref a :: S.map (toV ad))))
    (hn : SndB l D cy ad xs ys XL A b (j, pc', L, S, st σ o i.toNatClampNeg y) r) : SndB l D cy ad xs ys XL A b (j, pc, L, .inl x :: .inl i :: .inr (.inr o) :: S, σ) r := by
  intro p e R s m args below meth c C hfr hlo Q H locs cells slots ls hc hs hRel hSS hLR hokL hokS hfin
  obtain ⟨hx, hb, hml, hown, hts, hKS, hHS, hT0⟩ := id C
  have hoO : okO o := row_ok hokS.tl.tl.hd hr (by omega)
  obtain ⟨q0, hq, hw⟩ := ws_at (cy := cy) (ad := ad) hoO
  have he := hw σ
  rw [mCell_int hr ht] at he
  refine hrow hx hb hKS.1 hRel.1 ((ws_D hF.1 σ).weaken (fun _ _ _ h => hF.2.2.2.2 _ h)) hSS he (fun H1 locs1 hP1 hS1 => ?_)
  have hset : (.inl (cy t, n, .inl (upd (σ.1 o) i.toNatClampNeg y)) : va_E) = mCell cy ad (st σ o i.toNatClampNeg y) o := by
    rw [mCell_int hr ht, st_self]
  exact hn.go C hfr hlo hc hs (rel_st hoO hq hset hRel hP1) hS1 hLR hokL hokS.tl.tl.tl hfin
theorem snd_lst (hF : mFix ad XL A) {pc n : Nat} {o : mO} {i : Int32} {x : Int64} {L : List (Option mV)} {S : List mV} {σ : mS} {r : mR} (hr : kRow o.1 = (4, n)) (hin : ¬ (i < 0 ∨ n ≤ i.toNatClampNeg)) (hd : decode (mrow j).2.1 pc = .ok (.lastore, 1))
    (hn : SndB l D cy ad xs ys XL A b (j, pc + 1, L, S, stL σ o i.toNatClampNeg x) r) : SndB l D cy ad xs ys XL A b (j, pc, L, .inr (.inl x) :: .inl i :: .inr (.inr o) :: S, σ) r := by
  intro p e R s m args below meth c C hfr hlo Q H locs cells slots ls hc hs hRel hSS hLR hokL hokS hfin
  obtain ⟨hx, hb, hml, hown, hts, hKS, hHS, hT0⟩ := id C
  have hoO : okO o := row_ok hokS.tl.tl.hd hr (by omega)
  obtain ⟨q0, hq, hw⟩ := ws_at (cy := cy) (ad := ad) hoO
  have he := hw σ
  rw [mCell_long hr] at he
  refine va_last hx hb hKS.1 hRel.1 ((ws_D hF.1 σ).weaken (fun _ _ _ h => hF.2.2.2.2 _ h)) hSS q0 3 he rfl (vp_of hin) hd (fun H1 locs1 hP1 _ hS1 => ?_)
  have hset : (.inl (cy 4, n, .inr (.inl (vp_updL (σ.2 o) i.toNatClampNeg x))) : va_E) = mCell cy ad (stL σ o i.toNatClampNeg x) o := by
    rw [mCell_long hr, stL_self]
  exact hn.go C hfr hlo hc hs (rel_stL hq hset hRel hP1) hS1 hLR hokL hokS.tl.tl.tl hfin
theorem swords_sum (ad : mO → Nat) : ∀ S : List mV, ((S.map (toV ad)).map fun v => v.category).sum = swords S
  | [] => rfl
  | .inl x :: S => by
    have := swords_sum ad S
    simp only [List.map_cons, List.sum_cons, swords, toV, Value.category] at this ⊢
    omega
  | .inr (.inl y) :: S => by
    have := swords_sum ad S
    simp only [List.map_cons, List.sum_cons, swords, toV, Value.category] at this ⊢
    omega
  | .inr (.inr o) :: S => by
    have := swords_sum ad S
    simp only [List.map_cons, List.sum_cons, swords, toV, Value.category] at this ⊢
    omega
theorem snd_math {pc idx k : Nat} {x y : Int32} {L : List (Option mV)} {S : List mV} {σ : mS} {r : mR} (hk : k = 1000 ∨ k = 1001) (hmm : MMok ((mrow j).2.2.2.2.1, idx, k)) (h1 : 1 ≤ (mrow j).2.2.2.2.2.1) (h2 : 21 ≤ (mrow j).2.2.2.2.2.2) (hw : swords S ≤ 8) (hd : decode (mrow j).2.1 pc = .ok (.invokestatic idx, 3))
    (hn : SndB l D cy ad xs ys XL A b (j, pc + 3, L, .inl (if k = 1000 then (if x < y then y else x) else (if y < x then y else x)) :: S, σ) r) : SndB l D cy ad xs ys XL A b (j, pc, L, .inl y :: .inl x :: S, σ) r := by
  intro p e R s m args below meth c C hfr hlo Q H locs cells slots ls hc hs hRel hSS hLR hokL hokS hfin
  obtain ⟨hx, hb, hml, hown, hts, hKS, hHS, hT0⟩ := id C
  have kk := hn.go C hfr hlo hc hs hRel hSS hLR hokL (hokS.tl.tl.cs trivial) hfin
  have hsum := swords_sum ad S
  dsimp only at hfr hlo
  rcases hk with rfl | rfl
  · obtain ⟨a1, a2, a3, a4⟩ := hmm
    exact va_mmax hx hb (hml.trans hLR.1.symm) hown (hts _ a1) (hts _ a2) (hts _ a3) (hts _ a4) (by omega) (by omega) (by omega) (by omega) hd kk
  · obtain ⟨a1, a2, a3, a4⟩ := hmm
    exact va_mmin hx hb (hml.trans hLR.1.symm) hown (hts _ a1) (hts _ a2) (hts _ a3) (hts _ a4) (by omega) (by omega) (by omega) (by omega) hd kk
theorem snd_copy (hF : mFix ad XL A) {pc idx n1 n2 : Nat} {o1 o2 : mO} {p1 p2 nn : Int32} {L : List (Option mV)} {S : List mV} {σ : mS} {r : mR} (hmm : MMok ((mrow j).2.2.2.2.1, idx, 1002)) (h1 : 1 ≤ (mrow j).2.2.2.2.2.1) (h2 : 8 + (nativeFrameWords "java/lang/System" "arraycopy" 5 + 11) ≤ (mrow j).2.2.2.2.2.2) (hw : swords S ≤ 8) (hr1 : kRow o1.1 = (1, n1)) (hr2 : kRow o2.1 = (1, n2)) (hb0 : ¬ (nn < 0 ∨ p1 < 0 ∨ p2 < 0 ∨ n1 < p1.toNatClampNeg + nn.toNatClampNeg ∨ n2 < p2.toNatClampNeg + nn.toNatClampNeg)) (hd : decode (mrow j).2.1 pc = .ok (.invokestatic idx, 3))
    (hn : SndB l D cy ad xs ys XL A b (j, pc + 3, L, S, stC σ o1 p1.toNatClampNeg o2 p2.toNatClampNeg nn.toNatClampNeg) r) : SndB l D cy ad xs ys XL A b (j, pc, L, .inl nn :: .inl p2 :: .inr (.inr o2) :: .inl p1 :: .inr (.inr o1) :: S, σ) r := by
  intro p e R s m args below meth c C hfr hlo Q H locs cells slots ls hc hs hRel hSS hLR hokL hokS hfin
  obtain ⟨hx, hb, hml, hown, hts, hKS, hHS, hT0⟩ := id C
  simp only [not_or, Nat.not_lt] at hb0
  obtain ⟨b1, b2, b3, b4, b5⟩ := hb0
  have hoO2 : okO o2 := row_ok hokS.tl.tl.hd hr2 (by omega)
  have hoO1 : okO o1 := row_ok hokS.tl.tl.tl.tl.hd hr1 (by omega)
  obtain ⟨q1, hq1, hw1⟩ := ws_at (cy := cy) (ad := ad) hoO1
  obtain ⟨q2, hq2, hw2⟩ := ws_at (cy := cy) (ad := ad) hoO2
  have he1 := hw1 σ
  rw [mCell_int hr1 (by omega)] at he1
  have he2 := hw2 σ
  rw [mCell_int hr2 (by omega)] at he2
  have hsum := swords_sum ad S
  dsimp only at hfr hlo
  obtain ⟨a1, a2, a3, a4⟩ := hmm
  refine va_copyi hx hb (hml.trans hLR.1.symm) hown (hts _ a1) (hts _ a2) (hts _ a3) (hts _ a4) hKS.1 hRel.1 ((ws_D hF.1 σ).weaken (fun _ _ _ h => hF.2.2.2.2 _ h)) hSS q1 q2 0 0 he1 he2 rfl rfl rfl b2 b3 b1 b4 b5 (fun i hi => rfl) (by omega) (by omega) hd (fun H1 locs1 hP1 _ hS1 => ?_)
  have hset : (.inl (cy 1, n2, .inl (va_cpy (σ.1 o1) (σ.1 o2) p1.toNatClampNeg p2.toNatClampNeg nn.toNatClampNeg)) : va_E) = mCell cy ad (stC σ o1 p1.toNatClampNeg o2 p2.toNatClampNeg nn.toNatClampNeg) o2 := by
    rw [mCell_int hr2 (by omega), stC_self]
  exact hn.go C hfr hlo hc hs (rel_stC hoO2 hq2 hset hRel hP1) hS1 hLR hokL hokS.tl.tl.tl.tl.tl hfin
end SC

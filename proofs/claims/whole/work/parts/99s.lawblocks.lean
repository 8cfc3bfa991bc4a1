/-! The law's blocks, and what they answer is what the machine answers (by program: gen/writeLawSnd.py) -/
def LLx (x : Int32) : List (Option mV) := [some (.inr (.inr (46, 0, 0, 0))), some (.inr (.inr (9, 0, 0, 0))), some (.inr (.inr (10, 0, 0, 0))), some (.inr (.inr (45, 0, 0, 0))), some (.inl x), none, none, none]
def isO (k : Nat) (v : Option mV) : Bool := match v with
  | some (.inr (.inr o)) => Nat.beq o.1 k && (Nat.beq o.2.1 0 && (Nat.beq o.2.2.1 0 && Nat.beq o.2.2.2 0))
  | _ => false
def isI (v : Option mV) : Bool := match v with
  | some (.inl _) => true
  | _ => false
def hpNr (j : Nat) : Nat := match j with
  | 221 => 4 | 222 => 5 | 223 => 6 | 224 => 4 | _ => 3
def hpG (n : Nat) (L : List (Option mV)) : Bool := isO 9 (lget L 0) && ((List.range (n - 2)).all (fun i => isI (lget L (i + 1))) && isO 45 (lget L (n - 1)))
theorem largs_o {k m : Nat} {a : mV} {As : List mV} (h : isO k (lget (largs (m + 1) (a :: As)) 0) = true) : a = .inr (.inr (k, 0, 0, 0)) := by
  rcases a with x | y | o
  · cases h
  · cases m <;> cases h
  · have h : isO k (some (.inr (.inr o))) = true := h
    unfold isO at h
    simp only [Bool.and_eq_true] at h
    obtain ⟨h1, h2, h3, h4⟩ := h
    obtain ⟨o1, o2, o3, o4⟩ := o
    have g1 : o1 = k := Nat.eq_of_beq_eq_true h1
    have g2 : o2 = 0 := Nat.eq_of_beq_eq_true h2
    have g3 : o3 = 0 := Nat.eq_of_beq_eq_true h3
    have g4 : o4 = 0 := Nat.eq_of_beq_eq_true h4
    rw [g1, g2, g3, g4]
theorem largs_i {m : Nat} {a : mV} {As : List mV} (h : isI (lget (largs (m + 1) (a :: As)) 0) = true) : ∃ x, a = .inl x := by
  rcases a with x | y | o
  · exact ⟨x, rfl⟩
  · cases m <;> cases h
  · cases h
/-- what the blocks ask: the law's own by jmp, the helpers' with the row before them, all else as it is -/
noncomputable def lwR (jmp : Nat → List (Option mV) → List mV → mS → Option mR) (q : mQ) : Option mR := bif Nat.beq q.1 226 then jmp q.2.1 q.2.2.1 q.2.2.2.1 q.2.2.2.2 else bif Nat.ble 220 q.1 then (bif hpG (hpNr q.1) q.2.2.1 then Ev q else none) else Ev q
noncomputable def jmpT (pcs : List Nat) (i0 : Int32) (pc : Nat) (L : List (Option mV)) (S : List mV) (σ : mS) : Option mR := @ite _ (L = LLx i0 ∧ S = []) (Classical.propDecidable _) (bif pcs.contains pc then Ev (226, pc, L, S, σ) else none) none
theorem jmpT_at {pcs : List Nat} {i0 : Int32} : (fun pc σ => jmpT pcs i0 pc (LLx i0) [] σ) = fun pc σ => bif pcs.contains pc then Ev (226, pc, LLx i0, [], σ) else none := by
  funext pc σ
  unfold jmpT
  exact if_pos ⟨rfl, rfl⟩
theorem jmpT_inv {pcs : List Nat} {i0 : Int32} {pc : Nat} {L : List (Option mV)} {S : List mV} {σ : mS} {r : mR} (h : jmpT pcs i0 pc L S σ = some r) : L = LLx i0 ∧ S = [] ∧ pc ∈ pcs ∧ Ev (226, pc, LLx i0, [], σ) = some r := by
  unfold jmpT at h
  split at h
  · rename_i z
    obtain ⟨rfl, rfl⟩ := z
    cases hb : pcs.contains pc
    · rw [hb] at h; cases h
    · rw [hb] at h
      exact ⟨rfl, rfl, List.contains_iff_mem.mp hb, h⟩
  · cases h
theorem lwR_226 {jmp : Nat → List (Option mV) → List mV → mS → Option mR} {q : mQ} {r : mR} (h : lwR jmp q = some r) (hj : q.1 = 226) : jmp q.2.1 q.2.2.1 q.2.2.2.1 q.2.2.2.2 = some r := by
  unfold lwR at h
  rw [hj] at h
  exact h
theorem lwR_ev {jmp : Nat → List (Option mV) → List mV → mS → Option mR} {q : mQ} {r : mR} (h : lwR jmp q = some r) (hj : q.1 ≠ 226) : Ev q = some r ∧ (Nat.ble 220 q.1 = true → hpG (hpNr q.1) q.2.2.1 = true) := by
  unfold lwR at h
  rw [show Nat.beq q.1 226 = false from Bool.eq_false_iff.mpr (fun z => hj (Nat.eq_of_beq_eq_true z))] at h
  simp only [cond_false] at h
  cases h2 : Nat.ble 220 q.1
  · rw [h2] at h
    exact ⟨h, fun z => by cases z⟩
  · rw [h2] at h
    simp only [cond_true] at h
    cases h3 : hpG (hpNr q.1) q.2.2.1
    · rw [h3] at h; cases h
    · rw [h3] at h
      exact ⟨h, fun _ => rfl⟩
noncomputable def tx_23 (G : Nat → mS → Option mR) (x4 : Int32) (σ : mS) : Option mR :=
  if (σ.1 (46, 0, 0, 1) 0) - (nI 6) < x4 then (
    if nI 1 = 0 ∨ nI 1 = 1 then some (some (some (.inl (nI 1))), σ) else none)
  else (
    if x4 < 0 ∨ (σ.1 (46, 0, 0, 1) 0).toNatClampNeg ≤ x4.toNatClampNeg then none else (
    if (σ.1 (46, 0, 0, 0) x4.toNatClampNeg) &&& (nI 63) = nI 0 then (
      if x4 + (nI 1) < 0 ∨ (σ.1 (46, 0, 0, 1) 0).toNatClampNeg ≤ (x4 + (nI 1)).toNatClampNeg then none else (
      bdI (e_X9_sign (σ.1 (46, 0, 0, 0) ((x4 + (nI 1)).toNatClampNeg)) σ) (fun v2 σ1 =>
      if x4 + (nI 1) < 0 ∨ (σ1.1 (46, 0, 0, 1) 0).toNatClampNeg ≤ (x4 + (nI 1)).toNatClampNeg then none else (
      bdI (e_X10_sign (σ1.1 (46, 0, 0, 0) ((x4 + (nI 1)).toNatClampNeg)) σ1) (fun v4 σ3 =>
      if v2 = v4 then (
        G 1429 σ3)
      else (
        if nI 0 = 0 ∨ nI 0 = 1 then some (some (some (.inl (nI 0))), σ3) else none))))))
    else if (σ.1 (46, 0, 0, 0) x4.toNatClampNeg) &&& (nI 63) = nI 1 then (
      if x4 + (nI 1) < 0 ∨ (σ.1 (46, 0, 0, 1) 0).toNatClampNeg ≤ (x4 + (nI 1)).toNatClampNeg then none else (
      bdI (e_X9_end (σ.1 (46, 0, 0, 0) ((x4 + (nI 1)).toNatClampNeg)) σ) (fun v6 σ5 =>
      if x4 + (nI 1) < 0 ∨ (σ5.1 (46, 0, 0, 1) 0).toNatClampNeg ≤ (x4 + (nI 1)).toNatClampNeg then none else (
      bdI (e_X10_end (σ5.1 (46, 0, 0, 0) ((x4 + (nI 1)).toNatClampNeg)) σ5) (fun v8 σ7 =>
      if v6 = v8 then (
        G 1429 σ7)
      else (
        if nI 0 = 0 ∨ nI 0 = 1 then some (some (some (.inl (nI 0))), σ7) else none))))))
    else if (σ.1 (46, 0, 0, 0) x4.toNatClampNeg) &&& (nI 63) = nI 2 then (
      bdI (e_X9_net σ) (fun v10 σ9 =>
      bdI (e_X10_net σ9) (fun v12 σ11 =>
      if v10 = v12 then (
        G 1429 σ11)
      else (
        if nI 0 = 0 ∨ nI 0 = 1 then some (some (some (.inl (nI 0))), σ11) else none))))
    else if (σ.1 (46, 0, 0, 0) x4.toNatClampNeg) &&& (nI 63) = nI 3 then (
      if x4 + (nI 1) < 0 ∨ (σ.1 (46, 0, 0, 1) 0).toNatClampNeg ≤ (x4 + (nI 1)).toNatClampNeg then none else (
      if x4 + (nI 2) < 0 ∨ (σ.1 (46, 0, 0, 1) 0).toNatClampNeg ≤ (x4 + (nI 2)).toNatClampNeg then none else (
      bdI (e_X9_sets (σ.1 (46, 0, 0, 0) ((x4 + (nI 1)).toNatClampNeg)) (σ.1 (46, 0, 0, 0) ((x4 + (nI 2)).toNatClampNeg)) σ) (fun v14 σ13 =>
      if x4 + (nI 1) < 0 ∨ (σ13.1 (46, 0, 0, 1) 0).toNatClampNeg ≤ (x4 + (nI 1)).toNatClampNeg then none else (
      if x4 + (nI 2) < 0 ∨ (σ13.1 (46, 0, 0, 1) 0).toNatClampNeg ≤ (x4 + (nI 2)).toNatClampNeg then none else (
      bdI (e_X10_sets (σ13.1 (46, 0, 0, 0) ((x4 + (nI 1)).toNatClampNeg)) (σ13.1 (46, 0, 0, 0) ((x4 + (nI 2)).toNatClampNeg)) σ13) (fun v16 σ15 =>
      if v14 = v16 then (
        G 1429 σ15)
      else (
        if nI 0 = 0 ∨ nI 0 = 1 then some (some (some (.inl (nI 0))), σ15) else none))))))))
    else if (σ.1 (46, 0, 0, 0) x4.toNatClampNeg) &&& (nI 63) = nI 4 then (
      if x4 + (nI 1) < 0 ∨ (σ.1 (46, 0, 0, 1) 0).toNatClampNeg ≤ (x4 + (nI 1)).toNatClampNeg then none else (
      bdI (e_L_setting (σ.1 (46, 0, 0, 0) ((x4 + (nI 1)).toNatClampNeg)) σ) (fun v18 σ17 =>
      if x4 + (nI 1) < 0 ∨ (σ17.1 (46, 0, 0, 1) 0).toNatClampNeg ≤ (x4 + (nI 1)).toNatClampNeg then none else (
      bdI (e_X10_setting (σ17.1 (46, 0, 0, 0) ((x4 + (nI 1)).toNatClampNeg)) σ17) (fun v20 σ19 =>
      bdI (e_X10_thrown σ19) (fun v22 σ21 =>
      if v22 = v18 then (
        if v18 = 0 then (
          if nI 0 < 0 ∨ 1 ≤ (nI 0).toNatClampNeg then none else (
          if lg_cmp (σ21.2 (45, 0, 0, 0) (nI 0).toNatClampNeg) ((v20).toInt64) = 0 then (
            G 353 σ21)
          else (
            if nI 0 = 0 ∨ nI 0 = 1 then some (some (some (.inl (nI 0))), σ21) else none)))
        else (
          G 353 σ21))
      else (
        if nI 0 = 0 ∨ nI 0 = 1 then some (some (some (.inl (nI 0))), σ21) else none)))))))
    else if (σ.1 (46, 0, 0, 0) x4.toNatClampNeg) &&& (nI 63) = nI 5 then (
      if x4 + (nI 1) < 0 ∨ (σ.1 (46, 0, 0, 1) 0).toNatClampNeg ≤ (x4 + (nI 1)).toNatClampNeg then none else (
      if x4 + (nI 2) < 0 ∨ (σ.1 (46, 0, 0, 1) 0).toNatClampNeg ≤ (x4 + (nI 2)).toNatClampNeg then none else (
      if x4 + (nI 3) < 0 ∨ (σ.1 (46, 0, 0, 1) 0).toNatClampNeg ≤ (x4 + (nI 3)).toNatClampNeg then none else (
      if x4 + (nI 4) < 0 ∨ (σ.1 (46, 0, 0, 1) 0).toNatClampNeg ≤ (x4 + (nI 4)).toNatClampNeg then none else (
      if x4 + (nI 5) < 0 ∨ (σ.1 (46, 0, 0, 1) 0).toNatClampNeg ≤ (x4 + (nI 5)).toNatClampNeg then none else (
      bdI (e_X9_sheet (σ.1 (46, 0, 0, 0) ((x4 + (nI 1)).toNatClampNeg)) (σ.1 (46, 0, 0, 0) ((x4 + (nI 2)).toNatClampNeg)) (σ.1 (46, 0, 0, 0) ((x4 + (nI 3)).toNatClampNeg)) (σ.1 (46, 0, 0, 0) ((x4 + (nI 4)).toNatClampNeg)) (σ.1 (46, 0, 0, 0) ((x4 + (nI 5)).toNatClampNeg)) σ) (fun v24 σ23 =>
      if x4 + (nI 1) < 0 ∨ (σ23.1 (46, 0, 0, 1) 0).toNatClampNeg ≤ (x4 + (nI 1)).toNatClampNeg then none else (
      if x4 + (nI 2) < 0 ∨ (σ23.1 (46, 0, 0, 1) 0).toNatClampNeg ≤ (x4 + (nI 2)).toNatClampNeg then none else (
      if x4 + (nI 3) < 0 ∨ (σ23.1 (46, 0, 0, 1) 0).toNatClampNeg ≤ (x4 + (nI 3)).toNatClampNeg then none else (
      if x4 + (nI 4) < 0 ∨ (σ23.1 (46, 0, 0, 1) 0).toNatClampNeg ≤ (x4 + (nI 4)).toNatClampNeg then none else (
      if x4 + (nI 5) < 0 ∨ (σ23.1 (46, 0, 0, 1) 0).toNatClampNeg ≤ (x4 + (nI 5)).toNatClampNeg then none else (
      bdI (e_X10_sheet (σ23.1 (46, 0, 0, 0) ((x4 + (nI 1)).toNatClampNeg)) (σ23.1 (46, 0, 0, 0) ((x4 + (nI 2)).toNatClampNeg)) (σ23.1 (46, 0, 0, 0) ((x4 + (nI 3)).toNatClampNeg)) (σ23.1 (46, 0, 0, 0) ((x4 + (nI 4)).toNatClampNeg)) (σ23.1 (46, 0, 0, 0) ((x4 + (nI 5)).toNatClampNeg)) σ23) (fun v26 σ25 =>
      if v24 = v26 then (
        G 1429 σ25)
      else (
        if nI 0 = 0 ∨ nI 0 = 1 then some (some (some (.inl (nI 0))), σ25) else none))))))))))))))
    else if (σ.1 (46, 0, 0, 0) x4.toNatClampNeg) &&& (nI 63) = nI 6 then (
      if x4 + (nI 1) < 0 ∨ (σ.1 (46, 0, 0, 1) 0).toNatClampNeg ≤ (x4 + (nI 1)).toNatClampNeg then none else (
      if x4 + (nI 2) < 0 ∨ (σ.1 (46, 0, 0, 1) 0).toNatClampNeg ≤ (x4 + (nI 2)).toNatClampNeg then none else (
      if x4 + (nI 3) < 0 ∨ (σ.1 (46, 0, 0, 1) 0).toNatClampNeg ≤ (x4 + (nI 3)).toNatClampNeg then none else (
      if x4 + (nI 4) < 0 ∨ (σ.1 (46, 0, 0, 1) 0).toNatClampNeg ≤ (x4 + (nI 4)).toNatClampNeg then none else (
      bdI (e_X9_offers (σ.1 (46, 0, 0, 0) ((x4 + (nI 1)).toNatClampNeg)) (σ.1 (46, 0, 0, 0) ((x4 + (nI 2)).toNatClampNeg)) (σ.1 (46, 0, 0, 0) ((x4 + (nI 3)).toNatClampNeg)) (σ.1 (46, 0, 0, 0) ((x4 + (nI 4)).toNatClampNeg)) σ) (fun v28 σ27 =>
      if x4 + (nI 1) < 0 ∨ (σ27.1 (46, 0, 0, 1) 0).toNatClampNeg ≤ (x4 + (nI 1)).toNatClampNeg then none else (
      if x4 + (nI 2) < 0 ∨ (σ27.1 (46, 0, 0, 1) 0).toNatClampNeg ≤ (x4 + (nI 2)).toNatClampNeg then none else (
      if x4 + (nI 3) < 0 ∨ (σ27.1 (46, 0, 0, 1) 0).toNatClampNeg ≤ (x4 + (nI 3)).toNatClampNeg then none else (
      if x4 + (nI 4) < 0 ∨ (σ27.1 (46, 0, 0, 1) 0).toNatClampNeg ≤ (x4 + (nI 4)).toNatClampNeg then none else (
      bdI (e_X10_offers (σ27.1 (46, 0, 0, 0) ((x4 + (nI 1)).toNatClampNeg)) (σ27.1 (46, 0, 0, 0) ((x4 + (nI 2)).toNatClampNeg)) (σ27.1 (46, 0, 0, 0) ((x4 + (nI 3)).toNatClampNeg)) (σ27.1 (46, 0, 0, 0) ((x4 + (nI 4)).toNatClampNeg)) σ27) (fun v30 σ29 =>
      if v28 = v30 then (
        G 1429 σ29)
      else (
        if nI 0 = 0 ∨ nI 0 = 1 then some (some (some (.inl (nI 0))), σ29) else none))))))))))))
    else if (σ.1 (46, 0, 0, 0) x4.toNatClampNeg) &&& (nI 63) = nI 7 then (
      if x4 + (nI 1) < 0 ∨ (σ.1 (46, 0, 0, 1) 0).toNatClampNeg ≤ (x4 + (nI 1)).toNatClampNeg then none else (
      bdI (e_X9_slots (σ.1 (46, 0, 0, 0) ((x4 + (nI 1)).toNatClampNeg)) σ) (fun v32 σ31 =>
      if x4 + (nI 1) < 0 ∨ (σ31.1 (46, 0, 0, 1) 0).toNatClampNeg ≤ (x4 + (nI 1)).toNatClampNeg then none else (
      bdI (e_X10_slots (σ31.1 (46, 0, 0, 0) ((x4 + (nI 1)).toNatClampNeg)) σ31) (fun v34 σ33 =>
      if v32 = v34 then (
        G 1429 σ33)
      else (
        if nI 0 = 0 ∨ nI 0 = 1 then some (some (some (.inl (nI 0))), σ33) else none))))))
    else if (σ.1 (46, 0, 0, 0) x4.toNatClampNeg) &&& (nI 63) = nI 8 then (
      bdI (e_X9_draws σ) (fun v36 σ35 =>
      bdI (e_X10_draws σ35) (fun v38 σ37 =>
      if v36 = v38 then (
        G 1429 σ37)
      else (
        if nI 0 = 0 ∨ nI 0 = 1 then some (some (some (.inl (nI 0))), σ37) else none))))
    else if (σ.1 (46, 0, 0, 0) x4.toNatClampNeg) &&& (nI 63) = nI 9 then (
      if x4 + (nI 1) < 0 ∨ (σ.1 (46, 0, 0, 1) 0).toNatClampNeg ≤ (x4 + (nI 1)).toNatClampNeg then none else (
      if x4 + (nI 2) < 0 ∨ (σ.1 (46, 0, 0, 1) 0).toNatClampNeg ≤ (x4 + (nI 2)).toNatClampNeg then none else (
      bdI (e_L_station (σ.1 (46, 0, 0, 0) ((x4 + (nI 1)).toNatClampNeg)) (σ.1 (46, 0, 0, 0) ((x4 + (nI 2)).toNatClampNeg)) σ) (fun v40 σ39 =>
      if x4 + (nI 1) < 0 ∨ (σ39.1 (46, 0, 0, 1) 0).toNatClampNeg ≤ (x4 + (nI 1)).toNatClampNeg then none else (
      if x4 + (nI 2) < 0 ∨ (σ39.1 (46, 0, 0, 1) 0).toNatClampNeg ≤ (x4 + (nI 2)).toNatClampNeg then none else (
      bdI (e_X10_station (σ39.1 (46, 0, 0, 0) ((x4 + (nI 1)).toNatClampNeg)) (σ39.1 (46, 0, 0, 0) ((x4 + (nI 2)).toNatClampNeg)) σ39) (fun v42 σ41 =>
      bdI (e_X10_thrown σ41) (fun v44 σ43 =>
      if v44 = v40 then (
        if v40 = 0 then (
          if nI 0 < 0 ∨ 1 ≤ (nI 0).toNatClampNeg then none else (
          if lg_cmp (σ43.2 (45, 0, 0, 0) (nI 0).toNatClampNeg) ((v42).toInt64) = 0 then (
            G 593 σ43)
          else (
            if nI 0 = 0 ∨ nI 0 = 1 then some (some (some (.inl (nI 0))), σ43) else none)))
        else (
          G 593 σ43))
      else (
        if nI 0 = 0 ∨ nI 0 = 1 then some (some (some (.inl (nI 0))), σ43) else none)))))))))
    else if (σ.1 (46, 0, 0, 0) x4.toNatClampNeg) &&& (nI 63) = nI 10 then (
      if x4 + (nI 1) < 0 ∨ (σ.1 (46, 0, 0, 1) 0).toNatClampNeg ≤ (x4 + (nI 1)).toNatClampNeg then none else (
      if x4 + (nI 2) < 0 ∨ (σ.1 (46, 0, 0, 1) 0).toNatClampNeg ≤ (x4 + (nI 2)).toNatClampNeg then none else (
      if x4 + (nI 3) < 0 ∨ (σ.1 (46, 0, 0, 1) 0).toNatClampNeg ≤ (x4 + (nI 3)).toNatClampNeg then none else (
      bdI (e_L_rank (σ.1 (46, 0, 0, 0) ((x4 + (nI 1)).toNatClampNeg)) (σ.1 (46, 0, 0, 0) ((x4 + (nI 2)).toNatClampNeg)) (σ.1 (46, 0, 0, 0) ((x4 + (nI 3)).toNatClampNeg)) σ) (fun v46 σ45 =>
      if x4 + (nI 1) < 0 ∨ (σ45.1 (46, 0, 0, 1) 0).toNatClampNeg ≤ (x4 + (nI 1)).toNatClampNeg then none else (
      if x4 + (nI 2) < 0 ∨ (σ45.1 (46, 0, 0, 1) 0).toNatClampNeg ≤ (x4 + (nI 2)).toNatClampNeg then none else (
      if x4 + (nI 3) < 0 ∨ (σ45.1 (46, 0, 0, 1) 0).toNatClampNeg ≤ (x4 + (nI 3)).toNatClampNeg then none else (
      bdI (e_X10_rank (σ45.1 (46, 0, 0, 0) ((x4 + (nI 1)).toNatClampNeg)) (σ45.1 (46, 0, 0, 0) ((x4 + (nI 2)).toNatClampNeg)) (σ45.1 (46, 0, 0, 0) ((x4 + (nI 3)).toNatClampNeg)) σ45) (fun v48 σ47 =>
      bdI (e_X10_thrown σ47) (fun v50 σ49 =>
      if v50 = v46 then (
        if v46 = 0 then (
          if nI 0 < 0 ∨ 1 ≤ (nI 0).toNatClampNeg then none else (
          if lg_cmp (σ49.2 (45, 0, 0, 0) (nI 0).toNatClampNeg) ((v48).toInt64) = 0 then (
            G 673 σ49)
          else (
            if nI 0 = 0 ∨ nI 0 = 1 then some (some (some (.inl (nI 0))), σ49) else none)))
        else (
          G 673 σ49))
      else (
        if nI 0 = 0 ∨ nI 0 = 1 then some (some (some (.inl (nI 0))), σ49) else none)))))))))))
    else if (σ.1 (46, 0, 0, 0) x4.toNatClampNeg) &&& (nI 63) = nI 11 then (
      if x4 + (nI 1) < 0 ∨ (σ.1 (46, 0, 0, 1) 0).toNatClampNeg ≤ (x4 + (nI 1)).toNatClampNeg then none else (
      if x4 + (nI 2) < 0 ∨ (σ.1 (46, 0, 0, 1) 0).toNatClampNeg ≤ (x4 + (nI 2)).toNatClampNeg then none else (
      if x4 + (nI 3) < 0 ∨ (σ.1 (46, 0, 0, 1) 0).toNatClampNeg ≤ (x4 + (nI 3)).toNatClampNeg then none else (
      if x4 + (nI 4) < 0 ∨ (σ.1 (46, 0, 0, 1) 0).toNatClampNeg ≤ (x4 + (nI 4)).toNatClampNeg then none else (
      bdI (e_L_frame (σ.1 (46, 0, 0, 0) ((x4 + (nI 1)).toNatClampNeg)) (σ.1 (46, 0, 0, 0) ((x4 + (nI 2)).toNatClampNeg)) (σ.1 (46, 0, 0, 0) ((x4 + (nI 3)).toNatClampNeg)) (σ.1 (46, 0, 0, 0) ((x4 + (nI 4)).toNatClampNeg)) σ) (fun v52 σ51 =>
      if x4 + (nI 1) < 0 ∨ (σ51.1 (46, 0, 0, 1) 0).toNatClampNeg ≤ (x4 + (nI 1)).toNatClampNeg then none else (
      if x4 + (nI 2) < 0 ∨ (σ51.1 (46, 0, 0, 1) 0).toNatClampNeg ≤ (x4 + (nI 2)).toNatClampNeg then none else (
      if x4 + (nI 3) < 0 ∨ (σ51.1 (46, 0, 0, 1) 0).toNatClampNeg ≤ (x4 + (nI 3)).toNatClampNeg then none else (
      if x4 + (nI 4) < 0 ∨ (σ51.1 (46, 0, 0, 1) 0).toNatClampNeg ≤ (x4 + (nI 4)).toNatClampNeg then none else (
      bdI (e_X10_frame (σ51.1 (46, 0, 0, 0) ((x4 + (nI 1)).toNatClampNeg)) (σ51.1 (46, 0, 0, 0) ((x4 + (nI 2)).toNatClampNeg)) (σ51.1 (46, 0, 0, 0) ((x4 + (nI 3)).toNatClampNeg)) (σ51.1 (46, 0, 0, 0) ((x4 + (nI 4)).toNatClampNeg)) σ51) (fun v54 σ53 =>
      bdI (e_X10_thrown σ53) (fun v56 σ55 =>
      if v56 = v52 then (
        if v52 = 0 then (
          if nI 0 < 0 ∨ 1 ≤ (nI 0).toNatClampNeg then none else (
          if lg_cmp (σ55.2 (45, 0, 0, 0) (nI 0).toNatClampNeg) ((v54).toInt64) = 0 then (
            G 765 σ55)
          else (
            if nI 0 = 0 ∨ nI 0 = 1 then some (some (some (.inl (nI 0))), σ55) else none)))
        else (
          G 765 σ55))
      else (
        if nI 0 = 0 ∨ nI 0 = 1 then some (some (some (.inl (nI 0))), σ55) else none)))))))))))))
    else if (σ.1 (46, 0, 0, 0) x4.toNatClampNeg) &&& (nI 63) = nI 12 then (
      if x4 + (nI 1) < 0 ∨ (σ.1 (46, 0, 0, 1) 0).toNatClampNeg ≤ (x4 + (nI 1)).toNatClampNeg then none else (
      if x4 + (nI 2) < 0 ∨ (σ.1 (46, 0, 0, 1) 0).toNatClampNeg ≤ (x4 + (nI 2)).toNatClampNeg then none else (
      bdI (e_X9_exchange (σ.1 (46, 0, 0, 0) ((x4 + (nI 1)).toNatClampNeg)) (σ.1 (46, 0, 0, 0) ((x4 + (nI 2)).toNatClampNeg)) σ) (fun v58 σ57 =>
      if x4 + (nI 1) < 0 ∨ (σ57.1 (46, 0, 0, 1) 0).toNatClampNeg ≤ (x4 + (nI 1)).toNatClampNeg then none else (
      if x4 + (nI 2) < 0 ∨ (σ57.1 (46, 0, 0, 1) 0).toNatClampNeg ≤ (x4 + (nI 2)).toNatClampNeg then none else (
      bdI (e_X10_exchange (σ57.1 (46, 0, 0, 0) ((x4 + (nI 1)).toNatClampNeg)) (σ57.1 (46, 0, 0, 0) ((x4 + (nI 2)).toNatClampNeg)) σ57) (fun v60 σ59 =>
      if v58 = v60 then (
        G 1429 σ59)
      else (
        if nI 0 = 0 ∨ nI 0 = 1 then some (some (some (.inl (nI 0))), σ59) else none))))))))
    else if (σ.1 (46, 0, 0, 0) x4.toNatClampNeg) &&& (nI 63) = nI 13 then (
      bdI (e_X9_sent σ) (fun v62 σ61 =>
      bdI (e_X10_sent σ61) (fun v64 σ63 =>
      if v62 = v64 then (
        G 1429 σ63)
      else (
        if nI 0 = 0 ∨ nI 0 = 1 then some (some (some (.inl (nI 0))), σ63) else none))))
    else if (σ.1 (46, 0, 0, 0) x4.toNatClampNeg) &&& (nI 63) = nI 14 then (
      if x4 + (nI 1) < 0 ∨ (σ.1 (46, 0, 0, 1) 0).toNatClampNeg ≤ (x4 + (nI 1)).toNatClampNeg then none else (
      bdI (e_X9_spanOf (σ.1 (46, 0, 0, 0) ((x4 + (nI 1)).toNatClampNeg)) σ) (fun v66 σ65 =>
      if x4 + (nI 1) < 0 ∨ (σ65.1 (46, 0, 0, 1) 0).toNatClampNeg ≤ (x4 + (nI 1)).toNatClampNeg then none else (
      bdI (e_X10_spanOf (σ65.1 (46, 0, 0, 0) ((x4 + (nI 1)).toNatClampNeg)) σ65) (fun v68 σ67 =>
      if v66 = v68 then (
        G 1429 σ67)
      else (
        if nI 0 = 0 ∨ nI 0 = 1 then some (some (some (.inl (nI 0))), σ67) else none))))))
    else if (σ.1 (46, 0, 0, 0) x4.toNatClampNeg) &&& (nI 63) = nI 15 then (
      if x4 + (nI 1) < 0 ∨ (σ.1 (46, 0, 0, 1) 0).toNatClampNeg ≤ (x4 + (nI 1)).toNatClampNeg then none else (
      if x4 + (nI 2) < 0 ∨ (σ.1 (46, 0, 0, 1) 0).toNatClampNeg ≤ (x4 + (nI 2)).toNatClampNeg then none else (
      bdI (e_X9_rate (σ.1 (46, 0, 0, 0) ((x4 + (nI 1)).toNatClampNeg)) (σ.1 (46, 0, 0, 0) ((x4 + (nI 2)).toNatClampNeg)) σ) (fun v70 σ69 =>
      if x4 + (nI 1) < 0 ∨ (σ69.1 (46, 0, 0, 1) 0).toNatClampNeg ≤ (x4 + (nI 1)).toNatClampNeg then none else (
      if x4 + (nI 2) < 0 ∨ (σ69.1 (46, 0, 0, 1) 0).toNatClampNeg ≤ (x4 + (nI 2)).toNatClampNeg then none else (
      bdI (e_X10_rate (σ69.1 (46, 0, 0, 0) ((x4 + (nI 1)).toNatClampNeg)) (σ69.1 (46, 0, 0, 0) ((x4 + (nI 2)).toNatClampNeg)) σ69) (fun v72 σ71 =>
      if v70 = v72 then (
        G 1429 σ71)
      else (
        if nI 0 = 0 ∨ nI 0 = 1 then some (some (some (.inl (nI 0))), σ71) else none))))))))
    else if (σ.1 (46, 0, 0, 0) x4.toNatClampNeg) &&& (nI 63) = nI 16 then (
      bdI (e_X9_hidden σ) (fun v74 σ73 =>
      bdI (e_X10_hidden σ73) (fun v76 σ75 =>
      if v74 = v76 then (
        G 1429 σ75)
      else (
        if nI 0 = 0 ∨ nI 0 = 1 then some (some (some (.inl (nI 0))), σ75) else none))))
    else if (σ.1 (46, 0, 0, 0) x4.toNatClampNeg) &&& (nI 63) = nI 17 then (
      if x4 + (nI 1) < 0 ∨ (σ.1 (46, 0, 0, 1) 0).toNatClampNeg ≤ (x4 + (nI 1)).toNatClampNeg then none else (
      if x4 + (nI 2) < 0 ∨ (σ.1 (46, 0, 0, 1) 0).toNatClampNeg ≤ (x4 + (nI 2)).toNatClampNeg then none else (
      bdI (e_L_tally (σ.1 (46, 0, 0, 0) ((x4 + (nI 1)).toNatClampNeg)) (σ.1 (46, 0, 0, 0) ((x4 + (nI 2)).toNatClampNeg)) σ) (fun v78 σ77 =>
      if x4 + (nI 1) < 0 ∨ (σ77.1 (46, 0, 0, 1) 0).toNatClampNeg ≤ (x4 + (nI 1)).toNatClampNeg then none else (
      if x4 + (nI 2) < 0 ∨ (σ77.1 (46, 0, 0, 1) 0).toNatClampNeg ≤ (x4 + (nI 2)).toNatClampNeg then none else (
      bdI (e_X10_tally (σ77.1 (46, 0, 0, 0) ((x4 + (nI 1)).toNatClampNeg)) (σ77.1 (46, 0, 0, 0) ((x4 + (nI 2)).toNatClampNeg)) σ77) (fun v80 σ79 =>
      bdI (e_X10_thrown σ79) (fun v82 σ81 =>
      if v82 = v78 then (
        if v78 = 0 then (
          if nI 0 < 0 ∨ 1 ≤ (nI 0).toNatClampNeg then none else (
          if lg_cmp (σ81.2 (45, 0, 0, 0) (nI 0).toNatClampNeg) ((v80).toInt64) = 0 then (
            G 958 σ81)
          else (
            if nI 0 = 0 ∨ nI 0 = 1 then some (some (some (.inl (nI 0))), σ81) else none)))
        else (
          G 958 σ81))
      else (
        if nI 0 = 0 ∨ nI 0 = 1 then some (some (some (.inl (nI 0))), σ81) else none)))))))))
    else if (σ.1 (46, 0, 0, 0) x4.toNatClampNeg) &&& (nI 63) = nI 18 then (
      if x4 + (nI 1) < 0 ∨ (σ.1 (46, 0, 0, 1) 0).toNatClampNeg ≤ (x4 + (nI 1)).toNatClampNeg then none else (
      bdI (e_X9_why (σ.1 (46, 0, 0, 0) ((x4 + (nI 1)).toNatClampNeg)) σ) (fun v84 σ83 =>
      if x4 + (nI 1) < 0 ∨ (σ83.1 (46, 0, 0, 1) 0).toNatClampNeg ≤ (x4 + (nI 1)).toNatClampNeg then none else (
      bdI (e_X10_why (σ83.1 (46, 0, 0, 0) ((x4 + (nI 1)).toNatClampNeg)) σ83) (fun v86 σ85 =>
      if v84 = v86 then (
        G 1429 σ85)
      else (
        if nI 0 = 0 ∨ nI 0 = 1 then some (some (some (.inl (nI 0))), σ85) else none))))))
    else if (σ.1 (46, 0, 0, 0) x4.toNatClampNeg) &&& (nI 63) = nI 19 then (
      if x4 + (nI 1) < 0 ∨ (σ.1 (46, 0, 0, 1) 0).toNatClampNeg ≤ (x4 + (nI 1)).toNatClampNeg then none else (
      if x4 + (nI 2) < 0 ∨ (σ.1 (46, 0, 0, 1) 0).toNatClampNeg ≤ (x4 + (nI 2)).toNatClampNeg then none else (
      bdI (e_X9_spoilt (σ.1 (46, 0, 0, 0) ((x4 + (nI 1)).toNatClampNeg)) (σ.1 (46, 0, 0, 0) ((x4 + (nI 2)).toNatClampNeg)) σ) (fun v88 σ87 =>
      if x4 + (nI 1) < 0 ∨ (σ87.1 (46, 0, 0, 1) 0).toNatClampNeg ≤ (x4 + (nI 1)).toNatClampNeg then none else (
      if x4 + (nI 2) < 0 ∨ (σ87.1 (46, 0, 0, 1) 0).toNatClampNeg ≤ (x4 + (nI 2)).toNatClampNeg then none else (
      bdI (e_X10_spoilt (σ87.1 (46, 0, 0, 0) ((x4 + (nI 1)).toNatClampNeg)) (σ87.1 (46, 0, 0, 0) ((x4 + (nI 2)).toNatClampNeg)) σ87) (fun v90 σ89 =>
      if v88 = v90 then (
        G 1429 σ89)
      else (
        if nI 0 = 0 ∨ nI 0 = 1 then some (some (some (.inl (nI 0))), σ89) else none))))))))
    else if (σ.1 (46, 0, 0, 0) x4.toNatClampNeg) &&& (nI 63) = nI 20 then (
      if x4 + (nI 1) < 0 ∨ (σ.1 (46, 0, 0, 1) 0).toNatClampNeg ≤ (x4 + (nI 1)).toNatClampNeg then none else (
      bdI (e_X9_held (σ.1 (46, 0, 0, 0) ((x4 + (nI 1)).toNatClampNeg)) σ) (fun v92 σ91 =>
      if x4 + (nI 1) < 0 ∨ (σ91.1 (46, 0, 0, 1) 0).toNatClampNeg ≤ (x4 + (nI 1)).toNatClampNeg then none else (
      bdI (e_X10_held (σ91.1 (46, 0, 0, 0) ((x4 + (nI 1)).toNatClampNeg)) σ91) (fun v94 σ93 =>
      if v92 = v94 then (
        G 1429 σ93)
      else (
        if nI 0 = 0 ∨ nI 0 = 1 then some (some (some (.inl (nI 0))), σ93) else none))))))
    else if (σ.1 (46, 0, 0, 0) x4.toNatClampNeg) &&& (nI 63) = nI 21 then (
      bdI (e_X9_even σ) (fun v96 σ95 =>
      bdI (e_X10_even σ95) (fun v98 σ97 =>
      if v96 = v98 then (
        G 1429 σ97)
      else (
        if nI 0 = 0 ∨ nI 0 = 1 then some (some (some (.inl (nI 0))), σ97) else none))))
    else if (σ.1 (46, 0, 0, 0) x4.toNatClampNeg) &&& (nI 63) = nI 22 then (
      bdI (e_X9_busy σ) (fun v100 σ99 =>
      bdI (e_X10_busy σ99) (fun v102 σ101 =>
      if v100 = v102 then (
        G 1429 σ101)
      else (
        if nI 0 = 0 ∨ nI 0 = 1 then some (some (some (.inl (nI 0))), σ101) else none))))
    else if (σ.1 (46, 0, 0, 0) x4.toNatClampNeg) &&& (nI 63) = nI 23 then (
      if x4 + (nI 1) < 0 ∨ (σ.1 (46, 0, 0, 1) 0).toNatClampNeg ≤ (x4 + (nI 1)).toNatClampNeg then none else (
      if x4 + (nI 2) < 0 ∨ (σ.1 (46, 0, 0, 1) 0).toNatClampNeg ≤ (x4 + (nI 2)).toNatClampNeg then none else (
      bdI (e_X9_odds (σ.1 (46, 0, 0, 0) ((x4 + (nI 1)).toNatClampNeg)) (σ.1 (46, 0, 0, 0) ((x4 + (nI 2)).toNatClampNeg)) σ) (fun v104 σ103 =>
      if x4 + (nI 1) < 0 ∨ (σ103.1 (46, 0, 0, 1) 0).toNatClampNeg ≤ (x4 + (nI 1)).toNatClampNeg then none else (
      if x4 + (nI 2) < 0 ∨ (σ103.1 (46, 0, 0, 1) 0).toNatClampNeg ≤ (x4 + (nI 2)).toNatClampNeg then none else (
      bdI (e_X10_odds (σ103.1 (46, 0, 0, 0) ((x4 + (nI 1)).toNatClampNeg)) (σ103.1 (46, 0, 0, 0) ((x4 + (nI 2)).toNatClampNeg)) σ103) (fun v106 σ105 =>
      if v104 = v106 then (
        G 1429 σ105)
      else (
        if nI 0 = 0 ∨ nI 0 = 1 then some (some (some (.inl (nI 0))), σ105) else none))))))))
    else if (σ.1 (46, 0, 0, 0) x4.toNatClampNeg) &&& (nI 63) = nI 24 then (
      if x4 + (nI 1) < 0 ∨ (σ.1 (46, 0, 0, 1) 0).toNatClampNeg ≤ (x4 + (nI 1)).toNatClampNeg then none else (
      if x4 + (nI 2) < 0 ∨ (σ.1 (46, 0, 0, 1) 0).toNatClampNeg ≤ (x4 + (nI 2)).toNatClampNeg then none else (
      bdI (e_X9_window (σ.1 (46, 0, 0, 0) ((x4 + (nI 1)).toNatClampNeg)) (σ.1 (46, 0, 0, 0) ((x4 + (nI 2)).toNatClampNeg)) σ) (fun v108 σ107 =>
      if x4 + (nI 1) < 0 ∨ (σ107.1 (46, 0, 0, 1) 0).toNatClampNeg ≤ (x4 + (nI 1)).toNatClampNeg then none else (
      if x4 + (nI 2) < 0 ∨ (σ107.1 (46, 0, 0, 1) 0).toNatClampNeg ≤ (x4 + (nI 2)).toNatClampNeg then none else (
      bdI (e_X10_window (σ107.1 (46, 0, 0, 0) ((x4 + (nI 1)).toNatClampNeg)) (σ107.1 (46, 0, 0, 0) ((x4 + (nI 2)).toNatClampNeg)) σ107) (fun v110 σ109 =>
      if v108 = v110 then (
        G 1429 σ109)
      else (
        if nI 0 = 0 ∨ nI 0 = 1 then some (some (some (.inl (nI 0))), σ109) else none))))))))
    else if (σ.1 (46, 0, 0, 0) x4.toNatClampNeg) &&& (nI 63) = nI 25 then (
      if x4 + (nI 1) < 0 ∨ (σ.1 (46, 0, 0, 1) 0).toNatClampNeg ≤ (x4 + (nI 1)).toNatClampNeg then none else (
      if x4 + (nI 2) < 0 ∨ (σ.1 (46, 0, 0, 1) 0).toNatClampNeg ≤ (x4 + (nI 2)).toNatClampNeg then none else (
      bdI (e_X9_ahead (σ.1 (46, 0, 0, 0) ((x4 + (nI 1)).toNatClampNeg)) (σ.1 (46, 0, 0, 0) ((x4 + (nI 2)).toNatClampNeg)) σ) (fun v112 σ111 =>
      if x4 + (nI 1) < 0 ∨ (σ111.1 (46, 0, 0, 1) 0).toNatClampNeg ≤ (x4 + (nI 1)).toNatClampNeg then none else (
      if x4 + (nI 2) < 0 ∨ (σ111.1 (46, 0, 0, 1) 0).toNatClampNeg ≤ (x4 + (nI 2)).toNatClampNeg then none else (
      bdI (e_X10_ahead (σ111.1 (46, 0, 0, 0) ((x4 + (nI 1)).toNatClampNeg)) (σ111.1 (46, 0, 0, 0) ((x4 + (nI 2)).toNatClampNeg)) σ111) (fun v114 σ113 =>
      if v112 = v114 then (
        G 1429 σ113)
      else (
        if nI 0 = 0 ∨ nI 0 = 1 then some (some (some (.inl (nI 0))), σ113) else none))))))))
    else if (σ.1 (46, 0, 0, 0) x4.toNatClampNeg) &&& (nI 63) = nI 26 then (
      bdI (e_X9_quiet σ) (fun v116 σ115 =>
      bdI (e_X10_quiet σ115) (fun v118 σ117 =>
      if v116 = v118 then (
        G 1429 σ117)
      else (
        if nI 0 = 0 ∨ nI 0 = 1 then some (some (some (.inl (nI 0))), σ117) else none))))
    else if (σ.1 (46, 0, 0, 0) x4.toNatClampNeg) &&& (nI 63) = nI 27 then (
      bdI (e_X9_next σ) (fun v120 σ119 =>
      bdI (e_X10_next σ119) (fun v122 σ121 =>
      if v120 = v122 then (
        G 1429 σ121)
      else (
        if nI 0 = 0 ∨ nI 0 = 1 then some (some (some (.inl (nI 0))), σ121) else none))))
    else if (σ.1 (46, 0, 0, 0) x4.toNatClampNeg) &&& (nI 63) = nI 28 then (
      if x4 + (nI 1) < 0 ∨ (σ.1 (46, 0, 0, 1) 0).toNatClampNeg ≤ (x4 + (nI 1)).toNatClampNeg then none else (
      bdI (e_X9_soonest (σ.1 (46, 0, 0, 0) ((x4 + (nI 1)).toNatClampNeg)) σ) (fun v124 σ123 =>
      if x4 + (nI 1) < 0 ∨ (σ123.1 (46, 0, 0, 1) 0).toNatClampNeg ≤ (x4 + (nI 1)).toNatClampNeg then none else (
      bdI (e_X10_soonest (σ123.1 (46, 0, 0, 0) ((x4 + (nI 1)).toNatClampNeg)) σ123) (fun v126 σ125 =>
      if v124 = v126 then (
        G 1429 σ125)
      else (
        if nI 0 = 0 ∨ nI 0 = 1 then some (some (some (.inl (nI 0))), σ125) else none))))))
    else if (σ.1 (46, 0, 0, 0) x4.toNatClampNeg) &&& (nI 63) = nI 29 then (
      bdI (e_X9_day σ) (fun v128 σ127 =>
      bdI (e_X10_day σ127) (fun v130 σ129 =>
      if v128 = v130 then (
        G 1429 σ129)
      else (
        if nI 0 = 0 ∨ nI 0 = 1 then some (some (some (.inl (nI 0))), σ129) else none))))
    else if (σ.1 (46, 0, 0, 0) x4.toNatClampNeg) &&& (nI 63) = nI 30 then (
      bdI (e_X9_undo σ) (fun v132 σ131 =>
      bdI (e_X10_undo σ131) (fun v134 σ133 =>
      if v132 = v134 then (
        G 1429 σ133)
      else (
        if nI 0 = 0 ∨ nI 0 = 1 then some (some (some (.inl (nI 0))), σ133) else none))))
    else if (σ.1 (46, 0, 0, 0) x4.toNatClampNeg) &&& (nI 63) = nI 31 then (
      if x4 + (nI 1) < 0 ∨ (σ.1 (46, 0, 0, 1) 0).toNatClampNeg ≤ (x4 + (nI 1)).toNatClampNeg then none else (
      if x4 + (nI 2) < 0 ∨ (σ.1 (46, 0, 0, 1) 0).toNatClampNeg ≤ (x4 + (nI 2)).toNatClampNeg then none else (
      bdI (e_X9_years (σ.1 (46, 0, 0, 0) ((x4 + (nI 1)).toNatClampNeg)) (σ.1 (46, 0, 0, 0) ((x4 + (nI 2)).toNatClampNeg)) σ) (fun v136 σ135 =>
      if x4 + (nI 1) < 0 ∨ (σ135.1 (46, 0, 0, 1) 0).toNatClampNeg ≤ (x4 + (nI 1)).toNatClampNeg then none else (
      if x4 + (nI 2) < 0 ∨ (σ135.1 (46, 0, 0, 1) 0).toNatClampNeg ≤ (x4 + (nI 2)).toNatClampNeg then none else (
      bdI (e_X10_years (σ135.1 (46, 0, 0, 0) ((x4 + (nI 1)).toNatClampNeg)) (σ135.1 (46, 0, 0, 0) ((x4 + (nI 2)).toNatClampNeg)) σ135) (fun v138 σ137 =>
      if v136 = v138 then (
        G 1429 σ137)
      else (
        if nI 0 = 0 ∨ nI 0 = 1 then some (some (some (.inl (nI 0))), σ137) else none))))))))
    else if (σ.1 (46, 0, 0, 0) x4.toNatClampNeg) &&& (nI 63) = nI 32 then (
      if x4 + (nI 1) < 0 ∨ (σ.1 (46, 0, 0, 1) 0).toNatClampNeg ≤ (x4 + (nI 1)).toNatClampNeg then none else (
      bdI (e_X9_keep (σ.1 (46, 0, 0, 0) ((x4 + (nI 1)).toNatClampNeg)) σ) (fun v140 σ139 =>
      if x4 + (nI 1) < 0 ∨ (σ139.1 (46, 0, 0, 1) 0).toNatClampNeg ≤ (x4 + (nI 1)).toNatClampNeg then none else (
      bdI (e_X10_keep (σ139.1 (46, 0, 0, 0) ((x4 + (nI 1)).toNatClampNeg)) σ139) (fun v142 σ141 =>
      if v140 = v142 then (
        G 1429 σ141)
      else (
        if nI 0 = 0 ∨ nI 0 = 1 then some (some (some (.inl (nI 0))), σ141) else none))))))
    else if (σ.1 (46, 0, 0, 0) x4.toNatClampNeg) &&& (nI 63) = nI 33 then (
      if x4 + (nI 1) < 0 ∨ (σ.1 (46, 0, 0, 1) 0).toNatClampNeg ≤ (x4 + (nI 1)).toNatClampNeg then none else (
      bdI (e_X9_again (σ.1 (46, 0, 0, 0) ((x4 + (nI 1)).toNatClampNeg)) σ) (fun v144 σ143 =>
      if x4 + (nI 1) < 0 ∨ (σ143.1 (46, 0, 0, 1) 0).toNatClampNeg ≤ (x4 + (nI 1)).toNatClampNeg then none else (
      bdI (e_X10_again (σ143.1 (46, 0, 0, 0) ((x4 + (nI 1)).toNatClampNeg)) σ143) (fun v146 σ145 =>
      if v144 = v146 then (
        G 1429 σ145)
      else (
        if nI 0 = 0 ∨ nI 0 = 1 then some (some (some (.inl (nI 0))), σ145) else none))))))
    else if (σ.1 (46, 0, 0, 0) x4.toNatClampNeg) &&& (nI 63) = nI 34 then (
      if x4 + (nI 1) < 0 ∨ (σ.1 (46, 0, 0, 1) 0).toNatClampNeg ≤ (x4 + (nI 1)).toNatClampNeg then none else (
      bdI (e_X9_count (σ.1 (46, 0, 0, 0) ((x4 + (nI 1)).toNatClampNeg)) σ) (fun v148 σ147 =>
      if x4 + (nI 1) < 0 ∨ (σ147.1 (46, 0, 0, 1) 0).toNatClampNeg ≤ (x4 + (nI 1)).toNatClampNeg then none else (
      bdI (e_X10_count (σ147.1 (46, 0, 0, 0) ((x4 + (nI 1)).toNatClampNeg)) σ147) (fun v150 σ149 =>
      if v148 = v150 then (
        G 1429 σ149)
      else (
        if nI 0 = 0 ∨ nI 0 = 1 then some (some (some (.inl (nI 0))), σ149) else none))))))
    else if (σ.1 (46, 0, 0, 0) x4.toNatClampNeg) &&& (nI 63) = nI 35 then (
      if x4 + (nI 1) < 0 ∨ (σ.1 (46, 0, 0, 1) 0).toNatClampNeg ≤ (x4 + (nI 1)).toNatClampNeg then none else (
      bdI (e_L_row (σ.1 (46, 0, 0, 0) ((x4 + (nI 1)).toNatClampNeg)) σ) (fun v152 σ151 =>
      if x4 + (nI 1) < 0 ∨ (σ151.1 (46, 0, 0, 1) 0).toNatClampNeg ≤ (x4 + (nI 1)).toNatClampNeg then none else (
      bdL (e_X10_row (σ151.1 (46, 0, 0, 0) ((x4 + (nI 1)).toNatClampNeg)) σ151) (fun v154 σ153 =>
      bdI (e_X10_thrown σ153) (fun v156 σ155 =>
      if v156 = v152 then (
        if v152 = 0 then (
          if nI 0 < 0 ∨ 1 ≤ (nI 0).toNatClampNeg then none else (
          if lg_cmp (σ155.2 (45, 0, 0, 0) (nI 0).toNatClampNeg) v154 = 0 then (
            G 1426 σ155)
          else (
            if nI 0 = 0 ∨ nI 0 = 1 then some (some (some (.inl (nI 0))), σ155) else none)))
        else (
          G 1426 σ155))
      else (
        if nI 0 = 0 ∨ nI 0 = 1 then some (some (some (.inl (nI 0))), σ155) else none)))))))
    else (G 1429 σ)))
set_option maxRecDepth 100000 in
set_option maxHeartbeats 4000000 in
theorem tq_23 (jmp : Nat → List (Option mV) → List mV → mS → Option mR) (x4 : Int32) (σ : mS) : mblockOf mcode (lwR jmp) (226, 23, LLx x4, [], σ) = tx_23 (fun pc σ => jmp pc (LLx x4) [] σ) x4 σ := rfl
set_option maxRecDepth 100000 in
set_option maxHeartbeats 4000000 in
theorem te_23 (pcs : List Nat) (hp : pcs = [353, 593, 673, 765, 958, 1426, 1429]) (x4 : Int32) (σ : mS) : tx_23 (fun pc σ => bif pcs.contains pc then Ev (226, pc, LLx x4, [], σ) else none) x4 σ = b_L_law_23 x4 σ := by
  rw [q_L_law_23, hp]
  rfl
noncomputable def tx_1429 (G : Nat → mS → Option mR) (x4 : Int32) (σ : mS) : Option mR :=
  G 23 σ
set_option maxRecDepth 100000 in
set_option maxHeartbeats 4000000 in
theorem tq_1429 (jmp : Nat → List (Option mV) → List mV → mS → Option mR) (x4 : Int32) (σ : mS) : mblockOf mcode (lwR jmp) (226, 1429, LLx x4, [], σ) = tx_1429 (fun pc σ => jmp pc (LLx (x4 + 6)) [] σ) x4 σ := rfl
set_option maxRecDepth 100000 in
set_option maxHeartbeats 4000000 in
theorem te_1429 (pcs : List Nat) (hp : pcs = [23]) (x4 : Int32) (σ : mS) : tx_1429 (fun pc σ => bif pcs.contains pc then Ev (226, pc, LLx (x4 + 6), [], σ) else none) x4 σ = b_L_law_1429 x4 σ := by
  rw [q_L_law_1429, hp]
  rfl
noncomputable def tx_353 (G : Nat → mS → Option mR) (x4 : Int32) (σ : mS) : Option mR :=
  G 1429 σ
set_option maxRecDepth 100000 in
set_option maxHeartbeats 4000000 in
theorem tq_353 (jmp : Nat → List (Option mV) → List mV → mS → Option mR) (x4 : Int32) (σ : mS) : mblockOf mcode (lwR jmp) (226, 353, LLx x4, [], σ) = tx_353 (fun pc σ => jmp pc (LLx x4) [] σ) x4 σ := rfl
set_option maxRecDepth 100000 in
set_option maxHeartbeats 4000000 in
theorem te_353 (pcs : List Nat) (hp : pcs = [1429]) (x4 : Int32) (σ : mS) : tx_353 (fun pc σ => bif pcs.contains pc then Ev (226, pc, LLx x4, [], σ) else none) x4 σ = b_L_law_353 x4 σ := by
  rw [q_L_law_353, hp]
  rfl
noncomputable def tx_593 (G : Nat → mS → Option mR) (x4 : Int32) (σ : mS) : Option mR :=
  G 1429 σ
set_option maxRecDepth 100000 in
set_option maxHeartbeats 4000000 in
theorem tq_593 (jmp : Nat → List (Option mV) → List mV → mS → Option mR) (x4 : Int32) (σ : mS) : mblockOf mcode (lwR jmp) (226, 593, LLx x4, [], σ) = tx_593 (fun pc σ => jmp pc (LLx x4) [] σ) x4 σ := rfl
set_option maxRecDepth 100000 in
set_option maxHeartbeats 4000000 in
theorem te_593 (pcs : List Nat) (hp : pcs = [1429]) (x4 : Int32) (σ : mS) : tx_593 (fun pc σ => bif pcs.contains pc then Ev (226, pc, LLx x4, [], σ) else none) x4 σ = b_L_law_593 x4 σ := by
  rw [q_L_law_593, hp]
  rfl
noncomputable def tx_673 (G : Nat → mS → Option mR) (x4 : Int32) (σ : mS) : Option mR :=
  G 1429 σ
set_option maxRecDepth 100000 in
set_option maxHeartbeats 4000000 in
theorem tq_673 (jmp : Nat → List (Option mV) → List mV → mS → Option mR) (x4 : Int32) (σ : mS) : mblockOf mcode (lwR jmp) (226, 673, LLx x4, [], σ) = tx_673 (fun pc σ => jmp pc (LLx x4) [] σ) x4 σ := rfl
set_option maxRecDepth 100000 in
set_option maxHeartbeats 4000000 in
theorem te_673 (pcs : List Nat) (hp : pcs = [1429]) (x4 : Int32) (σ : mS) : tx_673 (fun pc σ => bif pcs.contains pc then Ev (226, pc, LLx x4, [], σ) else none) x4 σ = b_L_law_673 x4 σ := by
  rw [q_L_law_673, hp]
  rfl
noncomputable def tx_765 (G : Nat → mS → Option mR) (x4 : Int32) (σ : mS) : Option mR :=
  G 1429 σ
set_option maxRecDepth 100000 in
set_option maxHeartbeats 4000000 in
theorem tq_765 (jmp : Nat → List (Option mV) → List mV → mS → Option mR) (x4 : Int32) (σ : mS) : mblockOf mcode (lwR jmp) (226, 765, LLx x4, [], σ) = tx_765 (fun pc σ => jmp pc (LLx x4) [] σ) x4 σ := rfl
set_option maxRecDepth 100000 in
set_option maxHeartbeats 4000000 in
theorem te_765 (pcs : List Nat) (hp : pcs = [1429]) (x4 : Int32) (σ : mS) : tx_765 (fun pc σ => bif pcs.contains pc then Ev (226, pc, LLx x4, [], σ) else none) x4 σ = b_L_law_765 x4 σ := by
  rw [q_L_law_765, hp]
  rfl
noncomputable def tx_958 (G : Nat → mS → Option mR) (x4 : Int32) (σ : mS) : Option mR :=
  G 1429 σ
set_option maxRecDepth 100000 in
set_option maxHeartbeats 4000000 in
theorem tq_958 (jmp : Nat → List (Option mV) → List mV → mS → Option mR) (x4 : Int32) (σ : mS) : mblockOf mcode (lwR jmp) (226, 958, LLx x4, [], σ) = tx_958 (fun pc σ => jmp pc (LLx x4) [] σ) x4 σ := rfl
set_option maxRecDepth 100000 in
set_option maxHeartbeats 4000000 in
theorem te_958 (pcs : List Nat) (hp : pcs = [1429]) (x4 : Int32) (σ : mS) : tx_958 (fun pc σ => bif pcs.contains pc then Ev (226, pc, LLx x4, [], σ) else none) x4 σ = b_L_law_958 x4 σ := by
  rw [q_L_law_958, hp]
  rfl
noncomputable def tx_1426 (G : Nat → mS → Option mR) (x4 : Int32) (σ : mS) : Option mR :=
  G 1429 σ
set_option maxRecDepth 100000 in
set_option maxHeartbeats 4000000 in
theorem tq_1426 (jmp : Nat → List (Option mV) → List mV → mS → Option mR) (x4 : Int32) (σ : mS) : mblockOf mcode (lwR jmp) (226, 1426, LLx x4, [], σ) = tx_1426 (fun pc σ => jmp pc (LLx x4) [] σ) x4 σ := rfl
set_option maxRecDepth 100000 in
set_option maxHeartbeats 4000000 in
theorem te_1426 (pcs : List Nat) (hp : pcs = [1429]) (x4 : Int32) (σ : mS) : tx_1426 (fun pc σ => bif pcs.contains pc then Ev (226, pc, LLx x4, [], σ) else none) x4 σ = b_L_law_1426 x4 σ := by
  rw [q_L_law_1426, hp]
  rfl

/-! The law: its loop (by program out of the mini-code) -/
noncomputable def b_L_law_23 (x4 : Int32) (σ : mS) : Option mR := Ev (226, 23, [some (.inr (.inr (46, 0, 0, 0))), some (.inr (.inr (9, 0, 0, 0))), some (.inr (.inr (10, 0, 0, 0))), some (.inr (.inr (45, 0, 0, 0))), some (.inl x4), none, none, none], [], σ)
noncomputable def b_L_law_1429 (x4 : Int32) (σ : mS) : Option mR := Ev (226, 1429, [some (.inr (.inr (46, 0, 0, 0))), some (.inr (.inr (9, 0, 0, 0))), some (.inr (.inr (10, 0, 0, 0))), some (.inr (.inr (45, 0, 0, 0))), some (.inl x4), none, none, none], [], σ)
noncomputable def b_L_law_353 (x4 : Int32) (σ : mS) : Option mR := Ev (226, 353, [some (.inr (.inr (46, 0, 0, 0))), some (.inr (.inr (9, 0, 0, 0))), some (.inr (.inr (10, 0, 0, 0))), some (.inr (.inr (45, 0, 0, 0))), some (.inl x4), none, none, none], [], σ)
noncomputable def b_L_law_593 (x4 : Int32) (σ : mS) : Option mR := Ev (226, 593, [some (.inr (.inr (46, 0, 0, 0))), some (.inr (.inr (9, 0, 0, 0))), some (.inr (.inr (10, 0, 0, 0))), some (.inr (.inr (45, 0, 0, 0))), some (.inl x4), none, none, none], [], σ)
noncomputable def b_L_law_673 (x4 : Int32) (σ : mS) : Option mR := Ev (226, 673, [some (.inr (.inr (46, 0, 0, 0))), some (.inr (.inr (9, 0, 0, 0))), some (.inr (.inr (10, 0, 0, 0))), some (.inr (.inr (45, 0, 0, 0))), some (.inl x4), none, none, none], [], σ)
noncomputable def b_L_law_765 (x4 : Int32) (σ : mS) : Option mR := Ev (226, 765, [some (.inr (.inr (46, 0, 0, 0))), some (.inr (.inr (9, 0, 0, 0))), some (.inr (.inr (10, 0, 0, 0))), some (.inr (.inr (45, 0, 0, 0))), some (.inl x4), none, none, none], [], σ)
noncomputable def b_L_law_958 (x4 : Int32) (σ : mS) : Option mR := Ev (226, 958, [some (.inr (.inr (46, 0, 0, 0))), some (.inr (.inr (9, 0, 0, 0))), some (.inr (.inr (10, 0, 0, 0))), some (.inr (.inr (45, 0, 0, 0))), some (.inl x4), none, none, none], [], σ)
noncomputable def b_L_law_1426 (x4 : Int32) (σ : mS) : Option mR := Ev (226, 1426, [some (.inr (.inr (46, 0, 0, 0))), some (.inr (.inr (9, 0, 0, 0))), some (.inr (.inr (10, 0, 0, 0))), some (.inr (.inr (45, 0, 0, 0))), some (.inl x4), none, none, none], [], σ)
set_option maxRecDepth 100000 in
set_option maxHeartbeats 4000000 in
theorem q_L_law_23 (x4 : Int32) (σ : mS) : b_L_law_23 x4 σ =
  if (σ.1 (46, 0, 0, 1) 0) - (nI 6) < x4 then (
    if nI 1 = 0 ∨ nI 1 = 1 then some (some (some (.inl (nI 1))), σ) else none)
  else (
    if x4 < 0 ∨ (σ.1 (46, 0, 0, 1) 0).toNatClampNeg ≤ x4.toNatClampNeg then none else (
    if (σ.1 (46, 0, 0, 0) x4.toNatClampNeg) &&& (nI 63) = nI 0 then (
      if x4 + (nI 1) < 0 ∨ (σ.1 (46, 0, 0, 1) 0).toNatClampNeg ≤ (x4 + (nI 1)).toNatClampNeg then none else (
      bdI (e_X9_sign (σ.1 (46, 0, 0, 0) ((x4 + (nI 1)).toNatClampNeg)) σ) (fun v2 σ1 =>
      if x4 + (nI 1) < 0 ∨ (σ1.1 (46, 0, 0, 1) 0).toNatClampNeg ≤ (x4 + (nI 1)).toNatClampNeg then none else (
      bdI (e_X10_sign (σ1.1 (46, 0, 0, 0) ((x4 + (nI 1)).toNatClampNeg)) σ1) (fun v4 σ3 =>
      if v2 = v4 then (
        b_L_law_1429 x4 σ3)
      else (
        if nI 0 = 0 ∨ nI 0 = 1 then some (some (some (.inl (nI 0))), σ3) else none))))))
    else if (σ.1 (46, 0, 0, 0) x4.toNatClampNeg) &&& (nI 63) = nI 1 then (
      if x4 + (nI 1) < 0 ∨ (σ.1 (46, 0, 0, 1) 0).toNatClampNeg ≤ (x4 + (nI 1)).toNatClampNeg then none else (
      bdI (e_X9_end (σ.1 (46, 0, 0, 0) ((x4 + (nI 1)).toNatClampNeg)) σ) (fun v6 σ5 =>
      if x4 + (nI 1) < 0 ∨ (σ5.1 (46, 0, 0, 1) 0).toNatClampNeg ≤ (x4 + (nI 1)).toNatClampNeg then none else (
      bdI (e_X10_end (σ5.1 (46, 0, 0, 0) ((x4 + (nI 1)).toNatClampNeg)) σ5) (fun v8 σ7 =>
      if v6 = v8 then (
        b_L_law_1429 x4 σ7)
      else (
        if nI 0 = 0 ∨ nI 0 = 1 then some (some (some (.inl (nI 0))), σ7) else none))))))
    else if (σ.1 (46, 0, 0, 0) x4.toNatClampNeg) &&& (nI 63) = nI 2 then (
      bdI (e_X9_net σ) (fun v10 σ9 =>
      bdI (e_X10_net σ9) (fun v12 σ11 =>
      if v10 = v12 then (
        b_L_law_1429 x4 σ11)
      else (
        if nI 0 = 0 ∨ nI 0 = 1 then some (some (some (.inl (nI 0))), σ11) else none))))
    else if (σ.1 (46, 0, 0, 0) x4.toNatClampNeg) &&& (nI 63) = nI 3 then (
      if x4 + (nI 1) < 0 ∨ (σ.1 (46, 0, 0, 1) 0).toNatClampNeg ≤ (x4 + (nI 1)).toNatClampNeg then none else (
      if x4 + (nI 2) < 0 ∨ (σ.1 (46, 0, 0, 1) 0).toNatClampNeg ≤ (x4 + (nI 2)).toNatClampNeg then none else (
      bdI (e_X9_sets (σ.1 (46, 0, 0, 0) ((x4 + (nI 1)).toNatClampNeg)) (σ.1 (46, 0, 0, 0) ((x4 + (nI 2)).toNatClampNeg)) σ) (fun v14 σ13 =>
      if x4 + (nI 1) < 0 ∨ (σ13.1 (46, 0, 0, 1) 0).toNatClampNeg ≤ (x4 + (nI 1)).toNatClampNeg then none else (
      if x4 + (nI 2) < 0 ∨ (σ13.1 (46, 0, 0, 1) 0).toNatClampNeg ≤ (x4 + (nI 2)).toNatClampNeg then none else (
      bdI (e_X10_sets (σ13.1 (46, 0, 0, 0) ((x4 + (nI 1)).toNatClampNeg)) (σ13.1 (46, 0, 0, 0) ((x4 + (nI 2)).toNatClampNeg)) σ13) (fun v16 σ15 =>
      if v14 = v16 then (
        b_L_law_1429 x4 σ15)
      else (
        if nI 0 = 0 ∨ nI 0 = 1 then some (some (some (.inl (nI 0))), σ15) else none))))))))
    else if (σ.1 (46, 0, 0, 0) x4.toNatClampNeg) &&& (nI 63) = nI 4 then (
      if x4 + (nI 1) < 0 ∨ (σ.1 (46, 0, 0, 1) 0).toNatClampNeg ≤ (x4 + (nI 1)).toNatClampNeg then none else (
      bdI (e_L_setting (σ.1 (46, 0, 0, 0) ((x4 + (nI 1)).toNatClampNeg)) σ) (fun v18 σ17 =>
      if x4 + (nI 1) < 0 ∨ (σ17.1 (46, 0, 0, 1) 0).toNatClampNeg ≤ (x4 + (nI 1)).toNatClampNeg then none else (
      bdI (e_X10_setting (σ17.1 (46, 0, 0, 0) ((x4 + (nI 1)).toNatClampNeg)) σ17) (fun v20 σ19 =>
      bdI (e_X10_thrown σ19) (fun v22 σ21 =>
      if v22 = v18 then (
        if v18 = 0 then (
          if nI 0 < 0 ∨ 1 ≤ (nI 0).toNatClampNeg then none else (
          if lg_cmp (σ21.2 (45, 0, 0, 0) (nI 0).toNatClampNeg) ((v20).toInt64) = 0 then (
            b_L_law_353 x4 σ21)
          else (
            if nI 0 = 0 ∨ nI 0 = 1 then some (some (some (.inl (nI 0))), σ21) else none)))
        else (
          b_L_law_353 x4 σ21))
      else (
        if nI 0 = 0 ∨ nI 0 = 1 then some (some (some (.inl (nI 0))), σ21) else none)))))))
    else if (σ.1 (46, 0, 0, 0) x4.toNatClampNeg) &&& (nI 63) = nI 5 then (
      if x4 + (nI 1) < 0 ∨ (σ.1 (46, 0, 0, 1) 0).toNatClampNeg ≤ (x4 + (nI 1)).toNatClampNeg then none else (
      if x4 + (nI 2) < 0 ∨ (σ.1 (46, 0, 0, 1) 0).toNatClampNeg ≤ (x4 + (nI 2)).toNatClampNeg then none else (
      if x4 + (nI 3) < 0 ∨ (σ.1 (46, 0, 0, 1) 0).toNatClampNeg ≤ (x4 + (nI 3)).toNatClampNeg then none else (
      if x4 + (nI 4) < 0 ∨ (σ.1 (46, 0, 0, 1) 0).toNatClampNeg ≤ (x4 + (nI 4)).toNatClampNeg then none else (
      if x4 + (nI 5) < 0 ∨ (σ.1 (46, 0, 0, 1) 0).toNatClampNeg ≤ (x4 + (nI 5)).toNatClampNeg then none else (
      bdI (e_X9_sheet (σ.1 (46, 0, 0, 0) ((x4 + (nI 1)).toNatClampNeg)) (σ.1 (46, 0, 0, 0) ((x4 + (nI 2)).toNatClampNeg)) (σ.1 (46, 0, 0, 0) ((x4 + (nI 3)).toNatClampNeg)) (σ.1 (46, 0, 0, 0) ((x4 + (nI 4)).toNatClampNeg)) (σ.1 (46, 0, 0, 0) ((x4 + (nI 5)).toNatClampNeg)) σ) (fun v24 σ23 =>
      if x4 + (nI 1) < 0 ∨ (σ23.1 (46, 0, 0, 1) 0).toNatClampNeg ≤ (x4 + (nI 1)).toNatClampNeg then none else (
      if x4 + (nI 2) < 0 ∨ (σ23.1 (46, 0, 0, 1) 0).toNatClampNeg ≤ (x4 + (nI 2)).toNatClampNeg then none else (
      if x4 + (nI 3) < 0 ∨ (σ23.1 (46, 0, 0, 1) 0).toNatClampNeg ≤ (x4 + (nI 3)).toNatClampNeg then none else (
      if x4 + (nI 4) < 0 ∨ (σ23.1 (46, 0, 0, 1) 0).toNatClampNeg ≤ (x4 + (nI 4)).toNatClampNeg then none else (
      if x4 + (nI 5) < 0 ∨ (σ23.1 (46, 0, 0, 1) 0).toNatClampNeg ≤ (x4 + (nI 5)).toNatClampNeg then none else (
      bdI (e_X10_sheet (σ23.1 (46, 0, 0, 0) ((x4 + (nI 1)).toNatClampNeg)) (σ23.1 (46, 0, 0, 0) ((x4 + (nI 2)).toNatClampNeg)) (σ23.1 (46, 0, 0, 0) ((x4 + (nI 3)).toNatClampNeg)) (σ23.1 (46, 0, 0, 0) ((x4 + (nI 4)).toNatClampNeg)) (σ23.1 (46, 0, 0, 0) ((x4 + (nI 5)).toNatClampNeg)) σ23) (fun v26 σ25 =>
      if v24 = v26 then (
        b_L_law_1429 x4 σ25)
      else (
        if nI 0 = 0 ∨ nI 0 = 1 then some (some (some (.inl (nI 0))), σ25) else none))))))))))))))
    else if (σ.1 (46, 0, 0, 0) x4.toNatClampNeg) &&& (nI 63) = nI 6 then (
      if x4 + (nI 1) < 0 ∨ (σ.1 (46, 0, 0, 1) 0).toNatClampNeg ≤ (x4 + (nI 1)).toNatClampNeg then none else (
      if x4 + (nI 2) < 0 ∨ (σ.1 (46, 0, 0, 1) 0).toNatClampNeg ≤ (x4 + (nI 2)).toNatClampNeg then none else (
      if x4 + (nI 3) < 0 ∨ (σ.1 (46, 0, 0, 1) 0).toNatClampNeg ≤ (x4 + (nI 3)).toNatClampNeg then none else (
      if x4 + (nI 4) < 0 ∨ (σ.1 (46, 0, 0, 1) 0).toNatClampNeg ≤ (x4 + (nI 4)).toNatClampNeg then none else (
      bdI (e_X9_offers (σ.1 (46, 0, 0, 0) ((x4 + (nI 1)).toNatClampNeg)) (σ.1 (46, 0, 0, 0) ((x4 + (nI 2)).toNatClampNeg)) (σ.1 (46, 0, 0, 0) ((x4 + (nI 3)).toNatClampNeg)) (σ.1 (46, 0, 0, 0) ((x4 + (nI 4)).toNatClampNeg)) σ) (fun v28 σ27 =>
      if x4 + (nI 1) < 0 ∨ (σ27.1 (46, 0, 0, 1) 0).toNatClampNeg ≤ (x4 + (nI 1)).toNatClampNeg then none else (
      if x4 + (nI 2) < 0 ∨ (σ27.1 (46, 0, 0, 1) 0).toNatClampNeg ≤ (x4 + (nI 2)).toNatClampNeg then none else (
      if x4 + (nI 3) < 0 ∨ (σ27.1 (46, 0, 0, 1) 0).toNatClampNeg ≤ (x4 + (nI 3)).toNatClampNeg then none else (
      if x4 + (nI 4) < 0 ∨ (σ27.1 (46, 0, 0, 1) 0).toNatClampNeg ≤ (x4 + (nI 4)).toNatClampNeg then none else (
      bdI (e_X10_offers (σ27.1 (46, 0, 0, 0) ((x4 + (nI 1)).toNatClampNeg)) (σ27.1 (46, 0, 0, 0) ((x4 + (nI 2)).toNatClampNeg)) (σ27.1 (46, 0, 0, 0) ((x4 + (nI 3)).toNatClampNeg)) (σ27.1 (46, 0, 0, 0) ((x4 + (nI 4)).toNatClampNeg)) σ27) (fun v30 σ29 =>
      if v28 = v30 then (
        b_L_law_1429 x4 σ29)
      else (
        if nI 0 = 0 ∨ nI 0 = 1 then some (some (some (.inl (nI 0))), σ29) else none))))))))))))
    else if (σ.1 (46, 0, 0, 0) x4.toNatClampNeg) &&& (nI 63) = nI 7 then (
      if x4 + (nI 1) < 0 ∨ (σ.1 (46, 0, 0, 1) 0).toNatClampNeg ≤ (x4 + (nI 1)).toNatClampNeg then none else (
      bdI (e_X9_slots (σ.1 (46, 0, 0, 0) ((x4 + (nI 1)).toNatClampNeg)) σ) (fun v32 σ31 =>
      if x4 + (nI 1) < 0 ∨ (σ31.1 (46, 0, 0, 1) 0).toNatClampNeg ≤ (x4 + (nI 1)).toNatClampNeg then none else (
      bdI (e_X10_slots (σ31.1 (46, 0, 0, 0) ((x4 + (nI 1)).toNatClampNeg)) σ31) (fun v34 σ33 =>
      if v32 = v34 then (
        b_L_law_1429 x4 σ33)
      else (
        if nI 0 = 0 ∨ nI 0 = 1 then some (some (some (.inl (nI 0))), σ33) else none))))))
    else if (σ.1 (46, 0, 0, 0) x4.toNatClampNeg) &&& (nI 63) = nI 8 then (
      bdI (e_X9_draws σ) (fun v36 σ35 =>
      bdI (e_X10_draws σ35) (fun v38 σ37 =>
      if v36 = v38 then (
        b_L_law_1429 x4 σ37)
      else (
        if nI 0 = 0 ∨ nI 0 = 1 then some (some (some (.inl (nI 0))), σ37) else none))))
    else if (σ.1 (46, 0, 0, 0) x4.toNatClampNeg) &&& (nI 63) = nI 9 then (
      if x4 + (nI 1) < 0 ∨ (σ.1 (46, 0, 0, 1) 0).toNatClampNeg ≤ (x4 + (nI 1)).toNatClampNeg then none else (
      if x4 + (nI 2) < 0 ∨ (σ.1 (46, 0, 0, 1) 0).toNatClampNeg ≤ (x4 + (nI 2)).toNatClampNeg then none else (
      bdI (e_L_station (σ.1 (46, 0, 0, 0) ((x4 + (nI 1)).toNatClampNeg)) (σ.1 (46, 0, 0, 0) ((x4 + (nI 2)).toNatClampNeg)) σ) (fun v40 σ39 =>
      if x4 + (nI 1) < 0 ∨ (σ39.1 (46, 0, 0, 1) 0).toNatClampNeg ≤ (x4 + (nI 1)).toNatClampNeg then none else (
      if x4 + (nI 2) < 0 ∨ (σ39.1 (46, 0, 0, 1) 0).toNatClampNeg ≤ (x4 + (nI 2)).toNatClampNeg then none else (
      bdI (e_X10_station (σ39.1 (46, 0, 0, 0) ((x4 + (nI 1)).toNatClampNeg)) (σ39.1 (46, 0, 0, 0) ((x4 + (nI 2)).toNatClampNeg)) σ39) (fun v42 σ41 =>
      bdI (e_X10_thrown σ41) (fun v44 σ43 =>
      if v44 = v40 then (
        if v40 = 0 then (
          if nI 0 < 0 ∨ 1 ≤ (nI 0).toNatClampNeg then none else (
          if lg_cmp (σ43.2 (45, 0, 0, 0) (nI 0).toNatClampNeg) ((v42).toInt64) = 0 then (
            b_L_law_593 x4 σ43)
          else (
            if nI 0 = 0 ∨ nI 0 = 1 then some (some (some (.inl (nI 0))), σ43) else none)))
        else (
          b_L_law_593 x4 σ43))
      else (
        if nI 0 = 0 ∨ nI 0 = 1 then some (some (some (.inl (nI 0))), σ43) else none)))))))))
    else if (σ.1 (46, 0, 0, 0) x4.toNatClampNeg) &&& (nI 63) = nI 10 then (
      if x4 + (nI 1) < 0 ∨ (σ.1 (46, 0, 0, 1) 0).toNatClampNeg ≤ (x4 + (nI 1)).toNatClampNeg then none else (
      if x4 + (nI 2) < 0 ∨ (σ.1 (46, 0, 0, 1) 0).toNatClampNeg ≤ (x4 + (nI 2)).toNatClampNeg then none else (
      if x4 + (nI 3) < 0 ∨ (σ.1 (46, 0, 0, 1) 0).toNatClampNeg ≤ (x4 + (nI 3)).toNatClampNeg then none else (
      bdI (e_L_rank (σ.1 (46, 0, 0, 0) ((x4 + (nI 1)).toNatClampNeg)) (σ.1 (46, 0, 0, 0) ((x4 + (nI 2)).toNatClampNeg)) (σ.1 (46, 0, 0, 0) ((x4 + (nI 3)).toNatClampNeg)) σ) (fun v46 σ45 =>
      if x4 + (nI 1) < 0 ∨ (σ45.1 (46, 0, 0, 1) 0).toNatClampNeg ≤ (x4 + (nI 1)).toNatClampNeg then none else (
      if x4 + (nI 2) < 0 ∨ (σ45.1 (46, 0, 0, 1) 0).toNatClampNeg ≤ (x4 + (nI 2)).toNatClampNeg then none else (
      if x4 + (nI 3) < 0 ∨ (σ45.1 (46, 0, 0, 1) 0).toNatClampNeg ≤ (x4 + (nI 3)).toNatClampNeg then none else (
      bdI (e_X10_rank (σ45.1 (46, 0, 0, 0) ((x4 + (nI 1)).toNatClampNeg)) (σ45.1 (46, 0, 0, 0) ((x4 + (nI 2)).toNatClampNeg)) (σ45.1 (46, 0, 0, 0) ((x4 + (nI 3)).toNatClampNeg)) σ45) (fun v48 σ47 =>
      bdI (e_X10_thrown σ47) (fun v50 σ49 =>
      if v50 = v46 then (
        if v46 = 0 then (
          if nI 0 < 0 ∨ 1 ≤ (nI 0).toNatClampNeg then none else (
          if lg_cmp (σ49.2 (45, 0, 0, 0) (nI 0).toNatClampNeg) ((v48).toInt64) = 0 then (
            b_L_law_673 x4 σ49)
          else (
            if nI 0 = 0 ∨ nI 0 = 1 then some (some (some (.inl (nI 0))), σ49) else none)))
        else (
          b_L_law_673 x4 σ49))
      else (
        if nI 0 = 0 ∨ nI 0 = 1 then some (some (some (.inl (nI 0))), σ49) else none)))))))))))
    else if (σ.1 (46, 0, 0, 0) x4.toNatClampNeg) &&& (nI 63) = nI 11 then (
      if x4 + (nI 1) < 0 ∨ (σ.1 (46, 0, 0, 1) 0).toNatClampNeg ≤ (x4 + (nI 1)).toNatClampNeg then none else (
      if x4 + (nI 2) < 0 ∨ (σ.1 (46, 0, 0, 1) 0).toNatClampNeg ≤ (x4 + (nI 2)).toNatClampNeg then none else (
      if x4 + (nI 3) < 0 ∨ (σ.1 (46, 0, 0, 1) 0).toNatClampNeg ≤ (x4 + (nI 3)).toNatClampNeg then none else (
      if x4 + (nI 4) < 0 ∨ (σ.1 (46, 0, 0, 1) 0).toNatClampNeg ≤ (x4 + (nI 4)).toNatClampNeg then none else (
      bdI (e_L_frame (σ.1 (46, 0, 0, 0) ((x4 + (nI 1)).toNatClampNeg)) (σ.1 (46, 0, 0, 0) ((x4 + (nI 2)).toNatClampNeg)) (σ.1 (46, 0, 0, 0) ((x4 + (nI 3)).toNatClampNeg)) (σ.1 (46, 0, 0, 0) ((x4 + (nI 4)).toNatClampNeg)) σ) (fun v52 σ51 =>
      if x4 + (nI 1) < 0 ∨ (σ51.1 (46, 0, 0, 1) 0).toNatClampNeg ≤ (x4 + (nI 1)).toNatClampNeg then none else (
      if x4 + (nI 2) < 0 ∨ (σ51.1 (46, 0, 0, 1) 0).toNatClampNeg ≤ (x4 + (nI 2)).toNatClampNeg then none else (
      if x4 + (nI 3) < 0 ∨ (σ51.1 (46, 0, 0, 1) 0).toNatClampNeg ≤ (x4 + (nI 3)).toNatClampNeg then none else (
      if x4 + (nI 4) < 0 ∨ (σ51.1 (46, 0, 0, 1) 0).toNatClampNeg ≤ (x4 + (nI 4)).toNatClampNeg then none else (
      bdI (e_X10_frame (σ51.1 (46, 0, 0, 0) ((x4 + (nI 1)).toNatClampNeg)) (σ51.1 (46, 0, 0, 0) ((x4 + (nI 2)).toNatClampNeg)) (σ51.1 (46, 0, 0, 0) ((x4 + (nI 3)).toNatClampNeg)) (σ51.1 (46, 0, 0, 0) ((x4 + (nI 4)).toNatClampNeg)) σ51) (fun v54 σ53 =>
      bdI (e_X10_thrown σ53) (fun v56 σ55 =>
      if v56 = v52 then (
        if v52 = 0 then (
          if nI 0 < 0 ∨ 1 ≤ (nI 0).toNatClampNeg then none else (
          if lg_cmp (σ55.2 (45, 0, 0, 0) (nI 0).toNatClampNeg) ((v54).toInt64) = 0 then (
            b_L_law_765 x4 σ55)
          else (
            if nI 0 = 0 ∨ nI 0 = 1 then some (some (some (.inl (nI 0))), σ55) else none)))
        else (
          b_L_law_765 x4 σ55))
      else (
        if nI 0 = 0 ∨ nI 0 = 1 then some (some (some (.inl (nI 0))), σ55) else none)))))))))))))
    else if (σ.1 (46, 0, 0, 0) x4.toNatClampNeg) &&& (nI 63) = nI 12 then (
      if x4 + (nI 1) < 0 ∨ (σ.1 (46, 0, 0, 1) 0).toNatClampNeg ≤ (x4 + (nI 1)).toNatClampNeg then none else (
      if x4 + (nI 2) < 0 ∨ (σ.1 (46, 0, 0, 1) 0).toNatClampNeg ≤ (x4 + (nI 2)).toNatClampNeg then none else (
      bdI (e_X9_exchange (σ.1 (46, 0, 0, 0) ((x4 + (nI 1)).toNatClampNeg)) (σ.1 (46, 0, 0, 0) ((x4 + (nI 2)).toNatClampNeg)) σ) (fun v58 σ57 =>
      if x4 + (nI 1) < 0 ∨ (σ57.1 (46, 0, 0, 1) 0).toNatClampNeg ≤ (x4 + (nI 1)).toNatClampNeg then none else (
      if x4 + (nI 2) < 0 ∨ (σ57.1 (46, 0, 0, 1) 0).toNatClampNeg ≤ (x4 + (nI 2)).toNatClampNeg then none else (
      bdI (e_X10_exchange (σ57.1 (46, 0, 0, 0) ((x4 + (nI 1)).toNatClampNeg)) (σ57.1 (46, 0, 0, 0) ((x4 + (nI 2)).toNatClampNeg)) σ57) (fun v60 σ59 =>
      if v58 = v60 then (
        b_L_law_1429 x4 σ59)
      else (
        if nI 0 = 0 ∨ nI 0 = 1 then some (some (some (.inl (nI 0))), σ59) else none))))))))
    else if (σ.1 (46, 0, 0, 0) x4.toNatClampNeg) &&& (nI 63) = nI 13 then (
      bdI (e_X9_sent σ) (fun v62 σ61 =>
      bdI (e_X10_sent σ61) (fun v64 σ63 =>
      if v62 = v64 then (
        b_L_law_1429 x4 σ63)
      else (
        if nI 0 = 0 ∨ nI 0 = 1 then some (some (some (.inl (nI 0))), σ63) else none))))
    else if (σ.1 (46, 0, 0, 0) x4.toNatClampNeg) &&& (nI 63) = nI 14 then (
      if x4 + (nI 1) < 0 ∨ (σ.1 (46, 0, 0, 1) 0).toNatClampNeg ≤ (x4 + (nI 1)).toNatClampNeg then none else (
      bdI (e_X9_spanOf (σ.1 (46, 0, 0, 0) ((x4 + (nI 1)).toNatClampNeg)) σ) (fun v66 σ65 =>
      if x4 + (nI 1) < 0 ∨ (σ65.1 (46, 0, 0, 1) 0).toNatClampNeg ≤ (x4 + (nI 1)).toNatClampNeg then none else (
      bdI (e_X10_spanOf (σ65.1 (46, 0, 0, 0) ((x4 + (nI 1)).toNatClampNeg)) σ65) (fun v68 σ67 =>
      if v66 = v68 then (
        b_L_law_1429 x4 σ67)
      else (
        if nI 0 = 0 ∨ nI 0 = 1 then some (some (some (.inl (nI 0))), σ67) else none))))))
    else if (σ.1 (46, 0, 0, 0) x4.toNatClampNeg) &&& (nI 63) = nI 15 then (
      if x4 + (nI 1) < 0 ∨ (σ.1 (46, 0, 0, 1) 0).toNatClampNeg ≤ (x4 + (nI 1)).toNatClampNeg then none else (
      if x4 + (nI 2) < 0 ∨ (σ.1 (46, 0, 0, 1) 0).toNatClampNeg ≤ (x4 + (nI 2)).toNatClampNeg then none else (
      bdI (e_X9_rate (σ.1 (46, 0, 0, 0) ((x4 + (nI 1)).toNatClampNeg)) (σ.1 (46, 0, 0, 0) ((x4 + (nI 2)).toNatClampNeg)) σ) (fun v70 σ69 =>
      if x4 + (nI 1) < 0 ∨ (σ69.1 (46, 0, 0, 1) 0).toNatClampNeg ≤ (x4 + (nI 1)).toNatClampNeg then none else (
      if x4 + (nI 2) < 0 ∨ (σ69.1 (46, 0, 0, 1) 0).toNatClampNeg ≤ (x4 + (nI 2)).toNatClampNeg then none else (
      bdI (e_X10_rate (σ69.1 (46, 0, 0, 0) ((x4 + (nI 1)).toNatClampNeg)) (σ69.1 (46, 0, 0, 0) ((x4 + (nI 2)).toNatClampNeg)) σ69) (fun v72 σ71 =>
      if v70 = v72 then (
        b_L_law_1429 x4 σ71)
      else (
        if nI 0 = 0 ∨ nI 0 = 1 then some (some (some (.inl (nI 0))), σ71) else none))))))))
    else if (σ.1 (46, 0, 0, 0) x4.toNatClampNeg) &&& (nI 63) = nI 16 then (
      bdI (e_X9_hidden σ) (fun v74 σ73 =>
      bdI (e_X10_hidden σ73) (fun v76 σ75 =>
      if v74 = v76 then (
        b_L_law_1429 x4 σ75)
      else (
        if nI 0 = 0 ∨ nI 0 = 1 then some (some (some (.inl (nI 0))), σ75) else none))))
    else if (σ.1 (46, 0, 0, 0) x4.toNatClampNeg) &&& (nI 63) = nI 17 then (
      if x4 + (nI 1) < 0 ∨ (σ.1 (46, 0, 0, 1) 0).toNatClampNeg ≤ (x4 + (nI 1)).toNatClampNeg then none else (
      if x4 + (nI 2) < 0 ∨ (σ.1 (46, 0, 0, 1) 0).toNatClampNeg ≤ (x4 + (nI 2)).toNatClampNeg then none else (
      bdI (e_L_tally (σ.1 (46, 0, 0, 0) ((x4 + (nI 1)).toNatClampNeg)) (σ.1 (46, 0, 0, 0) ((x4 + (nI 2)).toNatClampNeg)) σ) (fun v78 σ77 =>
      if x4 + (nI 1) < 0 ∨ (σ77.1 (46, 0, 0, 1) 0).toNatClampNeg ≤ (x4 + (nI 1)).toNatClampNeg then none else (
      if x4 + (nI 2) < 0 ∨ (σ77.1 (46, 0, 0, 1) 0).toNatClampNeg ≤ (x4 + (nI 2)).toNatClampNeg then none else (
      bdI (e_X10_tally (σ77.1 (46, 0, 0, 0) ((x4 + (nI 1)).toNatClampNeg)) (σ77.1 (46, 0, 0, 0) ((x4 + (nI 2)).toNatClampNeg)) σ77) (fun v80 σ79 =>
      bdI (e_X10_thrown σ79) (fun v82 σ81 =>
      if v82 = v78 then (
        if v78 = 0 then (
          if nI 0 < 0 ∨ 1 ≤ (nI 0).toNatClampNeg then none else (
          if lg_cmp (σ81.2 (45, 0, 0, 0) (nI 0).toNatClampNeg) ((v80).toInt64) = 0 then (
            b_L_law_958 x4 σ81)
          else (
            if nI 0 = 0 ∨ nI 0 = 1 then some (some (some (.inl (nI 0))), σ81) else none)))
        else (
          b_L_law_958 x4 σ81))
      else (
        if nI 0 = 0 ∨ nI 0 = 1 then some (some (some (.inl (nI 0))), σ81) else none)))))))))
    else if (σ.1 (46, 0, 0, 0) x4.toNatClampNeg) &&& (nI 63) = nI 18 then (
      if x4 + (nI 1) < 0 ∨ (σ.1 (46, 0, 0, 1) 0).toNatClampNeg ≤ (x4 + (nI 1)).toNatClampNeg then none else (
      bdI (e_X9_why (σ.1 (46, 0, 0, 0) ((x4 + (nI 1)).toNatClampNeg)) σ) (fun v84 σ83 =>
      if x4 + (nI 1) < 0 ∨ (σ83.1 (46, 0, 0, 1) 0).toNatClampNeg ≤ (x4 + (nI 1)).toNatClampNeg then none else (
      bdI (e_X10_why (σ83.1 (46, 0, 0, 0) ((x4 + (nI 1)).toNatClampNeg)) σ83) (fun v86 σ85 =>
      if v84 = v86 then (
        b_L_law_1429 x4 σ85)
      else (
        if nI 0 = 0 ∨ nI 0 = 1 then some (some (some (.inl (nI 0))), σ85) else none))))))
    else if (σ.1 (46, 0, 0, 0) x4.toNatClampNeg) &&& (nI 63) = nI 19 then (
      if x4 + (nI 1) < 0 ∨ (σ.1 (46, 0, 0, 1) 0).toNatClampNeg ≤ (x4 + (nI 1)).toNatClampNeg then none else (
      if x4 + (nI 2) < 0 ∨ (σ.1 (46, 0, 0, 1) 0).toNatClampNeg ≤ (x4 + (nI 2)).toNatClampNeg then none else (
      bdI (e_X9_spoilt (σ.1 (46, 0, 0, 0) ((x4 + (nI 1)).toNatClampNeg)) (σ.1 (46, 0, 0, 0) ((x4 + (nI 2)).toNatClampNeg)) σ) (fun v88 σ87 =>
      if x4 + (nI 1) < 0 ∨ (σ87.1 (46, 0, 0, 1) 0).toNatClampNeg ≤ (x4 + (nI 1)).toNatClampNeg then none else (
      if x4 + (nI 2) < 0 ∨ (σ87.1 (46, 0, 0, 1) 0).toNatClampNeg ≤ (x4 + (nI 2)).toNatClampNeg then none else (
      bdI (e_X10_spoilt (σ87.1 (46, 0, 0, 0) ((x4 + (nI 1)).toNatClampNeg)) (σ87.1 (46, 0, 0, 0) ((x4 + (nI 2)).toNatClampNeg)) σ87) (fun v90 σ89 =>
      if v88 = v90 then (
        b_L_law_1429 x4 σ89)
      else (
        if nI 0 = 0 ∨ nI 0 = 1 then some (some (some (.inl (nI 0))), σ89) else none))))))))
    else if (σ.1 (46, 0, 0, 0) x4.toNatClampNeg) &&& (nI 63) = nI 20 then (
      if x4 + (nI 1) < 0 ∨ (σ.1 (46, 0, 0, 1) 0).toNatClampNeg ≤ (x4 + (nI 1)).toNatClampNeg then none else (
      bdI (e_X9_held (σ.1 (46, 0, 0, 0) ((x4 + (nI 1)).toNatClampNeg)) σ) (fun v92 σ91 =>
      if x4 + (nI 1) < 0 ∨ (σ91.1 (46, 0, 0, 1) 0).toNatClampNeg ≤ (x4 + (nI 1)).toNatClampNeg then none else (
      bdI (e_X10_held (σ91.1 (46, 0, 0, 0) ((x4 + (nI 1)).toNatClampNeg)) σ91) (fun v94 σ93 =>
      if v92 = v94 then (
        b_L_law_1429 x4 σ93)
      else (
        if nI 0 = 0 ∨ nI 0 = 1 then some (some (some (.inl (nI 0))), σ93) else none))))))
    else if (σ.1 (46, 0, 0, 0) x4.toNatClampNeg) &&& (nI 63) = nI 21 then (
      bdI (e_X9_even σ) (fun v96 σ95 =>
      bdI (e_X10_even σ95) (fun v98 σ97 =>
      if v96 = v98 then (
        b_L_law_1429 x4 σ97)
      else (
        if nI 0 = 0 ∨ nI 0 = 1 then some (some (some (.inl (nI 0))), σ97) else none))))
    else if (σ.1 (46, 0, 0, 0) x4.toNatClampNeg) &&& (nI 63) = nI 22 then (
      bdI (e_X9_busy σ) (fun v100 σ99 =>
      bdI (e_X10_busy σ99) (fun v102 σ101 =>
      if v100 = v102 then (
        b_L_law_1429 x4 σ101)
      else (
        if nI 0 = 0 ∨ nI 0 = 1 then some (some (some (.inl (nI 0))), σ101) else none))))
    else if (σ.1 (46, 0, 0, 0) x4.toNatClampNeg) &&& (nI 63) = nI 23 then (
      if x4 + (nI 1) < 0 ∨ (σ.1 (46, 0, 0, 1) 0).toNatClampNeg ≤ (x4 + (nI 1)).toNatClampNeg then none else (
      if x4 + (nI 2) < 0 ∨ (σ.1 (46, 0, 0, 1) 0).toNatClampNeg ≤ (x4 + (nI 2)).toNatClampNeg then none else (
      bdI (e_X9_odds (σ.1 (46, 0, 0, 0) ((x4 + (nI 1)).toNatClampNeg)) (σ.1 (46, 0, 0, 0) ((x4 + (nI 2)).toNatClampNeg)) σ) (fun v104 σ103 =>
      if x4 + (nI 1) < 0 ∨ (σ103.1 (46, 0, 0, 1) 0).toNatClampNeg ≤ (x4 + (nI 1)).toNatClampNeg then none else (
      if x4 + (nI 2) < 0 ∨ (σ103.1 (46, 0, 0, 1) 0).toNatClampNeg ≤ (x4 + (nI 2)).toNatClampNeg then none else (
      bdI (e_X10_odds (σ103.1 (46, 0, 0, 0) ((x4 + (nI 1)).toNatClampNeg)) (σ103.1 (46, 0, 0, 0) ((x4 + (nI 2)).toNatClampNeg)) σ103) (fun v106 σ105 =>
      if v104 = v106 then (
        b_L_law_1429 x4 σ105)
      else (
        if nI 0 = 0 ∨ nI 0 = 1 then some (some (some (.inl (nI 0))), σ105) else none))))))))
    else if (σ.1 (46, 0, 0, 0) x4.toNatClampNeg) &&& (nI 63) = nI 24 then (
      if x4 + (nI 1) < 0 ∨ (σ.1 (46, 0, 0, 1) 0).toNatClampNeg ≤ (x4 + (nI 1)).toNatClampNeg then none else (
      if x4 + (nI 2) < 0 ∨ (σ.1 (46, 0, 0, 1) 0).toNatClampNeg ≤ (x4 + (nI 2)).toNatClampNeg then none else (
      bdI (e_X9_window (σ.1 (46, 0, 0, 0) ((x4 + (nI 1)).toNatClampNeg)) (σ.1 (46, 0, 0, 0) ((x4 + (nI 2)).toNatClampNeg)) σ) (fun v108 σ107 =>
      if x4 + (nI 1) < 0 ∨ (σ107.1 (46, 0, 0, 1) 0).toNatClampNeg ≤ (x4 + (nI 1)).toNatClampNeg then none else (
      if x4 + (nI 2) < 0 ∨ (σ107.1 (46, 0, 0, 1) 0).toNatClampNeg ≤ (x4 + (nI 2)).toNatClampNeg then none else (
      bdI (e_X10_window (σ107.1 (46, 0, 0, 0) ((x4 + (nI 1)).toNatClampNeg)) (σ107.1 (46, 0, 0, 0) ((x4 + (nI 2)).toNatClampNeg)) σ107) (fun v110 σ109 =>
      if v108 = v110 then (
        b_L_law_1429 x4 σ109)
      else (
        if nI 0 = 0 ∨ nI 0 = 1 then some (some (some (.inl (nI 0))), σ109) else none))))))))
    else if (σ.1 (46, 0, 0, 0) x4.toNatClampNeg) &&& (nI 63) = nI 25 then (
      if x4 + (nI 1) < 0 ∨ (σ.1 (46, 0, 0, 1) 0).toNatClampNeg ≤ (x4 + (nI 1)).toNatClampNeg then none else (
      if x4 + (nI 2) < 0 ∨ (σ.1 (46, 0, 0, 1) 0).toNatClampNeg ≤ (x4 + (nI 2)).toNatClampNeg then none else (
      bdI (e_X9_ahead (σ.1 (46, 0, 0, 0) ((x4 + (nI 1)).toNatClampNeg)) (σ.1 (46, 0, 0, 0) ((x4 + (nI 2)).toNatClampNeg)) σ) (fun v112 σ111 =>
      if x4 + (nI 1) < 0 ∨ (σ111.1 (46, 0, 0, 1) 0).toNatClampNeg ≤ (x4 + (nI 1)).toNatClampNeg then none else (
      if x4 + (nI 2) < 0 ∨ (σ111.1 (46, 0, 0, 1) 0).toNatClampNeg ≤ (x4 + (nI 2)).toNatClampNeg then none else (
      bdI (e_X10_ahead (σ111.1 (46, 0, 0, 0) ((x4 + (nI 1)).toNatClampNeg)) (σ111.1 (46, 0, 0, 0) ((x4 + (nI 2)).toNatClampNeg)) σ111) (fun v114 σ113 =>
      if v112 = v114 then (
        b_L_law_1429 x4 σ113)
      else (
        if nI 0 = 0 ∨ nI 0 = 1 then some (some (some (.inl (nI 0))), σ113) else none))))))))
    else if (σ.1 (46, 0, 0, 0) x4.toNatClampNeg) &&& (nI 63) = nI 26 then (
      bdI (e_X9_quiet σ) (fun v116 σ115 =>
      bdI (e_X10_quiet σ115) (fun v118 σ117 =>
      if v116 = v118 then (
        b_L_law_1429 x4 σ117)
      else (
        if nI 0 = 0 ∨ nI 0 = 1 then some (some (some (.inl (nI 0))), σ117) else none))))
    else if (σ.1 (46, 0, 0, 0) x4.toNatClampNeg) &&& (nI 63) = nI 27 then (
      bdI (e_X9_next σ) (fun v120 σ119 =>
      bdI (e_X10_next σ119) (fun v122 σ121 =>
      if v120 = v122 then (
        b_L_law_1429 x4 σ121)
      else (
        if nI 0 = 0 ∨ nI 0 = 1 then some (some (some (.inl (nI 0))), σ121) else none))))
    else if (σ.1 (46, 0, 0, 0) x4.toNatClampNeg) &&& (nI 63) = nI 28 then (
      if x4 + (nI 1) < 0 ∨ (σ.1 (46, 0, 0, 1) 0).toNatClampNeg ≤ (x4 + (nI 1)).toNatClampNeg then none else (
      bdI (e_X9_soonest (σ.1 (46, 0, 0, 0) ((x4 + (nI 1)).toNatClampNeg)) σ) (fun v124 σ123 =>
      if x4 + (nI 1) < 0 ∨ (σ123.1 (46, 0, 0, 1) 0).toNatClampNeg ≤ (x4 + (nI 1)).toNatClampNeg then none else (
      bdI (e_X10_soonest (σ123.1 (46, 0, 0, 0) ((x4 + (nI 1)).toNatClampNeg)) σ123) (fun v126 σ125 =>
      if v124 = v126 then (
        b_L_law_1429 x4 σ125)
      else (
        if nI 0 = 0 ∨ nI 0 = 1 then some (some (some (.inl (nI 0))), σ125) else none))))))
    else if (σ.1 (46, 0, 0, 0) x4.toNatClampNeg) &&& (nI 63) = nI 29 then (
      bdI (e_X9_day σ) (fun v128 σ127 =>
      bdI (e_X10_day σ127) (fun v130 σ129 =>
      if v128 = v130 then (
        b_L_law_1429 x4 σ129)
      else (
        if nI 0 = 0 ∨ nI 0 = 1 then some (some (some (.inl (nI 0))), σ129) else none))))
    else if (σ.1 (46, 0, 0, 0) x4.toNatClampNeg) &&& (nI 63) = nI 30 then (
      bdI (e_X9_undo σ) (fun v132 σ131 =>
      bdI (e_X10_undo σ131) (fun v134 σ133 =>
      if v132 = v134 then (
        b_L_law_1429 x4 σ133)
      else (
        if nI 0 = 0 ∨ nI 0 = 1 then some (some (some (.inl (nI 0))), σ133) else none))))
    else if (σ.1 (46, 0, 0, 0) x4.toNatClampNeg) &&& (nI 63) = nI 31 then (
      if x4 + (nI 1) < 0 ∨ (σ.1 (46, 0, 0, 1) 0).toNatClampNeg ≤ (x4 + (nI 1)).toNatClampNeg then none else (
      if x4 + (nI 2) < 0 ∨ (σ.1 (46, 0, 0, 1) 0).toNatClampNeg ≤ (x4 + (nI 2)).toNatClampNeg then none else (
      bdI (e_X9_years (σ.1 (46, 0, 0, 0) ((x4 + (nI 1)).toNatClampNeg)) (σ.1 (46, 0, 0, 0) ((x4 + (nI 2)).toNatClampNeg)) σ) (fun v136 σ135 =>
      if x4 + (nI 1) < 0 ∨ (σ135.1 (46, 0, 0, 1) 0).toNatClampNeg ≤ (x4 + (nI 1)).toNatClampNeg then none else (
      if x4 + (nI 2) < 0 ∨ (σ135.1 (46, 0, 0, 1) 0).toNatClampNeg ≤ (x4 + (nI 2)).toNatClampNeg then none else (
      bdI (e_X10_years (σ135.1 (46, 0, 0, 0) ((x4 + (nI 1)).toNatClampNeg)) (σ135.1 (46, 0, 0, 0) ((x4 + (nI 2)).toNatClampNeg)) σ135) (fun v138 σ137 =>
      if v136 = v138 then (
        b_L_law_1429 x4 σ137)
      else (
        if nI 0 = 0 ∨ nI 0 = 1 then some (some (some (.inl (nI 0))), σ137) else none))))))))
    else if (σ.1 (46, 0, 0, 0) x4.toNatClampNeg) &&& (nI 63) = nI 32 then (
      if x4 + (nI 1) < 0 ∨ (σ.1 (46, 0, 0, 1) 0).toNatClampNeg ≤ (x4 + (nI 1)).toNatClampNeg then none else (
      bdI (e_X9_keep (σ.1 (46, 0, 0, 0) ((x4 + (nI 1)).toNatClampNeg)) σ) (fun v140 σ139 =>
      if x4 + (nI 1) < 0 ∨ (σ139.1 (46, 0, 0, 1) 0).toNatClampNeg ≤ (x4 + (nI 1)).toNatClampNeg then none else (
      bdI (e_X10_keep (σ139.1 (46, 0, 0, 0) ((x4 + (nI 1)).toNatClampNeg)) σ139) (fun v142 σ141 =>
      if v140 = v142 then (
        b_L_law_1429 x4 σ141)
      else (
        if nI 0 = 0 ∨ nI 0 = 1 then some (some (some (.inl (nI 0))), σ141) else none))))))
    else if (σ.1 (46, 0, 0, 0) x4.toNatClampNeg) &&& (nI 63) = nI 33 then (
      if x4 + (nI 1) < 0 ∨ (σ.1 (46, 0, 0, 1) 0).toNatClampNeg ≤ (x4 + (nI 1)).toNatClampNeg then none else (
      bdI (e_X9_again (σ.1 (46, 0, 0, 0) ((x4 + (nI 1)).toNatClampNeg)) σ) (fun v144 σ143 =>
      if x4 + (nI 1) < 0 ∨ (σ143.1 (46, 0, 0, 1) 0).toNatClampNeg ≤ (x4 + (nI 1)).toNatClampNeg then none else (
      bdI (e_X10_again (σ143.1 (46, 0, 0, 0) ((x4 + (nI 1)).toNatClampNeg)) σ143) (fun v146 σ145 =>
      if v144 = v146 then (
        b_L_law_1429 x4 σ145)
      else (
        if nI 0 = 0 ∨ nI 0 = 1 then some (some (some (.inl (nI 0))), σ145) else none))))))
    else if (σ.1 (46, 0, 0, 0) x4.toNatClampNeg) &&& (nI 63) = nI 34 then (
      if x4 + (nI 1) < 0 ∨ (σ.1 (46, 0, 0, 1) 0).toNatClampNeg ≤ (x4 + (nI 1)).toNatClampNeg then none else (
      bdI (e_X9_count (σ.1 (46, 0, 0, 0) ((x4 + (nI 1)).toNatClampNeg)) σ) (fun v148 σ147 =>
      if x4 + (nI 1) < 0 ∨ (σ147.1 (46, 0, 0, 1) 0).toNatClampNeg ≤ (x4 + (nI 1)).toNatClampNeg then none else (
      bdI (e_X10_count (σ147.1 (46, 0, 0, 0) ((x4 + (nI 1)).toNatClampNeg)) σ147) (fun v150 σ149 =>
      if v148 = v150 then (
        b_L_law_1429 x4 σ149)
      else (
        if nI 0 = 0 ∨ nI 0 = 1 then some (some (some (.inl (nI 0))), σ149) else none))))))
    else if (σ.1 (46, 0, 0, 0) x4.toNatClampNeg) &&& (nI 63) = nI 35 then (
      if x4 + (nI 1) < 0 ∨ (σ.1 (46, 0, 0, 1) 0).toNatClampNeg ≤ (x4 + (nI 1)).toNatClampNeg then none else (
      bdI (e_L_row (σ.1 (46, 0, 0, 0) ((x4 + (nI 1)).toNatClampNeg)) σ) (fun v152 σ151 =>
      if x4 + (nI 1) < 0 ∨ (σ151.1 (46, 0, 0, 1) 0).toNatClampNeg ≤ (x4 + (nI 1)).toNatClampNeg then none else (
      bdL (e_X10_row (σ151.1 (46, 0, 0, 0) ((x4 + (nI 1)).toNatClampNeg)) σ151) (fun v154 σ153 =>
      bdI (e_X10_thrown σ153) (fun v156 σ155 =>
      if v156 = v152 then (
        if v152 = 0 then (
          if nI 0 < 0 ∨ 1 ≤ (nI 0).toNatClampNeg then none else (
          if lg_cmp (σ155.2 (45, 0, 0, 0) (nI 0).toNatClampNeg) v154 = 0 then (
            b_L_law_1426 x4 σ155)
          else (
            if nI 0 = 0 ∨ nI 0 = 1 then some (some (some (.inl (nI 0))), σ155) else none)))
        else (
          b_L_law_1426 x4 σ155))
      else (
        if nI 0 = 0 ∨ nI 0 = 1 then some (some (some (.inl (nI 0))), σ155) else none)))))))
    else (b_L_law_1429 x4 σ))) := (EvOf_eq mcode _).trans rfl
set_option maxRecDepth 100000 in
set_option maxHeartbeats 4000000 in
theorem q_L_law_1429 (x4 : Int32) (σ : mS) : b_L_law_1429 x4 σ =
  b_L_law_23 (x4 + 6) σ := (EvOf_eq mcode _).trans rfl
set_option maxRecDepth 100000 in
set_option maxHeartbeats 4000000 in
theorem q_L_law_353 (x4 : Int32) (σ : mS) : b_L_law_353 x4 σ =
  b_L_law_1429 x4 σ := (EvOf_eq mcode _).trans rfl
set_option maxRecDepth 100000 in
set_option maxHeartbeats 4000000 in
theorem q_L_law_593 (x4 : Int32) (σ : mS) : b_L_law_593 x4 σ =
  b_L_law_1429 x4 σ := (EvOf_eq mcode _).trans rfl
set_option maxRecDepth 100000 in
set_option maxHeartbeats 4000000 in
theorem q_L_law_673 (x4 : Int32) (σ : mS) : b_L_law_673 x4 σ =
  b_L_law_1429 x4 σ := (EvOf_eq mcode _).trans rfl
set_option maxRecDepth 100000 in
set_option maxHeartbeats 4000000 in
theorem q_L_law_765 (x4 : Int32) (σ : mS) : b_L_law_765 x4 σ =
  b_L_law_1429 x4 σ := (EvOf_eq mcode _).trans rfl
set_option maxRecDepth 100000 in
set_option maxHeartbeats 4000000 in
theorem q_L_law_958 (x4 : Int32) (σ : mS) : b_L_law_958 x4 σ =
  b_L_law_1429 x4 σ := (EvOf_eq mcode _).trans rfl
set_option maxRecDepth 100000 in
set_option maxHeartbeats 4000000 in
theorem q_L_law_1426 (x4 : Int32) (σ : mS) : b_L_law_1426 x4 σ =
  b_L_law_1429 x4 σ := (EvOf_eq mcode _).trans rfl

/-! What each block comes to (by program out of the mini-code) -/
set_option maxRecDepth 100000 in
set_option maxHeartbeats 4000000 in
theorem q_X0_become (oa : Nat) (p1a : Nat) (σ : mS) : e_X0_become oa p1a σ =
  if nI 12 < 0 ∨ nI 0 < 0 ∨ nI 0 < 0 ∨ 12 < (nI 0).toNatClampNeg + (nI 12).toNatClampNeg ∨ 12 < (nI 0).toNatClampNeg + (nI 12).toNatClampNeg then none else (
  let σ1 := stC σ (11, p1a, 0, 0) ((nI 0).toNatClampNeg) (11, oa, 0, 0) ((nI 0).toNatClampNeg) ((nI 12).toNatClampNeg);
  let σ2 := st σ1 (1, oa, 0, 0) 0 (σ1.1 (1, p1a, 0, 0) 0);
  b_X0_become_31 oa p1a (nI 0) σ2) := (EvOf_eq mcode _).trans rfl
set_option maxRecDepth 100000 in
set_option maxHeartbeats 4000000 in
theorem q_X0_become_31 (o0a : Nat) (o1a : Nat) (x2 : Int32) (σ : mS) : b_X0_become_31 o0a o1a x2 σ =
  if x2 < σ.1 (0, o1a, 0, 0) 3 then (
    if x2 < 0 ∨ 6 ≤ x2.toNatClampNeg then none else (
    if x2 < 0 ∨ 6 ≤ x2.toNatClampNeg then none else (
    bdV (e_X8_become o0a x2.toNatClampNeg o1a x2.toNatClampNeg σ) (fun σ1 =>
    b_X0_become_31 o0a o1a (x2 + 1) σ1))))
  else (
    let σ2 := st σ (0, o0a, 0, 0) 3 (σ.1 (0, o1a, 0, 0) 3);
    let σ3 := st σ2 (0, o0a, 0, 0) 4 (σ2.1 (0, o1a, 0, 0) 4);
    let σ4 := st σ3 (0, o0a, 0, 0) 5 (σ3.1 (0, o1a, 0, 0) 5);
    let σ5 := st σ4 (0, o0a, 0, 0) 6 (σ4.1 (0, o1a, 0, 0) 6);
    let σ6 := st σ5 (0, o0a, 0, 0) 7 (σ5.1 (0, o1a, 0, 0) 7);
    let σ7 := st σ6 (0, o0a, 0, 0) 8 (σ6.1 (0, o1a, 0, 0) 8);
    let σ8 := st σ7 (0, o0a, 0, 0) 9 (σ7.1 (0, o1a, 0, 0) 9);
    let σ9 := st σ8 (0, o0a, 0, 0) 10 (σ8.1 (0, o1a, 0, 0) 10);
    let σ10 := st σ9 (0, o0a, 0, 0) 11 (σ9.1 (0, o1a, 0, 0) 11);
    if σ10.1 (0, o1a, 0, 0) 12 = 0 ∨ σ10.1 (0, o1a, 0, 0) 12 = 1 then (
    let σ11 := st σ10 (0, o0a, 0, 0) 12 (σ10.1 (0, o1a, 0, 0) 12);
    some (some none, σ11)) else none) := (EvOf_eq mcode _).trans rfl
set_option maxRecDepth 100000 in
set_option maxHeartbeats 4000000 in
theorem q_X0_startAnew (oa : Nat) (p1 : Int32) (σ : mS) : e_X0_startAnew oa p1 σ =
  let σ1 := st σ (0, oa, 0, 0) 3 p1;
  let σ2 := st σ1 (0, oa, 0, 0) 4 (nI 0);
  let σ3 := st σ2 (0, oa, 0, 0) 5 (nI 0);
  let σ4 := st σ3 (0, oa, 0, 0) 6 (nI 0);
  let σ5 := st σ4 (0, oa, 0, 0) 7 (nI 0);
  let σ6 := st σ5 (0, oa, 0, 0) 8 (nI 0);
  let σ7 := st σ6 (0, oa, 0, 0) 9 (nI 0);
  let σ8 := st σ7 (0, oa, 0, 0) 10 (nI 0);
  let σ9 := st σ8 (0, oa, 0, 0) 11 (nI 0);
  if nI 0 = 0 ∨ nI 0 = 1 then (
  let σ10 := st σ9 (0, oa, 0, 0) 12 (nI 0);
  b_X0_startAnew_52 oa (nI 0) σ10) else none := (EvOf_eq mcode _).trans rfl
set_option maxRecDepth 100000 in
set_option maxHeartbeats 4000000 in
theorem q_X0_startAnew_52 (o0a : Nat) (x3 : Int32) (σ : mS) : b_X0_startAnew_52 o0a x3 σ =
  if x3 < σ.1 (0, o0a, 0, 0) 3 then (
    bdV (e_X0_startStation o0a x3 σ) (fun σ1 =>
    b_X0_startAnew_52 o0a (x3 + 1) σ1))
  else (
    some (some none, σ)) := (EvOf_eq mcode _).trans rfl
set_option maxRecDepth 100000 in
set_option maxHeartbeats 4000000 in
theorem q_X0_startStation (oa : Nat) (p1 : Int32) (σ : mS) : e_X0_startStation oa p1 σ =
  if p1 < 0 ∨ 6 ≤ p1.toNatClampNeg then none else (
  let σ1 := st σ (8, oa, p1.toNatClampNeg, 0) 6 (nI 0);
  b_X0_startStation_15 oa p1 oa p1.toNatClampNeg (nI 0) σ1) := (EvOf_eq mcode _).trans rfl
set_option maxRecDepth 100000 in
set_option maxHeartbeats 4000000 in
theorem q_X0_startStation_15 (o0a : Nat) (x1 : Int32) (o3a : Nat) (o3s : Nat) (x4 : Int32) (σ : mS) : b_X0_startStation_15 o0a x1 o3a o3s x4 σ =
  if x4 < nI 6 then (
    if (x1 * (nI 6)) + x4 < nI 36 then (
      if (x1 * (nI 6)) + x4 < 0 ∨ 36 ≤ ((x1 * (nI 6)) + x4).toNatClampNeg then none else (
      if x4 < 0 ∨ 6 ≤ x4.toNatClampNeg then none else (
      let σ1 := st σ (17, o3a, o3s, 0) x4.toNatClampNeg (σ.1 (25, 0, 0, 0) (((x1 * (nI 6)) + x4).toNatClampNeg));
      if x4 < 0 ∨ 6 ≤ x4.toNatClampNeg then none else (
      let σ2 := st σ1 (18, o3a, o3s, 0) x4.toNatClampNeg (nI 1);
      if x4 < 0 ∨ 6 ≤ x4.toNatClampNeg then none else (
      let σ3 := st σ2 (19, o3a, o3s, 0) x4.toNatClampNeg (nI 0);
      if 0 < σ.1 (25, 0, 0, 0) (((x1 * (nI 6)) + x4).toNatClampNeg) then (
        let σ4 := st σ3 (8, o3a, o3s, 0) 6 ((σ3.1 (8, o3a, o3s, 0) 6) ||| ((nI 1) <<< (x4 &&& 31)));
        b_X0_startStation_15 o0a x1 o3a o3s (x4 + 1) σ4)
      else (
        let σ5 := st σ3 (8, o3a, o3s, 0) 6 ((σ3.1 (8, o3a, o3s, 0) 6) ||| (nI 0));
        b_X0_startStation_15 o0a x1 o3a o3s (x4 + 1) σ5))))))
    else (
      if x4 < 0 ∨ 6 ≤ x4.toNatClampNeg then none else (
      let σ6 := st σ (17, o3a, o3s, 0) x4.toNatClampNeg (nI 0);
      if x4 < 0 ∨ 6 ≤ x4.toNatClampNeg then none else (
      let σ7 := st σ6 (18, o3a, o3s, 0) x4.toNatClampNeg (nI 1);
      if x4 < 0 ∨ 6 ≤ x4.toNatClampNeg then none else (
      let σ8 := st σ7 (19, o3a, o3s, 0) x4.toNatClampNeg (nI 0);
      if 0 < nI 0 then (
        let σ9 := st σ8 (8, o3a, o3s, 0) 6 ((σ8.1 (8, o3a, o3s, 0) 6) ||| ((nI 1) <<< (x4 &&& 31)));
        b_X0_startStation_15 o0a x1 o3a o3s (x4 + 1) σ9)
      else (
        let σ10 := st σ8 (8, o3a, o3s, 0) 6 ((σ8.1 (8, o3a, o3s, 0) 6) ||| (nI 0));
        b_X0_startStation_15 o0a x1 o3a o3s (x4 + 1) σ10))))))
  else (
    b_X0_startStation_104 o0a o3a o3s (nI 0) σ) := (EvOf_eq mcode _).trans rfl
set_option maxRecDepth 100000 in
set_option maxHeartbeats 4000000 in
theorem q_X0_startStation_104 (o0a : Nat) (o3a : Nat) (o3s : Nat) (x4 : Int32) (σ : mS) : b_X0_startStation_104 o0a o3a o3s x4 σ =
  if x4 < nI 4 then (
    if x4 < 0 ∨ 4 ≤ x4.toNatClampNeg then none else (
    let σ1 := st σ (6, o3a, o3s, x4.toNatClampNeg) 1 (nI 0);
    if x4 < 0 ∨ 4 ≤ x4.toNatClampNeg then none else (
    let σ2 := st σ1 (6, o3a, o3s, x4.toNatClampNeg) 3 (nI 0);
    if x4 < 0 ∨ 4 ≤ x4.toNatClampNeg then none else (
    if (nI 7) + x4 < 0 ∨ 12 ≤ ((nI 7) + x4).toNatClampNeg then none else (
    let σ3 := st σ2 (6, o3a, o3s, x4.toNatClampNeg) 2 (σ2.1 (11, o0a, 0, 0) (((nI 7) + x4).toNatClampNeg));
    b_X0_startStation_104 o0a o3a o3s (x4 + 1) σ3)))))
  else (
    let σ4 := st σ (8, o3a, o3s, 0) 7 (nI 0);
    let σ5 := st σ4 (8, o3a, o3s, 0) 8 (nI 0);
    let σ6 := st σ5 (8, o3a, o3s, 0) 9 (nI 0);
    let σ7 := st σ6 (8, o3a, o3s, 0) 10 (nI 0);
    if nI 0 = 0 ∨ nI 0 = 1 then (
    let σ8 := st σ7 (2, o3a, o3s, 0) 0 (nI 0);
    bdV (e_X8_setOwing o3a o3s (-1) (nI 0) σ8) (fun σ9 =>
    bdV (e_X3_startAnew o3a o3s σ9) (fun σ10 =>
    some (some none, σ10)))) else none) := (EvOf_eq mcode _).trans rfl
set_option maxRecDepth 100000 in
set_option maxHeartbeats 4000000 in
theorem q_X0_hear (oa : Nat) (p1 : Int32) (p2 : Int32) (σ : mS) : e_X0_hear oa p1 p2 σ =
  if p1 < 0 then (
    if nI 0 = 0 ∨ nI 0 = 1 then some (some (some (.inl (nI 0))), σ) else none)
  else (
    if p1 < σ.1 (0, oa, 0, 0) 3 then (
      if p2 < 0 then (
        if nI 0 = 0 ∨ nI 0 = 1 then some (some (some (.inl (nI 0))), σ) else none)
      else (
        if p2 < σ.1 (0, oa, 0, 0) 3 then (
          if p1 < 0 ∨ 6 ≤ p1.toNatClampNeg then none else (
          if ((σ.1 (8, oa, p1.toNatClampNeg, 0) 6) >>> (p2 &&& 31)) &&& (nI 1) = 0 then (
            if nI 0 = 0 ∨ nI 0 = 1 then some (some (some (.inl (nI 0))), σ) else none)
          else (
            if nI 1 = 0 ∨ nI 1 = 1 then some (some (some (.inl (nI 1))), σ) else none)))
        else (
          if nI 0 = 0 ∨ nI 0 = 1 then some (some (some (.inl (nI 0))), σ) else none)))
    else (
      if nI 0 = 0 ∨ nI 0 = 1 then some (some (some (.inl (nI 0))), σ) else none)) := (EvOf_eq mcode _).trans rfl
set_option maxRecDepth 100000 in
set_option maxHeartbeats 4000000 in
theorem q_X0_sumOf (oa : Nat) (p1 : Int32) (σ : mS) : e_X0_sumOf oa p1 σ =
  b_X0_sumOf_4 oa p1 (nI 0) (nI 0) σ := (EvOf_eq mcode _).trans rfl
set_option maxRecDepth 100000 in
set_option maxHeartbeats 4000000 in
theorem q_X0_sumOf_4 (o0a : Nat) (x1 : Int32) (x2 : Int32) (x3 : Int32) (σ : mS) : b_X0_sumOf_4 o0a x1 x2 x3 σ =
  if x3 < σ.1 (0, o0a, 0, 0) 3 then (
    if x3 < 0 ∨ 6 ≤ x3.toNatClampNeg then none else (
    if x1 < 0 ∨ 9 ≤ x1.toNatClampNeg then none else (
    b_X0_sumOf_4 o0a x1 (x2 + (σ.1 (15, o0a, x3.toNatClampNeg, 0) x1.toNatClampNeg)) (x3 + 1) σ)))
  else (
    some (some (some (.inl x2)), σ)) := (EvOf_eq mcode _).trans rfl
set_option maxRecDepth 100000 in
set_option maxHeartbeats 4000000 in
theorem q_X0_waiting (oa : Nat) (σ : mS) : e_X0_waiting oa σ =
  b_X0_waiting_4 oa (nI 0) (nI 0) σ := (EvOf_eq mcode _).trans rfl
set_option maxRecDepth 100000 in
set_option maxHeartbeats 4000000 in
theorem q_X0_waiting_4 (o0a : Nat) (x1 : Int32) (x2 : Int32) (σ : mS) : b_X0_waiting_4 o0a x1 x2 σ =
  if x2 < σ.1 (0, o0a, 0, 0) 3 then (
    if x2 < 0 ∨ 6 ≤ x2.toNatClampNeg then none else (
    bdI (e_X8_waiting o0a x2.toNatClampNeg σ) (fun v2 σ1 =>
    b_X0_waiting_4 o0a (x1 + v2) (x2 + 1) σ1)))
  else (
    some (some (some (.inl x1)), σ)) := (EvOf_eq mcode _).trans rfl
set_option maxRecDepth 100000 in
set_option maxHeartbeats 4000000 in
theorem q_X0_exchangesOn (oa : Nat) (σ : mS) : e_X0_exchangesOn oa σ =
  b_X0_exchangesOn_4 oa (nI 0) (nI 0) σ := (EvOf_eq mcode _).trans rfl
set_option maxRecDepth 100000 in
set_option maxHeartbeats 4000000 in
theorem q_X0_exchangesOn_4 (o0a : Nat) (x1 : Int32) (x2 : Int32) (σ : mS) : b_X0_exchangesOn_4 o0a x1 x2 σ =
  if x2 < σ.1 (0, o0a, 0, 0) 3 then (
    if x2 < 0 ∨ 6 ≤ x2.toNatClampNeg then none else (
    if σ.1 (2, o0a, x2.toNatClampNeg, 0) 0 = 0 then (
      b_X0_exchangesOn_4 o0a (x1 + (nI 0)) (x2 + 1) σ)
    else (
      b_X0_exchangesOn_4 o0a (x1 + (nI 1)) (x2 + 1) σ)))
  else (
    some (some (some (.inl x1)), σ)) := (EvOf_eq mcode _).trans rfl
set_option maxRecDepth 100000 in
set_option maxHeartbeats 4000000 in
theorem q_X0_isQuiet (oa : Nat) (σ : mS) : e_X0_isQuiet oa σ =
  bdI (e_X0_waiting oa σ) (fun v2 σ1 =>
  if v2 = 0 then (
    bdI (e_X0_exchangesOn oa σ1) (fun v4 σ3 =>
    if v4 = 0 then (
      if nI 1 = 0 ∨ nI 1 = 1 then some (some (some (.inl (nI 1))), σ3) else none)
    else (
      if nI 0 = 0 ∨ nI 0 = 1 then some (some (some (.inl (nI 0))), σ3) else none)))
  else (
    if nI 0 = 0 ∨ nI 0 = 1 then some (some (some (.inl (nI 0))), σ1) else none)) := (EvOf_eq mcode _).trans rfl
set_option maxRecDepth 100000 in
set_option maxHeartbeats 4000000 in
theorem q_X0_emptyQueues (oa : Nat) (p1 : Int32) (σ : mS) : e_X0_emptyQueues oa p1 σ =
  b_X0_emptyQueues_2 oa p1 (nI 0) σ := (EvOf_eq mcode _).trans rfl
set_option maxRecDepth 100000 in
set_option maxHeartbeats 4000000 in
theorem q_X0_emptyQueues_2 (o0a : Nat) (x1 : Int32) (x2 : Int32) (σ : mS) : b_X0_emptyQueues_2 o0a x1 x2 σ =
  if x2 < σ.1 (0, o0a, 0, 0) 3 then (
    if x2 < 0 ∨ 6 ≤ x2.toNatClampNeg then none else (
    if x1 < 0 ∨ 4 ≤ x1.toNatClampNeg then none else (
    let σ1 := st σ (6, o0a, x2.toNatClampNeg, x1.toNatClampNeg) 1 (nI 0);
    b_X0_emptyQueues_2 o0a x1 (x2 + 1) σ1)))
  else (
    some (some none, σ)) := (EvOf_eq mcode _).trans rfl
set_option maxRecDepth 100000 in
set_option maxHeartbeats 4000000 in
theorem q_X0_whyNotOffer (oa : Nat) (p1 : Int32) (p2 : Int32) (p3 : Int32) (p4 : Int32) (σ : mS) : e_X0_whyNotOffer oa p1 p2 p3 p4 σ =
  if p1 < 0 then (
    some (some (some (.inl (-1))), σ))
  else (
    if p1 < σ.1 (0, oa, 0, 0) 3 then (
      if p3 < 0 then (
        some (some (some (.inl (-1))), σ))
      else (
        if p3 < σ.1 (0, oa, 0, 0) 3 then (
          if p1 = p3 then (
            some (some (some (.inl (-1))), σ))
          else (
            bdI (e_X9_isRank p2 σ) (fun v2 σ1 =>
            if v2 = 0 then (
              some (some (some (.inl (-1))), σ1))
            else (
              if p4 < nI 1 then (
                some (some (some (.inl (-1))), σ1))
              else (
                if nI 9 < p4 then (
                  some (some (some (.inl (-1))), σ1))
                else (
                  bdI (e_X0_hear oa p1 p3 σ1) (fun v4 σ3 =>
                  if v4 = 0 then (
                    some (some (some (.inl (-3))), σ3))
                  else (
                    if p1 < 0 ∨ 6 ≤ p1.toNatClampNeg then none else (
                    if p2 < 0 ∨ 4 ≤ p2.toNatClampNeg then none else (
                    if σ3.1 (6, oa, p1.toNatClampNeg, p2.toNatClampNeg) 1 < nI 8 then (
                      some (some (some (.inl (nI 0))), σ3))
                    else (
                      some (some (some (.inl (-2))), σ3))))))))))))
        else (
          some (some (some (.inl (-1))), σ))))
    else (
      some (some (some (.inl (-1))), σ))) := (EvOf_eq mcode _).trans rfl
set_option maxRecDepth 100000 in
set_option maxHeartbeats 4000000 in
theorem q_X0_takeFrame (oa : Nat) (p1 : Int32) (p2 : Int32) (p3 : Int32) (p4 : Int32) (σ : mS) : e_X0_takeFrame oa p1 p2 p3 p4 σ =
  if p1 < 0 ∨ 6 ≤ p1.toNatClampNeg then none else (
  if p2 < 0 ∨ 4 ≤ p2.toNatClampNeg then none else (
  bdV (e_X6_addLast oa p1.toNatClampNeg p2.toNatClampNeg p3 p4 (σ.1 (0, oa, 0, 0) 4) σ) (fun σ1 =>
  some (some (some (.inl (σ1.1 (6, oa, p1.toNatClampNeg, p2.toNatClampNeg) 1))), σ1)))) := (EvOf_eq mcode _).trans rfl
set_option maxRecDepth 100000 in
set_option maxHeartbeats 4000000 in
theorem q_X0_markLast (oa : Nat) (p1 : Int32) (p2 : Int32) (σ : mS) : e_X0_markLast oa p1 p2 σ =
  if p1 < 0 ∨ 6 ≤ p1.toNatClampNeg then none else (
  if p2 < 0 ∨ 4 ≤ p2.toNatClampNeg then none else (
  if 0 < σ.1 (6, oa, p1.toNatClampNeg, p2.toNatClampNeg) 1 then (
    if (((σ.1 (6, oa, p1.toNatClampNeg, p2.toNatClampNeg) 1) - (nI 1)) * (nI 5)) + (nI 4) < 0 ∨ 40 ≤ ((((σ.1 (6, oa, p1.toNatClampNeg, p2.toNatClampNeg) 1) - (nI 1)) * (nI 5)) + (nI 4)).toNatClampNeg then none else (
    let σ1 := st σ (14, oa, p1.toNatClampNeg, p2.toNatClampNeg) (((((σ.1 (6, oa, p1.toNatClampNeg, p2.toNatClampNeg) 1) - (nI 1)) * (nI 5)) + (nI 4)).toNatClampNeg) (nI 1);
    if nI 0 = 0 ∨ nI 0 = 1 then (
    let σ2 := st σ1 (0, oa, 0, 0) 12 (nI 0);
    some (some none, σ2)) else none))
  else (
    if nI 0 = 0 ∨ nI 0 = 1 then (
    let σ3 := st σ (0, oa, 0, 0) 12 (nI 0);
    some (some none, σ3)) else none))) := (EvOf_eq mcode _).trans rfl
set_option maxRecDepth 100000 in
set_option maxHeartbeats 4000000 in
theorem q_X0_drawAll (oa : Nat) (σ : mS) : e_X0_drawAll oa σ =
  b_X0_drawAll_4 oa (nI 0) (nI 0) σ := (EvOf_eq mcode _).trans rfl
set_option maxRecDepth 100000 in
set_option maxHeartbeats 4000000 in
theorem q_X0_drawAll_4 (o0a : Nat) (x1 : Int32) (x2 : Int32) (σ : mS) : b_X0_drawAll_4 o0a x1 x2 σ =
  if x2 < σ.1 (0, o0a, 0, 0) 3 then (
    b_X0_drawAll_14 o0a x1 x2 (nI 0) σ)
  else (
    some (some (some (.inl x1)), σ)) := (EvOf_eq mcode _).trans rfl
set_option maxRecDepth 100000 in
set_option maxHeartbeats 4000000 in
theorem q_X0_drawAll_14 (o0a : Nat) (x1 : Int32) (x2 : Int32) (x3 : Int32) (σ : mS) : b_X0_drawAll_14 o0a x1 x2 x3 σ =
  if x3 < nI 4 then (
    if x2 < 0 ∨ 6 ≤ x2.toNatClampNeg then none else (
    if x3 < 0 ∨ 4 ≤ x3.toNatClampNeg then none else (
    if 0 < σ.1 (6, o0a, x2.toNatClampNeg, x3.toNatClampNeg) 1 then (
      bdI (e_X1_draw o0a ((σ.1 (6, o0a, x2.toNatClampNeg, x3.toNatClampNeg) 2) + (nI 1)) σ) (fun v2 σ1 =>
      let σ3 := st σ1 (6, o0a, x2.toNatClampNeg, x3.toNatClampNeg) 3 v2;
      b_X0_drawAll_14 o0a (x1 + 1) x2 (x3 + 1) σ3))
    else (
      b_X0_drawAll_14 o0a x1 x2 (x3 + 1) σ))))
  else (
    b_X0_drawAll_4 o0a x1 (x2 + 1) σ) := (EvOf_eq mcode _).trans rfl
set_option maxRecDepth 100000 in
set_option maxHeartbeats 4000000 in
theorem q_X0_isReady (oa : Nat) (p1 : Int32) (p2 : Int32) (σ : mS) : e_X0_isReady oa p1 p2 σ =
  if p1 < 0 ∨ 6 ≤ p1.toNatClampNeg then none else (
  if p2 < 0 ∨ 4 ≤ p2.toNatClampNeg then none else (
  if 0 < σ.1 (6, oa, p1.toNatClampNeg, p2.toNatClampNeg) 1 then (
    if σ.1 (6, oa, p1.toNatClampNeg, p2.toNatClampNeg) 3 = 0 then (
      if (nI 3) + p2 < 0 ∨ 12 ≤ ((nI 3) + p2).toNatClampNeg then none else (
      if p1 < 0 ∨ 6 ≤ p1.toNatClampNeg then none else (
      if σ.1 (8, oa, p1.toNatClampNeg, 0) 7 < σ.1 (11, oa, 0, 0) (((nI 3) + p2).toNatClampNeg) then (
        if nI 0 = 0 ∨ nI 0 = 1 then some (some (some (.inl (nI 0))), σ) else none)
      else (
        if nI 1 = 0 ∨ nI 1 = 1 then some (some (some (.inl (nI 1))), σ) else none))))
    else (
      if nI 0 = 0 ∨ nI 0 = 1 then some (some (some (.inl (nI 0))), σ) else none))
  else (
    if nI 0 = 0 ∨ nI 0 = 1 then some (some (some (.inl (nI 0))), σ) else none))) := (EvOf_eq mcode _).trans rfl
set_option maxRecDepth 100000 in
set_option maxHeartbeats 4000000 in
theorem q_X0_passSlot (oa : Nat) (σ : mS) : e_X0_passSlot oa σ =
  bdI (e_X0_runningSpans oa σ) (fun v2 σ1 =>
  let σ3 := st σ1 (0, oa, 0, 0) 7 v2;
  let σ4 := st σ3 (0, oa, 0, 0) 8 (nI 0);
  b_X0_passSlot_15 oa (nI 0) σ4) := (EvOf_eq mcode _).trans rfl
set_option maxRecDepth 100000 in
set_option maxHeartbeats 4000000 in
theorem q_X0_passSlot_15 (o0a : Nat) (x1 : Int32) (σ : mS) : b_X0_passSlot_15 o0a x1 σ =
  if x1 < σ.1 (0, o0a, 0, 0) 3 then (
    if x1 < 0 ∨ 6 ≤ x1.toNatClampNeg then none else (
    bdI (e_X8_isFree o0a x1.toNatClampNeg σ) (fun v2 σ1 =>
    if v2 = 0 then (
      b_X0_passSlot_15 o0a (x1 + 1) σ1)
    else (
      if x1 < 0 ∨ 6 ≤ x1.toNatClampNeg then none else (
      if σ1.1 (0, o0a, 0, 0) 4 < σ1.1 (8, o0a, x1.toNatClampNeg, 0) 8 then (
        b_X0_passSlot_15 o0a (x1 + 1) σ1)
      else (
        bdV (e_X0_beginOf o0a x1 σ1) (fun σ3 =>
        b_X0_passSlot_15 o0a (x1 + 1) σ3)))))))
  else (
    bdI (e_X0_senders o0a σ) (fun v5 σ4 =>
    let σ6 := st σ4 (0, o0a, 0, 0) 5 v5;
    bdI (e_X0_clearOnes o0a σ6) (fun v8 σ7 =>
    let σ9 := st σ7 (0, o0a, 0, 0) 6 v8;
    bdV (e_X0_noteSlot o0a σ9) (fun σ10 =>
    b_X0_passSlot_84 o0a (nI 0) σ10)))) := (EvOf_eq mcode _).trans rfl
set_option maxRecDepth 100000 in
set_option maxHeartbeats 4000000 in
theorem q_X0_passSlot_84 (o0a : Nat) (x1 : Int32) (σ : mS) : b_X0_passSlot_84 o0a x1 σ =
  if x1 < σ.1 (0, o0a, 0, 0) 3 then (
    if x1 < 0 ∨ 6 ≤ x1.toNatClampNeg then none else (
    if σ.1 (2, o0a, x1.toNatClampNeg, 0) 0 = 0 then (
      b_X0_passSlot_84 o0a (x1 + 1) σ)
    else (
      if σ.1 (2, o0a, x1.toNatClampNeg, 0) 1 < 0 then (
        b_X0_passSlot_84 o0a (x1 + 1) σ)
      else (
        if σ.1 (2, o0a, x1.toNatClampNeg, 0) 1 < σ.1 (0, o0a, 0, 0) 3 then (
          if σ.1 (2, o0a, x1.toNatClampNeg, 0) 5 = nI 0 then (
            bdV (e_X0_goAsk o0a x1 (σ.1 (2, o0a, x1.toNatClampNeg, 0) 1) o0a x1.toNatClampNeg σ) (fun σ1 =>
            b_X0_passSlot_84 o0a (x1 + 1) σ1))
          else if σ.1 (2, o0a, x1.toNatClampNeg, 0) 5 = nI 1 then (
            bdV (e_X0_goGrant o0a x1 (σ.1 (2, o0a, x1.toNatClampNeg, 0) 1) o0a x1.toNatClampNeg σ) (fun σ2 =>
            b_X0_passSlot_84 o0a (x1 + 1) σ2))
          else if σ.1 (2, o0a, x1.toNatClampNeg, 0) 5 = nI 2 then (
            bdV (e_X0_goData o0a x1 (σ.1 (2, o0a, x1.toNatClampNeg, 0) 1) o0a x1.toNatClampNeg σ) (fun σ3 =>
            b_X0_passSlot_84 o0a (x1 + 1) σ3))
          else (bdV (e_X0_goAnswer o0a x1 (σ.1 (2, o0a, x1.toNatClampNeg, 0) 1) o0a x1.toNatClampNeg σ) (fun σ4 =>
            b_X0_passSlot_84 o0a (x1 + 1) σ4)))
        else (
          b_X0_passSlot_84 o0a (x1 + 1) σ)))))
  else (
    b_X0_passSlot_213 o0a (nI 0) σ) := (EvOf_eq mcode _).trans rfl
set_option maxRecDepth 100000 in
set_option maxHeartbeats 4000000 in
theorem q_X0_passSlot_213 (o0a : Nat) (x1 : Int32) (σ : mS) : b_X0_passSlot_213 o0a x1 σ =
  if x1 < σ.1 (0, o0a, 0, 0) 3 then (
    bdV (e_X0_settle o0a x1 σ) (fun σ1 =>
    b_X0_passSlot_213 o0a (x1 + 1) σ1))
  else (
    let σ2 := st σ (0, o0a, 0, 0) 4 ((σ.1 (0, o0a, 0, 0) 4) + (nI 1));
    some (some none, σ2)) := (EvOf_eq mcode _).trans rfl
set_option maxRecDepth 100000 in
set_option maxHeartbeats 4000000 in
theorem q_X0_runningSpans (oa : Nat) (σ : mS) : e_X0_runningSpans oa σ =
  b_X0_runningSpans_4 oa (nI 0) (nI 0) σ := (EvOf_eq mcode _).trans rfl
set_option maxRecDepth 100000 in
set_option maxHeartbeats 4000000 in
theorem q_X0_runningSpans_4 (o0a : Nat) (x1 : Int32) (x2 : Int32) (σ : mS) : b_X0_runningSpans_4 o0a x1 x2 σ =
  if x2 < σ.1 (0, o0a, 0, 0) 3 then (
    if x2 < 0 ∨ 6 ≤ x2.toNatClampNeg then none else (
    if σ.1 (0, o0a, 0, 0) 4 < σ.1 (8, o0a, x2.toNatClampNeg, 0) 8 then (
      b_X0_runningSpans_4 o0a (x1 ||| ((nI 1) <<< (x2 &&& 31))) (x2 + 1) σ)
    else (
      b_X0_runningSpans_4 o0a (x1 ||| (nI 0)) (x2 + 1) σ)))
  else (
    some (some (some (.inl x1)), σ)) := (EvOf_eq mcode _).trans rfl
set_option maxRecDepth 100000 in
set_option maxHeartbeats 4000000 in
theorem q_X0_beginOf (oa : Nat) (p1 : Int32) (σ : mS) : e_X0_beginOf oa p1 σ =
  b_X0_beginOf_4 oa p1 (-1) (nI 0) σ := (EvOf_eq mcode _).trans rfl
set_option maxRecDepth 100000 in
set_option maxHeartbeats 4000000 in
theorem q_X0_beginOf_4 (o0a : Nat) (x1 : Int32) (x2 : Int32) (x3 : Int32) (σ : mS) : b_X0_beginOf_4 o0a x1 x2 x3 σ =
  if x3 < nI 4 then (
    bdI (e_X0_isReady o0a x1 x3 σ) (fun v2 σ1 =>
    if v2 = 0 then (
      b_X0_beginOf_4 o0a x1 x2 (x3 + 1) σ1)
    else (
      if x2 = (-1) then (
        bdV (e_X0_beginExchange o0a x1 x3 σ1) (fun σ3 =>
        b_X0_beginOf_4 o0a x1 x3 (x3 + 1) σ3))
      else (
        if x1 < 0 ∨ 6 ≤ x1.toNatClampNeg then none else (
        if nI 6 < 0 ∨ 9 ≤ (nI 6).toNatClampNeg then none else (
        if nI 6 < 0 ∨ 9 ≤ (nI 6).toNatClampNeg then none else (
        let σ4 := st σ1 (15, o0a, x1.toNatClampNeg, 0) ((nI 6).toNatClampNeg) ((σ1.1 (15, o0a, x1.toNatClampNeg, 0) ((nI 6).toNatClampNeg)) + (nI 1));
        bdV (e_X0_failFirst o0a x1 x3 σ4) (fun σ5 =>
        b_X0_beginOf_4 o0a x1 x2 (x3 + 1) σ5))))))))
  else (
    some (some none, σ)) := (EvOf_eq mcode _).trans rfl
set_option maxRecDepth 100000 in
set_option maxHeartbeats 4000000 in
theorem q_X0_beginExchange (oa : Nat) (p1 : Int32) (p2 : Int32) (σ : mS) : e_X0_beginExchange oa p1 p2 σ =
  if p1 < 0 ∨ 6 ≤ p1.toNatClampNeg then none else (
  if p2 < 0 ∨ 4 ≤ p2.toNatClampNeg then none else (
  if nI 1 = 0 ∨ nI 1 = 1 then (
  let σ1 := st σ (2, oa, p1.toNatClampNeg, 0) 0 (nI 1);
  bdI (e_X6_fieldOf oa p1.toNatClampNeg p2.toNatClampNeg (nI 0) (nI 0) σ1) (fun v3 σ2 =>
  let σ4 := st σ2 (2, oa, p1.toNatClampNeg, 0) 1 v3;
  let σ5 := st σ4 (2, oa, p1.toNatClampNeg, 0) 2 p2;
  if nI 1 < 0 ∨ 12 ≤ (nI 1).toNatClampNeg then none else (
  bdI (e_X6_alikeAtFirst oa p1.toNatClampNeg p2.toNatClampNeg (σ5.1 (11, oa, 0, 0) ((nI 1).toNatClampNeg)) σ5) (fun v7 σ6 =>
  let σ8 := st σ6 (2, oa, p1.toNatClampNeg, 0) 3 v7;
  let σ9 := st σ8 (2, oa, p1.toNatClampNeg, 0) 4 (nI 0);
  b_X0_beginExchange_70 oa p1 oa p1.toNatClampNeg oa p1.toNatClampNeg (nI 0) σ9)))) else none)) := (EvOf_eq mcode _).trans rfl
set_option maxRecDepth 100000 in
set_option maxHeartbeats 4000000 in
theorem q_X0_beginExchange_70 (o0a : Nat) (x1 : Int32) (o3a : Nat) (o3s : Nat) (o4a : Nat) (o4s : Nat) (x6 : Int32) (σ : mS) : b_X0_beginExchange_70 o0a x1 o3a o3s o4a o4s x6 σ =
  if x6 < σ.1 (2, o4a, o4s, 0) 3 then (
    bdI (e_X0_placesOf o3a o3s x6 σ) (fun v2 σ1 =>
    let σ3 := st σ1 (2, o4a, o4s, 0) 4 ((σ.1 (2, o4a, o4s, 0) 4) + v2);
    b_X0_beginExchange_70 o0a x1 o3a o3s o4a o4s (x6 + 1) σ3))
  else (
    if nI 0 < 0 ∨ 12 ≤ (nI 0).toNatClampNeg then none else (
    if σ.1 (2, o4a, o4s, 0) 4 < σ.1 (11, o0a, 0, 0) ((nI 0).toNatClampNeg) then (
      if nI 0 = 0 then (
        let σ4 := st σ (2, o4a, o4s, 0) 5 (nI 2);
        if nI 0 = 0 then (
          b_X0_beginExchange_154 o0a x1 o3a o3s o4a o4s (nI 0) o4a o4s (σ4.1 (2, o4a, o4s, 0) 4) σ4)
        else (
          b_X0_beginExchange_154 o0a x1 o3a o3s o4a o4s (nI 0) o4a o4s (nI 1) σ4))
      else (
        let σ5 := st σ (2, o4a, o4s, 0) 5 (nI 0);
        if nI 0 = 0 then (
          b_X0_beginExchange_154 o0a x1 o3a o3s o4a o4s (nI 0) o4a o4s (σ5.1 (2, o4a, o4s, 0) 4) σ5)
        else (
          b_X0_beginExchange_154 o0a x1 o3a o3s o4a o4s (nI 0) o4a o4s (nI 1) σ5)))
    else (
      if nI 1 = 0 then (
        let σ6 := st σ (2, o4a, o4s, 0) 5 (nI 2);
        if nI 1 = 0 then (
          b_X0_beginExchange_154 o0a x1 o3a o3s o4a o4s (nI 1) o4a o4s (σ6.1 (2, o4a, o4s, 0) 4) σ6)
        else (
          b_X0_beginExchange_154 o0a x1 o3a o3s o4a o4s (nI 1) o4a o4s (nI 1) σ6))
      else (
        let σ7 := st σ (2, o4a, o4s, 0) 5 (nI 0);
        if nI 1 = 0 then (
          b_X0_beginExchange_154 o0a x1 o3a o3s o4a o4s (nI 1) o4a o4s (σ7.1 (2, o4a, o4s, 0) 4) σ7)
        else (
          b_X0_beginExchange_154 o0a x1 o3a o3s o4a o4s (nI 1) o4a o4s (nI 1) σ7))))) := (EvOf_eq mcode _).trans rfl
set_option maxRecDepth 100000 in
set_option maxHeartbeats 4000000 in
theorem q_X0_beginExchange_154 (o0a : Nat) (x1 : Int32) (o3a : Nat) (o3s : Nat) (o4a : Nat) (o4s : Nat) (x6 : Int32) (w0a : Nat) (w0s : Nat) (t1 : Int32) (σ : mS) : b_X0_beginExchange_154 o0a x1 o3a o3s o4a o4s x6 w0a w0s t1 σ =
  let σ1 := st σ (2, w0a, w0s, 0) 6 t1;
  if x6 = 0 then (
    let σ2 := st σ1 (2, o4a, o4s, 0) 8 (((σ1.1 (0, o0a, 0, 0) 4) + (σ1.1 (2, o4a, o4s, 0) 4)) + (nI 1));
    let σ3 := st σ2 (2, o4a, o4s, 0) 7 (nI 0);
    let σ4 := st σ3 (2, o4a, o4s, 0) 9 (nI 0);
    let σ5 := st σ4 (2, o4a, o4s, 0) 10 (nI 0);
    bdI (e_X0_placesOf o3a o3s (nI 0) σ5) (fun v7 σ6 =>
    let σ8 := st σ6 (2, o4a, o4s, 0) 11 v7;
    if nI 0 = 0 ∨ nI 0 = 1 then (
    let σ9 := st σ8 (2, o4a, o4s, 0) 12 (nI 0);
    if nI 3 < 0 ∨ 9 ≤ (nI 3).toNatClampNeg then none else (
    if nI 3 < 0 ∨ 9 ≤ (nI 3).toNatClampNeg then none else (
    let σ10 := st σ9 (15, o3a, o3s, 0) ((nI 3).toNatClampNeg) ((σ9.1 (15, o3a, o3s, 0) ((nI 3).toNatClampNeg)) + (nI 1));
    let σ11 := st σ10 (0, o0a, 0, 0) 8 ((σ10.1 (0, o0a, 0, 0) 8) ||| ((nI 1) <<< (x1 &&& 31)));
    some (some none, σ11)))) else none))
  else (
    let σ12 := st σ1 (2, o4a, o4s, 0) 8 (((σ1.1 (0, o0a, 0, 0) 4) + (σ1.1 (2, o4a, o4s, 0) 4)) + (nI 3));
    let σ13 := st σ12 (2, o4a, o4s, 0) 7 (nI 0);
    let σ14 := st σ13 (2, o4a, o4s, 0) 9 (nI 0);
    let σ15 := st σ14 (2, o4a, o4s, 0) 10 (nI 0);
    bdI (e_X0_placesOf o3a o3s (nI 0) σ15) (fun v17 σ16 =>
    let σ18 := st σ16 (2, o4a, o4s, 0) 11 v17;
    if nI 0 = 0 ∨ nI 0 = 1 then (
    let σ19 := st σ18 (2, o4a, o4s, 0) 12 (nI 0);
    if nI 3 < 0 ∨ 9 ≤ (nI 3).toNatClampNeg then none else (
    if nI 3 < 0 ∨ 9 ≤ (nI 3).toNatClampNeg then none else (
    let σ20 := st σ19 (15, o3a, o3s, 0) ((nI 3).toNatClampNeg) ((σ19.1 (15, o3a, o3s, 0) ((nI 3).toNatClampNeg)) + (nI 1));
    let σ21 := st σ20 (0, o0a, 0, 0) 8 ((σ20.1 (0, o0a, 0, 0) 8) ||| ((nI 1) <<< (x1 &&& 31)));
    some (some none, σ21)))) else none)) := (EvOf_eq mcode _).trans rfl
set_option maxRecDepth 100000 in
set_option maxHeartbeats 4000000 in
theorem q_X0_placesOf (p0a : Nat) (p0s : Nat) (p1 : Int32) (σ : mS) : e_X0_placesOf p0a p0s p1 σ =
  if σ.1 (2, p0a, p0s, 0) 1 < 0 then (
    some (some (some (.inl (nI 0))), σ))
  else (
    if σ.1 (2, p0a, p0s, 0) 1 < nI 6 then (
      if σ.1 (2, p0a, p0s, 0) 2 < 0 then (
        some (some (some (.inl (nI 0))), σ))
      else (
        if σ.1 (2, p0a, p0s, 0) 2 < nI 4 then (
          if σ.1 (2, p0a, p0s, 0) 1 < 0 ∨ 6 ≤ (σ.1 (2, p0a, p0s, 0) 1).toNatClampNeg then none else (
          if σ.1 (2, p0a, p0s, 0) 2 < 0 ∨ 4 ≤ (σ.1 (2, p0a, p0s, 0) 2).toNatClampNeg then none else (
          bdI (e_X6_fieldOf p0a p0s ((σ.1 (2, p0a, p0s, 0) 2).toNatClampNeg) p1 (nI 1) σ) (fun v2 σ1 =>
          if (if nI 1 < σ.1 (18, p0a, p0s, 0) ((σ.1 (2, p0a, p0s, 0) 1).toNatClampNeg) then σ.1 (18, p0a, p0s, 0) ((σ.1 (2, p0a, p0s, 0) 1).toNatClampNeg) else nI 1) = 0 then none else (
          some (some (some (.inl ((((if nI 0 < v2 then v2 else nI 0) + (if nI 1 < σ.1 (18, p0a, p0s, 0) ((σ.1 (2, p0a, p0s, 0) 1).toNatClampNeg) then σ.1 (18, p0a, p0s, 0) ((σ.1 (2, p0a, p0s, 0) 1).toNatClampNeg) else nI 1)) - (nI 1)) / (if nI 1 < σ.1 (18, p0a, p0s, 0) ((σ.1 (2, p0a, p0s, 0) 1).toNatClampNeg) then σ.1 (18, p0a, p0s, 0) ((σ.1 (2, p0a, p0s, 0) 1).toNatClampNeg) else nI 1)))), σ1))))))
        else (
          some (some (some (.inl (nI 0))), σ))))
    else (
      some (some (some (.inl (nI 0))), σ))) := (EvOf_eq mcode _).trans rfl
set_option maxRecDepth 100000 in
set_option maxHeartbeats 4000000 in
theorem q_X0_senders (oa : Nat) (σ : mS) : e_X0_senders oa σ =
  b_X0_senders_4 oa (nI 0) (nI 0) σ := (EvOf_eq mcode _).trans rfl
set_option maxRecDepth 100000 in
set_option maxHeartbeats 4000000 in
theorem q_X0_senders_4 (o0a : Nat) (x1 : Int32) (x2 : Int32) (σ : mS) : b_X0_senders_4 o0a x1 x2 σ =
  if x2 < σ.1 (0, o0a, 0, 0) 3 then (
    if x2 < 0 ∨ 6 ≤ x2.toNatClampNeg then none else (
    bdI (e_X2_sends o0a x2.toNatClampNeg σ) (fun v2 σ1 =>
    if v2 = 0 then (
      if σ1.1 (8, o0a, x2.toNatClampNeg, 0) 12 = 0 then (
        b_X0_senders_4 o0a (x1 ||| (nI 0)) (x2 + 1) σ1)
      else (
        b_X0_senders_4 o0a (x1 ||| ((nI 1) <<< (x2 &&& 31))) (x2 + 1) σ1))
    else (
      b_X0_senders_4 o0a (x1 ||| ((nI 1) <<< (x2 &&& 31))) (x2 + 1) σ1))))
  else (
    some (some (some (.inl x1)), σ)) := (EvOf_eq mcode _).trans rfl
set_option maxRecDepth 100000 in
set_option maxHeartbeats 4000000 in
theorem q_X0_sendsNow (oa : Nat) (p1 : Int32) (σ : mS) : e_X0_sendsNow oa p1 σ =
  if ((σ.1 (0, oa, 0, 0) 5) >>> (p1 &&& 31)) &&& (nI 1) = 0 then (
    if nI 0 = 0 ∨ nI 0 = 1 then some (some (some (.inl (nI 0))), σ) else none)
  else (
    if nI 1 = 0 ∨ nI 1 = 1 then some (some (some (.inl (nI 1))), σ) else none) := (EvOf_eq mcode _).trans rfl
set_option maxRecDepth 100000 in
set_option maxHeartbeats 4000000 in
theorem q_X0_isClear (oa : Nat) (p1 : Int32) (p2 : Int32) (σ : mS) : e_X0_isClear oa p1 p2 σ =
  bdI (e_X0_sendsNow oa p1 σ) (fun v2 σ1 =>
  if v2 = 0 then (
    if p1 < 0 ∨ 6 ≤ p1.toNatClampNeg then none else (
    if (σ1.1 (8, oa, p1.toNatClampNeg, 0) 6) &&& (σ1.1 (0, oa, 0, 0) 5) = (nI 1) <<< (p2 &&& 31) then (
      if nI 1 = 0 ∨ nI 1 = 1 then some (some (some (.inl (nI 1))), σ1) else none)
    else (
      if nI 0 = 0 ∨ nI 0 = 1 then some (some (some (.inl (nI 0))), σ1) else none)))
  else (
    if nI 0 = 0 ∨ nI 0 = 1 then some (some (some (.inl (nI 0))), σ1) else none)) := (EvOf_eq mcode _).trans rfl
set_option maxRecDepth 100000 in
set_option maxHeartbeats 4000000 in
theorem q_X0_clearOnes (oa : Nat) (σ : mS) : e_X0_clearOnes oa σ =
  b_X0_clearOnes_4 oa (nI 0) (nI 0) σ := (EvOf_eq mcode _).trans rfl
set_option maxRecDepth 100000 in
set_option maxHeartbeats 4000000 in
theorem q_X0_clearOnes_4 (o0a : Nat) (x1 : Int32) (x2 : Int32) (σ : mS) : b_X0_clearOnes_4 o0a x1 x2 σ =
  if x2 < σ.1 (0, o0a, 0, 0) 3 then (
    if x2 < 0 ∨ 6 ≤ x2.toNatClampNeg then none else (
    bdI (e_J6_bitCount ((σ.1 (8, o0a, x2.toNatClampNeg, 0) 6) &&& (σ.1 (0, o0a, 0, 0) 5)) σ) (fun v2 σ1 =>
    if v2 = nI 1 then (
      if nI 1 = 0 then (
        b_X0_clearOnes_4 o0a (x1 ||| (nI 0)) (x2 + 1) σ1)
      else (
        bdI (e_X0_sendsNow o0a x2 σ1) (fun v4 σ3 =>
        if v4 = 0 then (
          b_X0_clearOnes_4 o0a (x1 ||| ((nI 1) <<< (x2 &&& 31))) (x2 + 1) σ3)
        else (
          b_X0_clearOnes_4 o0a (x1 ||| (nI 0)) (x2 + 1) σ3))))
    else (
      if nI 0 = 0 then (
        b_X0_clearOnes_4 o0a (x1 ||| (nI 0)) (x2 + 1) σ1)
      else (
        bdI (e_X0_sendsNow o0a x2 σ1) (fun v6 σ5 =>
        if v6 = 0 then (
          b_X0_clearOnes_4 o0a (x1 ||| ((nI 1) <<< (x2 &&& 31))) (x2 + 1) σ5)
        else (
          b_X0_clearOnes_4 o0a (x1 ||| (nI 0)) (x2 + 1) σ5)))))))
  else (
    some (some (some (.inl x1)), σ)) := (EvOf_eq mcode _).trans rfl
set_option maxRecDepth 100000 in
set_option maxHeartbeats 4000000 in
theorem q_X0_noteSlot (oa : Nat) (σ : mS) : e_X0_noteSlot oa σ =
  bdI (e_J6_bitCount (σ.1 (0, oa, 0, 0) 5) σ) (fun v2 σ1 =>
  if v2 = 0 then (
    let σ3 := st σ1 (0, oa, 0, 0) 10 ((σ1.1 (0, oa, 0, 0) 10) + (nI 1));
    if v2 = nI 1 then (
      let σ4 := st σ3 (0, oa, 0, 0) 9 ((σ3.1 (0, oa, 0, 0) 9) + (nI 1));
      if nI 1 < v2 then (
        let σ5 := st σ4 (0, oa, 0, 0) 11 ((σ4.1 (0, oa, 0, 0) 11) + (nI 1));
        b_X0_noteSlot_66 oa (nI 0) σ5)
      else (
        let σ6 := st σ4 (0, oa, 0, 0) 11 ((σ4.1 (0, oa, 0, 0) 11) + (nI 0));
        b_X0_noteSlot_66 oa (nI 0) σ6))
    else (
      let σ7 := st σ3 (0, oa, 0, 0) 9 ((σ3.1 (0, oa, 0, 0) 9) + (nI 0));
      if nI 1 < v2 then (
        let σ8 := st σ7 (0, oa, 0, 0) 11 ((σ7.1 (0, oa, 0, 0) 11) + (nI 1));
        b_X0_noteSlot_66 oa (nI 0) σ8)
      else (
        let σ9 := st σ7 (0, oa, 0, 0) 11 ((σ7.1 (0, oa, 0, 0) 11) + (nI 0));
        b_X0_noteSlot_66 oa (nI 0) σ9)))
  else (
    let σ10 := st σ1 (0, oa, 0, 0) 10 ((σ1.1 (0, oa, 0, 0) 10) + (nI 0));
    if v2 = nI 1 then (
      let σ11 := st σ10 (0, oa, 0, 0) 9 ((σ10.1 (0, oa, 0, 0) 9) + (nI 1));
      if nI 1 < v2 then (
        let σ12 := st σ11 (0, oa, 0, 0) 11 ((σ11.1 (0, oa, 0, 0) 11) + (nI 1));
        b_X0_noteSlot_66 oa (nI 0) σ12)
      else (
        let σ13 := st σ11 (0, oa, 0, 0) 11 ((σ11.1 (0, oa, 0, 0) 11) + (nI 0));
        b_X0_noteSlot_66 oa (nI 0) σ13))
    else (
      let σ14 := st σ10 (0, oa, 0, 0) 9 ((σ10.1 (0, oa, 0, 0) 9) + (nI 0));
      if nI 1 < v2 then (
        let σ15 := st σ14 (0, oa, 0, 0) 11 ((σ14.1 (0, oa, 0, 0) 11) + (nI 1));
        b_X0_noteSlot_66 oa (nI 0) σ15)
      else (
        let σ16 := st σ14 (0, oa, 0, 0) 11 ((σ14.1 (0, oa, 0, 0) 11) + (nI 0));
        b_X0_noteSlot_66 oa (nI 0) σ16)))) := (EvOf_eq mcode _).trans rfl
set_option maxRecDepth 100000 in
set_option maxHeartbeats 4000000 in
theorem q_X0_noteSlot_66 (o0a : Nat) (x2 : Int32) (σ : mS) : b_X0_noteSlot_66 o0a x2 σ =
  if x2 < σ.1 (0, o0a, 0, 0) 3 then (
    if x2 < 0 ∨ 6 ≤ x2.toNatClampNeg then none else (
    if nI 5 < 0 ∨ 9 ≤ (nI 5).toNatClampNeg then none else (
    bdI (e_X0_sendsNow o0a x2 σ) (fun v2 σ1 =>
    if v2 = 0 then (
      if nI 5 < 0 ∨ 9 ≤ (nI 5).toNatClampNeg then none else (
      let σ3 := st σ1 (15, o0a, x2.toNatClampNeg, 0) ((nI 5).toNatClampNeg) ((σ.1 (15, o0a, x2.toNatClampNeg, 0) ((nI 5).toNatClampNeg)) + (nI 0));
      bdI (e_X8_isFree o0a x2.toNatClampNeg σ3) (fun v5 σ4 =>
      if v5 = 0 then (
        b_X0_noteSlot_66 o0a (x2 + 1) σ4)
      else (
        bdI (e_X8_waiting o0a x2.toNatClampNeg σ4) (fun v7 σ6 =>
        if 0 < v7 then (
          if ((σ6.1 (0, o0a, 0, 0) 7) >>> (x2 &&& 31)) &&& (nI 1) = 0 then (
            if (σ6.1 (8, o0a, x2.toNatClampNeg, 0) 6) &&& (σ6.1 (0, o0a, 0, 0) 5) = 0 then (
              let σ8 := st σ6 (3, o0a, x2.toNatClampNeg, 0) 8 ((σ6.1 (3, o0a, x2.toNatClampNeg, 0) 8) + (nI 1));
              b_X0_noteSlot_66 o0a (x2 + 1) σ8)
            else (
              let σ9 := st σ6 (3, o0a, x2.toNatClampNeg, 0) 7 ((σ6.1 (3, o0a, x2.toNatClampNeg, 0) 7) + (nI 1));
              b_X0_noteSlot_66 o0a (x2 + 1) σ9))
          else (
            let σ10 := st σ6 (3, o0a, x2.toNatClampNeg, 0) 6 ((σ6.1 (3, o0a, x2.toNatClampNeg, 0) 6) + (nI 1));
            b_X0_noteSlot_66 o0a (x2 + 1) σ10))
        else (
          b_X0_noteSlot_66 o0a (x2 + 1) σ6))))))
    else (
      if nI 5 < 0 ∨ 9 ≤ (nI 5).toNatClampNeg then none else (
      let σ11 := st σ1 (15, o0a, x2.toNatClampNeg, 0) ((nI 5).toNatClampNeg) ((σ.1 (15, o0a, x2.toNatClampNeg, 0) ((nI 5).toNatClampNeg)) + (nI 1));
      bdI (e_X8_isFree o0a x2.toNatClampNeg σ11) (fun v13 σ12 =>
      if v13 = 0 then (
        b_X0_noteSlot_66 o0a (x2 + 1) σ12)
      else (
        bdI (e_X8_waiting o0a x2.toNatClampNeg σ12) (fun v15 σ14 =>
        if 0 < v15 then (
          if ((σ14.1 (0, o0a, 0, 0) 7) >>> (x2 &&& 31)) &&& (nI 1) = 0 then (
            if (σ14.1 (8, o0a, x2.toNatClampNeg, 0) 6) &&& (σ14.1 (0, o0a, 0, 0) 5) = 0 then (
              let σ16 := st σ14 (3, o0a, x2.toNatClampNeg, 0) 8 ((σ14.1 (3, o0a, x2.toNatClampNeg, 0) 8) + (nI 1));
              b_X0_noteSlot_66 o0a (x2 + 1) σ16)
            else (
              let σ17 := st σ14 (3, o0a, x2.toNatClampNeg, 0) 7 ((σ14.1 (3, o0a, x2.toNatClampNeg, 0) 7) + (nI 1));
              b_X0_noteSlot_66 o0a (x2 + 1) σ17))
          else (
            let σ18 := st σ14 (3, o0a, x2.toNatClampNeg, 0) 6 ((σ14.1 (3, o0a, x2.toNatClampNeg, 0) 6) + (nI 1));
            b_X0_noteSlot_66 o0a (x2 + 1) σ18))
        else (
          b_X0_noteSlot_66 o0a (x2 + 1) σ14))))))))))
  else (
    some (some none, σ)) := (EvOf_eq mcode _).trans rfl
set_option maxRecDepth 100000 in
set_option maxHeartbeats 4000000 in
theorem q_X0_spread (oa : Nat) (p1 : Int32) (p2 : Int32) (p3 : Int32) (p4 : Int32) (p5 : Int32) (σ : mS) : e_X0_spread oa p1 p2 p3 p4 p5 σ =
  b_X0_spread_3 oa p1 p2 p3 p4 p5 (nI 0) σ := (EvOf_eq mcode _).trans rfl
set_option maxRecDepth 100000 in
set_option maxHeartbeats 4000000 in
theorem q_X0_spread_3 (o0a : Nat) (x1 : Int32) (x2 : Int32) (x3 : Int32) (x4 : Int32) (x5 : Int32) (x6 : Int32) (σ : mS) : b_X0_spread_3 o0a x1 x2 x3 x4 x5 x6 σ =
  if x6 < σ.1 (0, o0a, 0, 0) 3 then (
    if x6 = x2 then (
      b_X0_spread_3 o0a x1 x2 x3 x4 x5 (x6 + 1) σ)
    else (
      bdI (e_X0_isClear o0a x6 x1 σ) (fun v2 σ1 =>
      if v2 = 0 then (
        b_X0_spread_3 o0a x1 x2 x3 x4 x5 (x6 + 1) σ1)
      else (
        if x6 < 0 ∨ 6 ≤ x6.toNatClampNeg then none else (
        bdV (e_X8_listen o0a x6.toNatClampNeg x3 x4 x5 σ1) (fun σ3 =>
        b_X0_spread_3 o0a x1 x2 x3 x4 x5 (x6 + 1) σ3))))))
  else (
    some (some none, σ)) := (EvOf_eq mcode _).trans rfl
set_option maxRecDepth 100000 in
set_option maxHeartbeats 4000000 in
theorem q_X0_goAsk (oa : Nat) (p1 : Int32) (p2 : Int32) (p3a : Nat) (p3s : Nat) (σ : mS) : e_X0_goAsk oa p1 p2 p3a p3s σ =
  bdI (e_X0_isClear oa p2 p1 σ) (fun v2 σ1 =>
  if v2 = 0 then (
    let σ3 := st σ1 (2, p3a, p3s, 0) 9 (nI 1);
    bdV (e_X0_spread oa p1 p2 p1 (nI 0) (σ3.1 (2, p3a, p3s, 0) 8) σ3) (fun σ4 =>
    let σ5 := st σ4 (2, p3a, p3s, 0) 5 (nI 1);
    some (some none, σ5)))
  else (
    if p2 < 0 ∨ 6 ≤ p2.toNatClampNeg then none else (
    bdI (e_X8_isFree oa p2.toNatClampNeg σ1) (fun v7 σ6 =>
    if v7 = 0 then (
      let σ8 := st σ6 (2, p3a, p3s, 0) 9 (nI 2);
      bdV (e_X0_spread oa p1 p2 p1 (nI 0) (σ8.1 (2, p3a, p3s, 0) 8) σ8) (fun σ9 =>
      let σ10 := st σ9 (2, p3a, p3s, 0) 5 (nI 1);
      some (some none, σ10)))
    else (
      if p2 < 0 ∨ 6 ≤ p2.toNatClampNeg then none else (
      if σ6.1 (0, oa, 0, 0) 4 < σ6.1 (8, oa, p2.toNatClampNeg, 0) 8 then (
        let σ11 := st σ6 (2, p3a, p3s, 0) 9 (nI 3);
        bdV (e_X0_spread oa p1 p2 p1 (nI 0) (σ11.1 (2, p3a, p3s, 0) 8) σ11) (fun σ12 =>
        let σ13 := st σ12 (2, p3a, p3s, 0) 5 (nI 1);
        some (some none, σ13)))
      else (
        if p2 < 0 ∨ 6 ≤ p2.toNatClampNeg then none else (
        bdV (e_X8_setOwing oa p2.toNatClampNeg p1 (nI 1) σ6) (fun σ14 =>
        bdV (e_X0_spread oa p1 p2 p1 (nI 0) (σ14.1 (2, p3a, p3s, 0) 8) σ14) (fun σ15 =>
        let σ16 := st σ15 (2, p3a, p3s, 0) 5 (nI 1);
        some (some none, σ16))))))))))) := (EvOf_eq mcode _).trans rfl
set_option maxRecDepth 100000 in
set_option maxHeartbeats 4000000 in
theorem q_X0_goGrant (oa : Nat) (p1 : Int32) (p2 : Int32) (p3a : Nat) (p3s : Nat) (σ : mS) : e_X0_goGrant oa p1 p2 p3a p3s σ =
  if p2 < 0 ∨ 6 ≤ p2.toNatClampNeg then none else (
  bdI (e_X8_pays oa p2.toNatClampNeg p1 (nI 1) σ) (fun v2 σ1 =>
  if v2 = 0 then (
    if v2 = 0 then (
      let σ3 := st σ1 (2, p3a, p3s, 0) 9 (σ1.1 (2, p3a, p3s, 0) 9);
      bdV (e_X0_failExchange oa p1 p3a p3s σ3) (fun σ4 =>
      some (some none, σ4)))
    else (
      let σ5 := st σ1 (2, p3a, p3s, 0) 9 (nI 4);
      bdV (e_X0_failExchange oa p1 p3a p3s σ5) (fun σ6 =>
      some (some none, σ6))))
  else (
    bdI (e_X0_isClear oa p1 p2 σ1) (fun v8 σ7 =>
    if v8 = 0 then (
      if v2 = 0 then (
        let σ9 := st σ7 (2, p3a, p3s, 0) 9 (σ7.1 (2, p3a, p3s, 0) 9);
        bdV (e_X0_failExchange oa p1 p3a p3s σ9) (fun σ10 =>
        some (some none, σ10)))
      else (
        let σ11 := st σ7 (2, p3a, p3s, 0) 9 (nI 4);
        bdV (e_X0_failExchange oa p1 p3a p3s σ11) (fun σ12 =>
        some (some none, σ12))))
    else (
      let σ13 := st σ7 (2, p3a, p3s, 0) 5 (nI 2);
      let σ14 := st σ13 (2, p3a, p3s, 0) 6 (σ13.1 (2, p3a, p3s, 0) 4);
      bdV (e_X0_spread oa p2 p1 p1 (nI 1) (σ14.1 (2, p3a, p3s, 0) 8) σ14) (fun σ15 =>
      some (some none, σ15))))))) := (EvOf_eq mcode _).trans rfl
set_option maxRecDepth 100000 in
set_option maxHeartbeats 4000000 in
theorem q_X0_goData (oa : Nat) (p1 : Int32) (p2 : Int32) (p3a : Nat) (p3s : Nat) (σ : mS) : e_X0_goData oa p1 p2 p3a p3s σ =
  bdI (e_X0_isClear oa p2 p1 σ) (fun v2 σ1 =>
  if p1 < 0 ∨ 6 ≤ p1.toNatClampNeg then none else (
  let σ3 := st σ1 (3, oa, p1.toNatClampNeg, 0) 2 ((σ1.1 (3, oa, p1.toNatClampNeg, 0) 2) + (nI 1));
  if v2 = 0 then (
    if p1 < 0 ∨ 6 ≤ p1.toNatClampNeg then none else (
    if p2 < 0 ∨ 6 ≤ p2.toNatClampNeg then none else (
    bdV (e_X0_noteSpoilt oa p1.toNatClampNeg ((σ3.1 (8, oa, p2.toNatClampNeg, 0) 6) &&& (σ3.1 (0, oa, 0, 0) 5)) σ3) (fun σ4 =>
    if p1 < 0 ∨ 6 ≤ p1.toNatClampNeg then none else (
    bdV (e_X0_goPlace oa p1.toNatClampNeg v2 σ4) (fun σ5 =>
    let σ6 := st σ5 (2, p3a, p3s, 0) 6 ((σ5.1 (2, p3a, p3s, 0) 6) - (nI 1));
    if 0 < σ6.1 (2, p3a, p3s, 0) 6 then (
      some (some none, σ6))
    else (
      bdV (e_X0_spread oa p1 p2 p1 (nI 2) ((σ6.1 (0, oa, 0, 0) 4) + (nI 2)) σ6) (fun σ7 =>
      if σ7.1 (2, p3a, p3s, 0) 7 = 0 then (
        let σ8 := st σ7 (2, p3a, p3s, 0) 9 (nI 5);
        let σ9 := st σ8 (2, p3a, p3s, 0) 5 (nI 3);
        some (some none, σ9))
      else (
        if p2 < 0 ∨ 6 ≤ p2.toNatClampNeg then none else (
        bdI (e_X8_isFree oa p2.toNatClampNeg σ7) (fun v11 σ10 =>
        if v11 = 0 then (
          let σ12 := st σ10 (2, p3a, p3s, 0) 9 (nI 6);
          let σ13 := st σ12 (2, p3a, p3s, 0) 5 (nI 3);
          some (some none, σ13))
        else (
          if p2 < 0 ∨ 6 ≤ p2.toNatClampNeg then none else (
          bdV (e_X8_setOwing oa p2.toNatClampNeg p1 (nI 2) σ10) (fun σ14 =>
          let σ15 := st σ14 (2, p3a, p3s, 0) 5 (nI 3);
          some (some none, σ15)))))))))))))))
  else (
    if p1 < 0 ∨ 6 ≤ p1.toNatClampNeg then none else (
    bdV (e_X0_goPlace oa p1.toNatClampNeg v2 σ3) (fun σ16 =>
    let σ17 := st σ16 (2, p3a, p3s, 0) 6 ((σ16.1 (2, p3a, p3s, 0) 6) - (nI 1));
    if 0 < σ17.1 (2, p3a, p3s, 0) 6 then (
      some (some none, σ17))
    else (
      bdV (e_X0_spread oa p1 p2 p1 (nI 2) ((σ17.1 (0, oa, 0, 0) 4) + (nI 2)) σ17) (fun σ18 =>
      if σ18.1 (2, p3a, p3s, 0) 7 = 0 then (
        let σ19 := st σ18 (2, p3a, p3s, 0) 9 (nI 5);
        let σ20 := st σ19 (2, p3a, p3s, 0) 5 (nI 3);
        some (some none, σ20))
      else (
        if p2 < 0 ∨ 6 ≤ p2.toNatClampNeg then none else (
        bdI (e_X8_isFree oa p2.toNatClampNeg σ18) (fun v22 σ21 =>
        if v22 = 0 then (
          let σ23 := st σ21 (2, p3a, p3s, 0) 9 (nI 6);
          let σ24 := st σ23 (2, p3a, p3s, 0) 5 (nI 3);
          some (some none, σ24))
        else (
          if p2 < 0 ∨ 6 ≤ p2.toNatClampNeg then none else (
          bdV (e_X8_setOwing oa p2.toNatClampNeg p1 (nI 2) σ21) (fun σ25 =>
          let σ26 := st σ25 (2, p3a, p3s, 0) 5 (nI 3);
          some (some none, σ26)))))))))))))) := (EvOf_eq mcode _).trans rfl
set_option maxRecDepth 100000 in
set_option maxHeartbeats 4000000 in
theorem q_X0_noteSpoilt (p0a : Nat) (p0s : Nat) (p1 : Int32) (σ : mS) : e_X0_noteSpoilt p0a p0s p1 σ =
  b_X0_noteSpoilt_2 p0a p0s p1 (nI 0) σ := (EvOf_eq mcode _).trans rfl
set_option maxRecDepth 100000 in
set_option maxHeartbeats 4000000 in
theorem q_X0_noteSpoilt_2 (o0a : Nat) (o0s : Nat) (x1 : Int32) (x2 : Int32) (σ : mS) : b_X0_noteSpoilt_2 o0a o0s x1 x2 σ =
  if x2 < nI 6 then (
    if x2 < 0 ∨ 6 ≤ x2.toNatClampNeg then none else (
    if (x1 >>> (x2 &&& 31)) &&& (nI 1) = 0 then (
      if x2 < 0 ∨ 6 ≤ x2.toNatClampNeg then none else (
      let σ1 := st σ (16, o0a, o0s, 0) x2.toNatClampNeg ((σ.1 (16, o0a, o0s, 0) x2.toNatClampNeg) + (nI 0));
      b_X0_noteSpoilt_2 o0a o0s x1 (x2 + 1) σ1))
    else (
      if x2 < 0 ∨ 6 ≤ x2.toNatClampNeg then none else (
      let σ2 := st σ (16, o0a, o0s, 0) x2.toNatClampNeg ((σ.1 (16, o0a, o0s, 0) x2.toNatClampNeg) + (nI 1));
      b_X0_noteSpoilt_2 o0a o0s x1 (x2 + 1) σ2))))
  else (
    some (some none, σ)) := (EvOf_eq mcode _).trans rfl
set_option maxRecDepth 100000 in
set_option maxHeartbeats 4000000 in
theorem q_X0_goPlace (p0a : Nat) (p0s : Nat) (p1 : Int32) (σ : mS) : e_X0_goPlace p0a p0s p1 σ =
  if p1 = 0 then (
    if nI 1 = 0 ∨ nI 1 = 1 then (
    let σ1 := st σ (2, p0a, p0s, 0) 12 (nI 1);
    let σ2 := st σ1 (2, p0a, p0s, 0) 11 ((σ1.1 (2, p0a, p0s, 0) 11) - (nI 1));
    if 0 < σ2.1 (2, p0a, p0s, 0) 11 then (
      some (some none, σ2))
    else (
      if σ2.1 (2, p0a, p0s, 0) 12 = 0 then (
        let σ3 := st σ2 (2, p0a, p0s, 0) 7 ((σ2.1 (2, p0a, p0s, 0) 7) ||| ((nI 1) <<< ((σ2.1 (2, p0a, p0s, 0) 10) &&& 31)));
        let σ4 := st σ3 (2, p0a, p0s, 0) 10 ((σ3.1 (2, p0a, p0s, 0) 10) + (nI 1));
        bdI (e_X0_placesOf p0a p0s (σ4.1 (2, p0a, p0s, 0) 10) σ4) (fun v6 σ5 =>
        let σ7 := st σ5 (2, p0a, p0s, 0) 11 v6;
        if nI 0 = 0 ∨ nI 0 = 1 then (
        let σ8 := st σ7 (2, p0a, p0s, 0) 12 (nI 0);
        some (some none, σ8)) else none))
      else (
        let σ9 := st σ2 (2, p0a, p0s, 0) 7 ((σ2.1 (2, p0a, p0s, 0) 7) ||| (nI 0));
        let σ10 := st σ9 (2, p0a, p0s, 0) 10 ((σ9.1 (2, p0a, p0s, 0) 10) + (nI 1));
        bdI (e_X0_placesOf p0a p0s (σ10.1 (2, p0a, p0s, 0) 10) σ10) (fun v12 σ11 =>
        let σ13 := st σ11 (2, p0a, p0s, 0) 11 v12;
        if nI 0 = 0 ∨ nI 0 = 1 then (
        let σ14 := st σ13 (2, p0a, p0s, 0) 12 (nI 0);
        some (some none, σ14)) else none)))) else none)
  else (
    if σ.1 (2, p0a, p0s, 0) 1 < 0 ∨ 6 ≤ (σ.1 (2, p0a, p0s, 0) 1).toNatClampNeg then none else (
    if σ.1 (2, p0a, p0s, 0) 1 < 0 ∨ 6 ≤ (σ.1 (2, p0a, p0s, 0) 1).toNatClampNeg then none else (
    if σ.1 (17, p0a, p0s, 0) ((σ.1 (2, p0a, p0s, 0) 1).toNatClampNeg) < σ.1 (18, p0a, p0s, 0) ((σ.1 (2, p0a, p0s, 0) 1).toNatClampNeg) then (
      if nI 1 = 0 ∨ nI 1 = 1 then (
      let σ15 := st σ (2, p0a, p0s, 0) 12 (nI 1);
      let σ16 := st σ15 (2, p0a, p0s, 0) 11 ((σ15.1 (2, p0a, p0s, 0) 11) - (nI 1));
      if 0 < σ16.1 (2, p0a, p0s, 0) 11 then (
        some (some none, σ16))
      else (
        if σ16.1 (2, p0a, p0s, 0) 12 = 0 then (
          let σ17 := st σ16 (2, p0a, p0s, 0) 7 ((σ16.1 (2, p0a, p0s, 0) 7) ||| ((nI 1) <<< ((σ16.1 (2, p0a, p0s, 0) 10) &&& 31)));
          let σ18 := st σ17 (2, p0a, p0s, 0) 10 ((σ17.1 (2, p0a, p0s, 0) 10) + (nI 1));
          bdI (e_X0_placesOf p0a p0s (σ18.1 (2, p0a, p0s, 0) 10) σ18) (fun v20 σ19 =>
          let σ21 := st σ19 (2, p0a, p0s, 0) 11 v20;
          if nI 0 = 0 ∨ nI 0 = 1 then (
          let σ22 := st σ21 (2, p0a, p0s, 0) 12 (nI 0);
          some (some none, σ22)) else none))
        else (
          let σ23 := st σ16 (2, p0a, p0s, 0) 7 ((σ16.1 (2, p0a, p0s, 0) 7) ||| (nI 0));
          let σ24 := st σ23 (2, p0a, p0s, 0) 10 ((σ23.1 (2, p0a, p0s, 0) 10) + (nI 1));
          bdI (e_X0_placesOf p0a p0s (σ24.1 (2, p0a, p0s, 0) 10) σ24) (fun v26 σ25 =>
          let σ27 := st σ25 (2, p0a, p0s, 0) 11 v26;
          if nI 0 = 0 ∨ nI 0 = 1 then (
          let σ28 := st σ27 (2, p0a, p0s, 0) 12 (nI 0);
          some (some none, σ28)) else none)))) else none)
    else (
      let σ29 := st σ (2, p0a, p0s, 0) 11 ((σ.1 (2, p0a, p0s, 0) 11) - (nI 1));
      if 0 < σ29.1 (2, p0a, p0s, 0) 11 then (
        some (some none, σ29))
      else (
        if σ29.1 (2, p0a, p0s, 0) 12 = 0 then (
          let σ30 := st σ29 (2, p0a, p0s, 0) 7 ((σ29.1 (2, p0a, p0s, 0) 7) ||| ((nI 1) <<< ((σ29.1 (2, p0a, p0s, 0) 10) &&& 31)));
          let σ31 := st σ30 (2, p0a, p0s, 0) 10 ((σ30.1 (2, p0a, p0s, 0) 10) + (nI 1));
          bdI (e_X0_placesOf p0a p0s (σ31.1 (2, p0a, p0s, 0) 10) σ31) (fun v33 σ32 =>
          let σ34 := st σ32 (2, p0a, p0s, 0) 11 v33;
          if nI 0 = 0 ∨ nI 0 = 1 then (
          let σ35 := st σ34 (2, p0a, p0s, 0) 12 (nI 0);
          some (some none, σ35)) else none))
        else (
          let σ36 := st σ29 (2, p0a, p0s, 0) 7 ((σ29.1 (2, p0a, p0s, 0) 7) ||| (nI 0));
          let σ37 := st σ36 (2, p0a, p0s, 0) 10 ((σ36.1 (2, p0a, p0s, 0) 10) + (nI 1));
          bdI (e_X0_placesOf p0a p0s (σ37.1 (2, p0a, p0s, 0) 10) σ37) (fun v39 σ38 =>
          let σ40 := st σ38 (2, p0a, p0s, 0) 11 v39;
          if nI 0 = 0 ∨ nI 0 = 1 then (
          let σ41 := st σ40 (2, p0a, p0s, 0) 12 (nI 0);
          some (some none, σ41)) else none))))))) := (EvOf_eq mcode _).trans rfl
set_option maxRecDepth 100000 in
set_option maxHeartbeats 4000000 in
theorem q_X0_goAnswer (oa : Nat) (p1 : Int32) (p2 : Int32) (p3a : Nat) (p3s : Nat) (σ : mS) : e_X0_goAnswer oa p1 p2 p3a p3s σ =
  if p2 < 0 ∨ 6 ≤ p2.toNatClampNeg then none else (
  bdI (e_X8_pays oa p2.toNatClampNeg p1 (nI 2) σ) (fun v2 σ1 =>
  if p1 < 0 ∨ 6 ≤ p1.toNatClampNeg then none else (
  if v2 = 0 then (
    if v2 = 0 then (
      let σ3 := st σ1 (2, p3a, p3s, 0) 9 (σ1.1 (2, p3a, p3s, 0) 9);
      bdV (e_X0_failExchange oa p1 p3a p3s σ3) (fun σ4 =>
      if p2 < 0 ∨ 6 ≤ p2.toNatClampNeg then none else (
      if p2 < 0 ∨ 6 ≤ p2.toNatClampNeg then none else (
      let σ5 := st σ4 (18, oa, p1.toNatClampNeg, 0) p2.toNatClampNeg (if nI 1 < (σ4.1 (18, oa, p1.toNatClampNeg, 0) p2.toNatClampNeg) - (nI 1) then (σ4.1 (18, oa, p1.toNatClampNeg, 0) p2.toNatClampNeg) - (nI 1) else nI 1);
      if p2 < 0 ∨ 6 ≤ p2.toNatClampNeg then none else (
      let σ6 := st σ5 (19, oa, p1.toNatClampNeg, 0) p2.toNatClampNeg (nI 0);
      some (some none, σ6))))))
    else (
      let σ7 := st σ1 (2, p3a, p3s, 0) 9 (nI 7);
      bdV (e_X0_failExchange oa p1 p3a p3s σ7) (fun σ8 =>
      if p2 < 0 ∨ 6 ≤ p2.toNatClampNeg then none else (
      if p2 < 0 ∨ 6 ≤ p2.toNatClampNeg then none else (
      let σ9 := st σ8 (18, oa, p1.toNatClampNeg, 0) p2.toNatClampNeg (if nI 1 < (σ8.1 (18, oa, p1.toNatClampNeg, 0) p2.toNatClampNeg) - (nI 1) then (σ8.1 (18, oa, p1.toNatClampNeg, 0) p2.toNatClampNeg) - (nI 1) else nI 1);
      if p2 < 0 ∨ 6 ≤ p2.toNatClampNeg then none else (
      let σ10 := st σ9 (19, oa, p1.toNatClampNeg, 0) p2.toNatClampNeg (nI 0);
      some (some none, σ10)))))))
  else (
    bdI (e_X0_isClear oa p1 p2 σ1) (fun v12 σ11 =>
    if v12 = 0 then (
      if v2 = 0 then (
        let σ13 := st σ11 (2, p3a, p3s, 0) 9 (σ11.1 (2, p3a, p3s, 0) 9);
        bdV (e_X0_failExchange oa p1 p3a p3s σ13) (fun σ14 =>
        if p2 < 0 ∨ 6 ≤ p2.toNatClampNeg then none else (
        if p2 < 0 ∨ 6 ≤ p2.toNatClampNeg then none else (
        let σ15 := st σ14 (18, oa, p1.toNatClampNeg, 0) p2.toNatClampNeg (if nI 1 < (σ14.1 (18, oa, p1.toNatClampNeg, 0) p2.toNatClampNeg) - (nI 1) then (σ14.1 (18, oa, p1.toNatClampNeg, 0) p2.toNatClampNeg) - (nI 1) else nI 1);
        if p2 < 0 ∨ 6 ≤ p2.toNatClampNeg then none else (
        let σ16 := st σ15 (19, oa, p1.toNatClampNeg, 0) p2.toNatClampNeg (nI 0);
        some (some none, σ16))))))
      else (
        let σ17 := st σ11 (2, p3a, p3s, 0) 9 (nI 7);
        bdV (e_X0_failExchange oa p1 p3a p3s σ17) (fun σ18 =>
        if p2 < 0 ∨ 6 ≤ p2.toNatClampNeg then none else (
        if p2 < 0 ∨ 6 ≤ p2.toNatClampNeg then none else (
        let σ19 := st σ18 (18, oa, p1.toNatClampNeg, 0) p2.toNatClampNeg (if nI 1 < (σ18.1 (18, oa, p1.toNatClampNeg, 0) p2.toNatClampNeg) - (nI 1) then (σ18.1 (18, oa, p1.toNatClampNeg, 0) p2.toNatClampNeg) - (nI 1) else nI 1);
        if p2 < 0 ∨ 6 ≤ p2.toNatClampNeg then none else (
        let σ20 := st σ19 (19, oa, p1.toNatClampNeg, 0) p2.toNatClampNeg (nI 0);
        some (some none, σ20)))))))
    else (
      if nI 0 = 0 ∨ nI 0 = 1 then (
      let σ21 := st σ11 (2, p3a, p3s, 0) 0 (nI 0);
      bdV (e_X0_deliver oa p1 p3a p3s σ21) (fun σ22 =>
      if p2 < 0 ∨ 6 ≤ p2.toNatClampNeg then none else (
      if p2 < 0 ∨ 6 ≤ p2.toNatClampNeg then none else (
      let σ23 := st σ22 (19, oa, p1.toNatClampNeg, 0) p2.toNatClampNeg ((σ22.1 (19, oa, p1.toNatClampNeg, 0) p2.toNatClampNeg) + (nI 1));
      if p2 < 0 ∨ 6 ≤ p2.toNatClampNeg then none else (
      if σ23.1 (19, oa, p1.toNatClampNeg, 0) p2.toNatClampNeg < nI 3 then (
        some (some none, σ23))
      else (
        if p2 < 0 ∨ 6 ≤ p2.toNatClampNeg then none else (
        if p2 < 0 ∨ 6 ≤ p2.toNatClampNeg then none else (
        let σ24 := st σ23 (18, oa, p1.toNatClampNeg, 0) p2.toNatClampNeg (if (σ23.1 (18, oa, p1.toNatClampNeg, 0) p2.toNatClampNeg) + (nI 1) < nI 3 then (σ23.1 (18, oa, p1.toNatClampNeg, 0) p2.toNatClampNeg) + (nI 1) else nI 3);
        if p2 < 0 ∨ 6 ≤ p2.toNatClampNeg then none else (
        let σ25 := st σ24 (19, oa, p1.toNatClampNeg, 0) p2.toNatClampNeg (nI 0);
        some (some none, σ25)))))))))) else none)))))) := (EvOf_eq mcode _).trans rfl
set_option maxRecDepth 100000 in
set_option maxHeartbeats 4000000 in
theorem q_X0_deliver (oa : Nat) (p1 : Int32) (p2a : Nat) (p2s : Nat) (σ : mS) : e_X0_deliver oa p1 p2a p2s σ =
  if p1 < 0 ∨ 6 ≤ p1.toNatClampNeg then none else (
  if σ.1 (2, p2a, p2s, 0) 2 < 0 ∨ 4 ≤ (σ.1 (2, p2a, p2s, 0) 2).toNatClampNeg then none else (
  b_X0_deliver_26 oa p2a p2s oa p1.toNatClampNeg oa p1.toNatClampNeg ((σ.1 (2, p2a, p2s, 0) 2).toNatClampNeg) ((σ.1 (2, p2a, p2s, 0) 3) - (nI 1)) σ)) := (EvOf_eq mcode _).trans rfl
set_option maxRecDepth 100000 in
set_option maxHeartbeats 4000000 in
theorem q_X0_deliver_26 (o0a : Nat) (o2a : Nat) (o2s : Nat) (o3a : Nat) (o3s : Nat) (o4a : Nat) (o4s : Nat) (o4r : Nat) (x5 : Int32) (σ : mS) : b_X0_deliver_26 o0a o2a o2s o3a o3s o4a o4s o4r x5 σ =
  if x5 < 0 then (
    if (nI 7) + (σ.1 (2, o2a, o2s, 0) 2) < 0 ∨ 12 ≤ ((nI 7) + (σ.1 (2, o2a, o2s, 0) 2)).toNatClampNeg then none else (
    let σ1 := st σ (6, o4a, o4s, o4r) 2 (σ.1 (11, o0a, 0, 0) (((nI 7) + (σ.1 (2, o2a, o2s, 0) 2)).toNatClampNeg));
    bdI (e_X1_draw o0a ((σ1.1 (6, o4a, o4s, o4r) 2) + (nI 1)) σ1) (fun v3 σ2 =>
    let σ4 := st σ2 (6, o4a, o4s, o4r) 3 v3;
    some (some none, σ4))))
  else (
    if ((σ.1 (2, o2a, o2s, 0) 7) >>> (x5 &&& 31)) &&& (nI 1) = 0 then (
      bdI (e_X6_tryAgain o4a o4s o4r x5 σ) (fun v6 σ5 =>
      if nI 2 < 0 ∨ 12 ≤ (nI 2).toNatClampNeg then none else (
      if v6 < σ5.1 (11, o0a, 0, 0) ((nI 2).toNatClampNeg) then (
        b_X0_deliver_26 o0a o2a o2s o3a o3s o4a o4s o4r (x5 + (-1)) σ5)
      else (
        if nI 2 < 0 ∨ 9 ≤ (nI 2).toNatClampNeg then none else (
        if nI 2 < 0 ∨ 9 ≤ (nI 2).toNatClampNeg then none else (
        let σ7 := st σ5 (15, o3a, o3s, 0) ((nI 2).toNatClampNeg) ((σ5.1 (15, o3a, o3s, 0) ((nI 2).toNatClampNeg)) + (nI 1));
        bdV (e_X6_removeAt o4a o4s o4r x5 σ7) (fun σ8 =>
        b_X0_deliver_26 o0a o2a o2s o3a o3s o4a o4s o4r (x5 + (-1)) σ8)))))))
    else (
      bdI (e_X6_fieldOf o4a o4s o4r x5 (nI 3) σ) (fun v10 σ9 =>
      bdI (e_X6_fieldOf o4a o4s o4r x5 (nI 1) σ9) (fun v12 σ11 =>
      bdV (e_X3_delivered o3a o3s v12 (((σ.1 (0, o0a, 0, 0) 4) - v10) + (nI 1)) σ11) (fun σ13 =>
      bdI (e_X6_fieldOf o4a o4s o4r x5 (nI 4) σ13) (fun v15 σ14 =>
      if v15 = nI 1 then (
        if (σ13.1 (0, o0a, 0, 0) 12) ||| (nI 1) = 0 ∨ (σ13.1 (0, o0a, 0, 0) 12) ||| (nI 1) = 1 then (
        let σ16 := st σ14 (0, o0a, 0, 0) 12 ((σ13.1 (0, o0a, 0, 0) 12) ||| (nI 1));
        bdV (e_X6_removeAt o4a o4s o4r x5 σ16) (fun σ17 =>
        b_X0_deliver_26 o0a o2a o2s o3a o3s o4a o4s o4r (x5 + (-1)) σ17)) else none)
      else (
        if (σ13.1 (0, o0a, 0, 0) 12) ||| (nI 0) = 0 ∨ (σ13.1 (0, o0a, 0, 0) 12) ||| (nI 0) = 1 then (
        let σ18 := st σ14 (0, o0a, 0, 0) 12 ((σ13.1 (0, o0a, 0, 0) 12) ||| (nI 0));
        bdV (e_X6_removeAt o4a o4s o4r x5 σ18) (fun σ19 =>
        b_X0_deliver_26 o0a o2a o2s o3a o3s o4a o4s o4r (x5 + (-1)) σ19)) else none))))))) := (EvOf_eq mcode _).trans rfl
set_option maxRecDepth 100000 in
set_option maxHeartbeats 4000000 in
theorem q_X0_failExchange (oa : Nat) (p1 : Int32) (p2a : Nat) (p2s : Nat) (σ : mS) : e_X0_failExchange oa p1 p2a p2s σ =
  if nI 0 = 0 ∨ nI 0 = 1 then (
  let σ1 := st σ (2, p2a, p2s, 0) 0 (nI 0);
  if p1 < 0 ∨ 6 ≤ p1.toNatClampNeg then none else (
  if nI 4 < 0 ∨ 9 ≤ (nI 4).toNatClampNeg then none else (
  if nI 4 < 0 ∨ 9 ≤ (nI 4).toNatClampNeg then none else (
  let σ2 := st σ1 (15, oa, p1.toNatClampNeg, 0) ((nI 4).toNatClampNeg) ((σ1.1 (15, oa, p1.toNatClampNeg, 0) ((nI 4).toNatClampNeg)) + (nI 1));
  let σ3 := st σ2 (3, oa, p1.toNatClampNeg, 0) 3 (σ2.1 (2, p2a, p2s, 0) 9);
  let σ4 := st σ3 (3, oa, p1.toNatClampNeg, 0) 4 (σ3.1 (0, oa, 0, 0) 4);
  let σ5 := st σ4 (3, oa, p1.toNatClampNeg, 0) 5 (σ4.1 (2, p2a, p2s, 0) 1);
  bdV (e_X0_failFirst oa p1 (σ5.1 (2, p2a, p2s, 0) 2) σ5) (fun σ6 =>
  some (some none, σ6)))))) else none := (EvOf_eq mcode _).trans rfl
set_option maxRecDepth 100000 in
set_option maxHeartbeats 4000000 in
theorem q_X0_failFirst (oa : Nat) (p1 : Int32) (p2 : Int32) (σ : mS) : e_X0_failFirst oa p1 p2 σ =
  if p1 < 0 ∨ 6 ≤ p1.toNatClampNeg then none else (
  if p2 < 0 ∨ 4 ≤ p2.toNatClampNeg then none else (
  bdI (e_X6_tryAgain oa p1.toNatClampNeg p2.toNatClampNeg (nI 0) σ) (fun v2 σ1 =>
  if nI 2 < 0 ∨ 12 ≤ (nI 2).toNatClampNeg then none else (
  if v2 < σ1.1 (11, oa, 0, 0) ((nI 2).toNatClampNeg) then (
    if nI 11 < 0 ∨ 12 ≤ (nI 11).toNatClampNeg then none else (
    let σ3 := st σ1 (6, oa, p1.toNatClampNeg, p2.toNatClampNeg) 2 (if ((nI 2) * (σ1.1 (6, oa, p1.toNatClampNeg, p2.toNatClampNeg) 2)) + (nI 1) < σ1.1 (11, oa, 0, 0) ((nI 11).toNatClampNeg) then ((nI 2) * (σ1.1 (6, oa, p1.toNatClampNeg, p2.toNatClampNeg) 2)) + (nI 1) else σ1.1 (11, oa, 0, 0) ((nI 11).toNatClampNeg));
    bdI (e_X1_draw oa ((σ3.1 (6, oa, p1.toNatClampNeg, p2.toNatClampNeg) 2) + (nI 1)) σ3) (fun v5 σ4 =>
    let σ6 := st σ4 (6, oa, p1.toNatClampNeg, p2.toNatClampNeg) 3 v5;
    some (some none, σ6))))
  else (
    if p1 < 0 ∨ 6 ≤ p1.toNatClampNeg then none else (
    if nI 2 < 0 ∨ 9 ≤ (nI 2).toNatClampNeg then none else (
    if nI 2 < 0 ∨ 9 ≤ (nI 2).toNatClampNeg then none else (
    let σ7 := st σ1 (15, oa, p1.toNatClampNeg, 0) ((nI 2).toNatClampNeg) ((σ1.1 (15, oa, p1.toNatClampNeg, 0) ((nI 2).toNatClampNeg)) + (nI 1));
    bdV (e_X6_removeAt oa p1.toNatClampNeg p2.toNatClampNeg (nI 0) σ7) (fun σ8 =>
    if (nI 7) + p2 < 0 ∨ 12 ≤ ((nI 7) + p2).toNatClampNeg then none else (
    let σ9 := st σ8 (6, oa, p1.toNatClampNeg, p2.toNatClampNeg) 2 (σ8.1 (11, oa, 0, 0) (((nI 7) + p2).toNatClampNeg));
    bdI (e_X1_draw oa ((σ9.1 (6, oa, p1.toNatClampNeg, p2.toNatClampNeg) 2) + (nI 1)) σ9) (fun v11 σ10 =>
    let σ12 := st σ10 (6, oa, p1.toNatClampNeg, p2.toNatClampNeg) 3 v11;
    some (some none, σ12)))))))))))) := (EvOf_eq mcode _).trans rfl
set_option maxRecDepth 100000 in
set_option maxHeartbeats 4000000 in
theorem q_X0_settle (oa : Nat) (p1 : Int32) (σ : mS) : e_X0_settle oa p1 σ =
  if p1 < 0 ∨ 6 ≤ p1.toNatClampNeg then none else (
  bdI (e_X0_sendsNow oa p1 σ) (fun v2 σ1 =>
  if v2 = 0 then (
    if (σ1.1 (8, oa, p1.toNatClampNeg, 0) 6) &&& (σ1.1 (0, oa, 0, 0) 5) = 0 then (
      if ((σ1.1 (0, oa, 0, 0) 7) >>> (p1 &&& 31)) &&& (nI 1) = 0 then (
        if nI 1 = 0 then (
          let σ3 := st σ1 (8, oa, p1.toNatClampNeg, 0) 7 (nI 0);
          b_X0_settle_65 oa oa p1.toNatClampNeg (nI 0) σ3)
        else (
          let σ4 := st σ1 (8, oa, p1.toNatClampNeg, 0) 7 ((σ1.1 (8, oa, p1.toNatClampNeg, 0) 7) + (nI 1));
          b_X0_settle_65 oa oa p1.toNatClampNeg (nI 0) σ4))
      else (
        if nI 0 = 0 then (
          let σ5 := st σ1 (8, oa, p1.toNatClampNeg, 0) 7 (nI 0);
          b_X0_settle_65 oa oa p1.toNatClampNeg (nI 0) σ5)
        else (
          let σ6 := st σ1 (8, oa, p1.toNatClampNeg, 0) 7 ((σ1.1 (8, oa, p1.toNatClampNeg, 0) 7) + (nI 1));
          b_X0_settle_65 oa oa p1.toNatClampNeg (nI 0) σ6)))
    else (
      if nI 0 = 0 then (
        let σ7 := st σ1 (8, oa, p1.toNatClampNeg, 0) 7 (nI 0);
        b_X0_settle_65 oa oa p1.toNatClampNeg (nI 0) σ7)
      else (
        let σ8 := st σ1 (8, oa, p1.toNatClampNeg, 0) 7 ((σ1.1 (8, oa, p1.toNatClampNeg, 0) 7) + (nI 1));
        b_X0_settle_65 oa oa p1.toNatClampNeg (nI 0) σ8)))
  else (
    if nI 0 = 0 then (
      let σ9 := st σ1 (8, oa, p1.toNatClampNeg, 0) 7 (nI 0);
      b_X0_settle_65 oa oa p1.toNatClampNeg (nI 0) σ9)
    else (
      let σ10 := st σ1 (8, oa, p1.toNatClampNeg, 0) 7 ((σ1.1 (8, oa, p1.toNatClampNeg, 0) 7) + (nI 1));
      b_X0_settle_65 oa oa p1.toNatClampNeg (nI 0) σ10)))) := (EvOf_eq mcode _).trans rfl
set_option maxRecDepth 100000 in
set_option maxHeartbeats 4000000 in
theorem q_X0_settle_65 (o0a : Nat) (o2a : Nat) (o2s : Nat) (x4 : Int32) (σ : mS) : b_X0_settle_65 o0a o2a o2s x4 σ =
  if x4 < nI 4 then (
    if x4 < 0 ∨ 4 ≤ x4.toNatClampNeg then none else (
    if 0 < σ.1 (6, o2a, o2s, x4.toNatClampNeg) 1 then (
      if 0 < σ.1 (6, o2a, o2s, x4.toNatClampNeg) 3 then (
        if (nI 3) + x4 < 0 ∨ 12 ≤ ((nI 3) + x4).toNatClampNeg then none else (
        if σ.1 (11, o0a, 0, 0) (((nI 3) + x4).toNatClampNeg) < σ.1 (8, o2a, o2s, 0) 7 then (
          let σ1 := st σ (6, o2a, o2s, x4.toNatClampNeg) 3 ((σ.1 (6, o2a, o2s, x4.toNatClampNeg) 3) - (nI 1));
          b_X0_settle_65 o0a o2a o2s (x4 + 1) σ1)
        else (
          b_X0_settle_65 o0a o2a o2s (x4 + 1) σ)))
      else (
        b_X0_settle_65 o0a o2a o2s (x4 + 1) σ))
    else (
      b_X0_settle_65 o0a o2a o2s (x4 + 1) σ)))
  else (
    some (some none, σ)) := (EvOf_eq mcode _).trans rfl

/-! What each block comes to (by program out of the mini-code) -/
set_option maxRecDepth 100000 in
set_option maxHeartbeats 4000000 in
theorem q_X1_draw (oa : Nat) (p1 : Int32) (σ : mS) : e_X1_draw oa p1 σ =
  let σ1 := st σ (1, oa, 0, 0) 0 (((σ.1 (1, oa, 0, 0) 0) * (nI 1103515245)) + (nI 12345));
  if p1 < nI 1 then (
    some (some (some (.inl (nI 0))), σ1))
  else (
    if p1 = 0 then none else (
    some (some (some (.inl ((iushr (σ1.1 (1, oa, 0, 0) 0) (nI 16)) - (iushr (σ1.1 (1, oa, 0, 0) 0) (nI 16)) / p1 * p1))), σ1))) := (EvOf_eq mcode _).trans rfl
set_option maxRecDepth 100000 in
set_option maxHeartbeats 4000000 in
theorem q_X2_become (oa : Nat) (os : Nat) (p1a : Nat) (p1s : Nat) (σ : mS) : e_X2_become oa os p1a p1s σ =
  if σ.1 (2, p1a, p1s, 0) 0 = 0 ∨ σ.1 (2, p1a, p1s, 0) 0 = 1 then (
  let σ1 := st σ (2, oa, os, 0) 0 (σ.1 (2, p1a, p1s, 0) 0);
  let σ2 := st σ1 (2, oa, os, 0) 1 (σ1.1 (2, p1a, p1s, 0) 1);
  let σ3 := st σ2 (2, oa, os, 0) 2 (σ2.1 (2, p1a, p1s, 0) 2);
  let σ4 := st σ3 (2, oa, os, 0) 3 (σ3.1 (2, p1a, p1s, 0) 3);
  let σ5 := st σ4 (2, oa, os, 0) 4 (σ4.1 (2, p1a, p1s, 0) 4);
  let σ6 := st σ5 (2, oa, os, 0) 5 (σ5.1 (2, p1a, p1s, 0) 5);
  let σ7 := st σ6 (2, oa, os, 0) 6 (σ6.1 (2, p1a, p1s, 0) 6);
  let σ8 := st σ7 (2, oa, os, 0) 7 (σ7.1 (2, p1a, p1s, 0) 7);
  let σ9 := st σ8 (2, oa, os, 0) 8 (σ8.1 (2, p1a, p1s, 0) 8);
  let σ10 := st σ9 (2, oa, os, 0) 9 (σ9.1 (2, p1a, p1s, 0) 9);
  let σ11 := st σ10 (2, oa, os, 0) 10 (σ10.1 (2, p1a, p1s, 0) 10);
  let σ12 := st σ11 (2, oa, os, 0) 11 (σ11.1 (2, p1a, p1s, 0) 11);
  if σ12.1 (2, p1a, p1s, 0) 12 = 0 ∨ σ12.1 (2, p1a, p1s, 0) 12 = 1 then (
  let σ13 := st σ12 (2, oa, os, 0) 12 (σ12.1 (2, p1a, p1s, 0) 12);
  some (some none, σ13)) else none) else none := (EvOf_eq mcode _).trans rfl
set_option maxRecDepth 100000 in
set_option maxHeartbeats 4000000 in
theorem q_X2_sends (oa : Nat) (os : Nat) (σ : mS) : e_X2_sends oa os σ =
  if σ.1 (2, oa, os, 0) 0 = 0 then (
    if nI 0 = 0 ∨ nI 0 = 1 then some (some (some (.inl (nI 0))), σ) else none)
  else (
    if σ.1 (2, oa, os, 0) 5 = 0 then (
      if nI 1 = 0 ∨ nI 1 = 1 then some (some (some (.inl (nI 1))), σ) else none)
    else (
      if σ.1 (2, oa, os, 0) 5 = nI 2 then (
        if nI 1 = 0 ∨ nI 1 = 1 then some (some (some (.inl (nI 1))), σ) else none)
      else (
        if nI 0 = 0 ∨ nI 0 = 1 then some (some (some (.inl (nI 0))), σ) else none))) := (EvOf_eq mcode _).trans rfl
set_option maxRecDepth 100000 in
set_option maxHeartbeats 4000000 in
theorem q_X3_become (oa : Nat) (os : Nat) (p1a : Nat) (p1s : Nat) (σ : mS) : e_X3_become oa os p1a p1s σ =
  if nI 9 < 0 ∨ nI 0 < 0 ∨ nI 0 < 0 ∨ 9 < (nI 0).toNatClampNeg + (nI 9).toNatClampNeg ∨ 9 < (nI 0).toNatClampNeg + (nI 9).toNatClampNeg then none else (
  let σ1 := stC σ (15, p1a, p1s, 0) ((nI 0).toNatClampNeg) (15, oa, os, 0) ((nI 0).toNatClampNeg) ((nI 9).toNatClampNeg);
  if nI 6 < 0 ∨ nI 0 < 0 ∨ nI 0 < 0 ∨ 6 < (nI 0).toNatClampNeg + (nI 6).toNatClampNeg ∨ 6 < (nI 0).toNatClampNeg + (nI 6).toNatClampNeg then none else (
  let σ2 := stC σ1 (16, p1a, p1s, 0) ((nI 0).toNatClampNeg) (16, oa, os, 0) ((nI 0).toNatClampNeg) ((nI 6).toNatClampNeg);
  let σ3 := st σ2 (3, oa, os, 0) 2 (σ2.1 (3, p1a, p1s, 0) 2);
  let σ4 := st σ3 (3, oa, os, 0) 3 (σ3.1 (3, p1a, p1s, 0) 3);
  let σ5 := st σ4 (3, oa, os, 0) 4 (σ4.1 (3, p1a, p1s, 0) 4);
  let σ6 := st σ5 (3, oa, os, 0) 5 (σ5.1 (3, p1a, p1s, 0) 5);
  let σ7 := st σ6 (3, oa, os, 0) 6 (σ6.1 (3, p1a, p1s, 0) 6);
  let σ8 := st σ7 (3, oa, os, 0) 7 (σ7.1 (3, p1a, p1s, 0) 7);
  let σ9 := st σ8 (3, oa, os, 0) 8 (σ8.1 (3, p1a, p1s, 0) 8);
  some (some none, σ9))) := (EvOf_eq mcode _).trans rfl
set_option maxRecDepth 100000 in
set_option maxHeartbeats 4000000 in
theorem q_X3_startAnew (oa : Nat) (os : Nat) (σ : mS) : e_X3_startAnew oa os σ =
  b_X3_startAnew_2 oa os (nI 0) σ := (EvOf_eq mcode _).trans rfl
set_option maxRecDepth 100000 in
set_option maxHeartbeats 4000000 in
theorem q_X3_startAnew_2 (o0a : Nat) (o0s : Nat) (x1 : Int32) (σ : mS) : b_X3_startAnew_2 o0a o0s x1 σ =
  if x1 < nI 9 then (
    if x1 < 0 ∨ 9 ≤ x1.toNatClampNeg then none else (
    let σ1 := st σ (15, o0a, o0s, 0) x1.toNatClampNeg (nI 0);
    b_X3_startAnew_2 o0a o0s (x1 + 1) σ1))
  else (
    b_X3_startAnew_23 o0a o0s (nI 0) σ) := (EvOf_eq mcode _).trans rfl
set_option maxRecDepth 100000 in
set_option maxHeartbeats 4000000 in
theorem q_X3_startAnew_23 (o0a : Nat) (o0s : Nat) (x1 : Int32) (σ : mS) : b_X3_startAnew_23 o0a o0s x1 σ =
  if x1 < nI 6 then (
    if x1 < 0 ∨ 6 ≤ x1.toNatClampNeg then none else (
    let σ1 := st σ (16, o0a, o0s, 0) x1.toNatClampNeg (nI 0);
    b_X3_startAnew_23 o0a o0s (x1 + 1) σ1))
  else (
    let σ2 := st σ (3, o0a, o0s, 0) 2 (nI 0);
    let σ3 := st σ2 (3, o0a, o0s, 0) 3 (nI 0);
    let σ4 := st σ3 (3, o0a, o0s, 0) 4 (nI 0);
    let σ5 := st σ4 (3, o0a, o0s, 0) 5 (nI 0);
    let σ6 := st σ5 (3, o0a, o0s, 0) 6 (nI 0);
    let σ7 := st σ6 (3, o0a, o0s, 0) 7 (nI 0);
    let σ8 := st σ7 (3, o0a, o0s, 0) 8 (nI 0);
    some (some none, σ8)) := (EvOf_eq mcode _).trans rfl
set_option maxRecDepth 100000 in
set_option maxHeartbeats 4000000 in
theorem q_X3_delivered (oa : Nat) (os : Nat) (p1 : Int32) (p2 : Int32) (σ : mS) : e_X3_delivered oa os p1 p2 σ =
  if nI 0 < 0 ∨ 9 ≤ (nI 0).toNatClampNeg then none else (
  if nI 0 < 0 ∨ 9 ≤ (nI 0).toNatClampNeg then none else (
  let σ1 := st σ (15, oa, os, 0) ((nI 0).toNatClampNeg) ((σ.1 (15, oa, os, 0) ((nI 0).toNatClampNeg)) + (nI 1));
  if nI 1 < 0 ∨ 9 ≤ (nI 1).toNatClampNeg then none else (
  if nI 1 < 0 ∨ 9 ≤ (nI 1).toNatClampNeg then none else (
  let σ2 := st σ1 (15, oa, os, 0) ((nI 1).toNatClampNeg) ((σ1.1 (15, oa, os, 0) ((nI 1).toNatClampNeg)) + p1);
  if nI 7 < 0 ∨ 9 ≤ (nI 7).toNatClampNeg then none else (
  if nI 7 < 0 ∨ 9 ≤ (nI 7).toNatClampNeg then none else (
  let σ3 := st σ2 (15, oa, os, 0) ((nI 7).toNatClampNeg) ((σ2.1 (15, oa, os, 0) ((nI 7).toNatClampNeg)) + p2);
  if nI 8 < 0 ∨ 9 ≤ (nI 8).toNatClampNeg then none else (
  if nI 8 < 0 ∨ 9 ≤ (nI 8).toNatClampNeg then none else (
  let σ4 := st σ3 (15, oa, os, 0) ((nI 8).toNatClampNeg) (if σ3.1 (15, oa, os, 0) ((nI 8).toNatClampNeg) < p2 then p2 else σ3.1 (15, oa, os, 0) ((nI 8).toNatClampNeg));
  some (some none, σ4))))))))) := (EvOf_eq mcode _).trans rfl
set_option maxRecDepth 100000 in
set_option maxHeartbeats 4000000 in
theorem q_X4_forget (σ : mS) : e_X4_forget σ =
  let σ1 := st σ (4, 0, 0, 0) 1 (nI 0);
  some (some none, σ1) := (EvOf_eq mcode _).trans rfl
set_option maxRecDepth 100000 in
set_option maxHeartbeats 4000000 in
theorem q_X4_add (p1 : Int64) (σ : mS) : e_X4_add p1 σ =
  if σ.1 (4, 0, 0, 0) 1 < nI 16 then (
    if σ.1 (4, 0, 0, 0) 1 < 0 ∨ 16 ≤ (σ.1 (4, 0, 0, 0) 1).toNatClampNeg then none else (
    let σ1 := stL σ (24, 0, 0, 0) ((σ.1 (4, 0, 0, 0) 1).toNatClampNeg) p1;
    let σ2 := st σ1 (4, 0, 0, 0) 1 ((σ1.1 (4, 0, 0, 0) 1) + (nI 1));
    some (some none, σ2)))
  else (
    some (some none, σ)) := (EvOf_eq mcode _).trans rfl
set_option maxRecDepth 100000 in
set_option maxHeartbeats 4000000 in
theorem q_X4_tellOne (p1 : Int64) (σ : mS) : e_X4_tellOne p1 σ =
  bdV (e_X4_forget σ) (fun σ1 =>
  bdV (e_X4_add p1 σ1) (fun σ2 =>
  some (some none, σ2))) := (EvOf_eq mcode _).trans rfl
set_option maxRecDepth 100000 in
set_option maxHeartbeats 4000000 in
theorem q_X4_tellTwo (p1 : Int64) (p3 : Int64) (σ : mS) : e_X4_tellTwo p1 p3 σ =
  bdV (e_X4_tellOne p1 σ) (fun σ1 =>
  bdV (e_X4_add p3 σ1) (fun σ2 =>
  some (some none, σ2))) := (EvOf_eq mcode _).trans rfl
set_option maxRecDepth 100000 in
set_option maxHeartbeats 4000000 in
theorem q_X4_tellThree (p1 : Int64) (p3 : Int64) (p5 : Int64) (σ : mS) : e_X4_tellThree p1 p3 p5 σ =
  bdV (e_X4_tellTwo p1 p3 σ) (fun σ1 =>
  bdV (e_X4_add p5 σ1) (fun σ2 =>
  some (some none, σ2))) := (EvOf_eq mcode _).trans rfl
set_option maxRecDepth 100000 in
set_option maxHeartbeats 4000000 in
theorem q_X4_tellPart (p1 : Int64) (p3 : Int64) (σ : mS) : e_X4_tellPart p1 p3 σ =
  b_X4_tellPart_9 p1 p3 p1 p3 (nI 0) σ := (EvOf_eq mcode _).trans rfl
set_option maxRecDepth 100000 in
set_option maxHeartbeats 4000000 in
theorem q_X4_tellPart_9 (y1 : Int64) (y3 : Int64) (y5 : Int64) (y7 : Int64) (x9 : Int32) (σ : mS) : b_X4_tellPart_9 y1 y3 y5 y7 x9 σ =
  if x9 < nI 100 then (
    if lg_cmp y7 (lN 0) = 0 then (
      if 0 < lg_cmp y5 (lN 0) then (
        if y5 = 0 then none else (
        if y5 = 0 then none else (
        bdV (e_X4_tellTwo (y1 / y5) (y3 / y5) σ) (fun σ1 =>
        some (some none, σ1)))))
      else (
        some (some none, σ)))
    else (
      if y7 = 0 then none else (
      b_X4_tellPart_9 y1 y3 y7 (y5 - y5 / y7 * y7) (x9 + 1) σ)))
  else (
    if 0 < lg_cmp y5 (lN 0) then (
      if y5 = 0 then none else (
      if y5 = 0 then none else (
      bdV (e_X4_tellTwo (y1 / y5) (y3 / y5) σ) (fun σ2 =>
      some (some none, σ2)))))
    else (
      some (some none, σ))) := (EvOf_eq mcode _).trans rfl
set_option maxRecDepth 100000 in
set_option maxHeartbeats 4000000 in
theorem q_X5_push (p1a : Nat) (σ : mS) : e_X5_push p1a σ =
  if (σ.1 (5, 0, 0, 0) 2) + (nI 1) < nI 6 then (
    let σ1 := st σ (5, 0, 0, 0) 2 ((σ.1 (5, 0, 0, 0) 2) + (nI 1));
    if σ1.1 (5, 0, 0, 0) 2 < 0 ∨ 6 ≤ (σ1.1 (5, 0, 0, 0) 2).toNatClampNeg then none else (
    bdV (e_X0_become (4 + (σ1.1 (5, 0, 0, 0) 2).toNatClampNeg) p1a σ1) (fun σ2 =>
    if σ2.1 (5, 0, 0, 0) 1 < nI 6 then (
      let σ3 := st σ2 (5, 0, 0, 0) 1 ((σ2.1 (5, 0, 0, 0) 1) + (nI 1));
      some (some none, σ3))
    else (
      some (some none, σ2)))))
  else (
    let σ4 := st σ (5, 0, 0, 0) 2 (nI 0);
    if σ4.1 (5, 0, 0, 0) 2 < 0 ∨ 6 ≤ (σ4.1 (5, 0, 0, 0) 2).toNatClampNeg then none else (
    bdV (e_X0_become (4 + (σ4.1 (5, 0, 0, 0) 2).toNatClampNeg) p1a σ4) (fun σ5 =>
    if σ5.1 (5, 0, 0, 0) 1 < nI 6 then (
      let σ6 := st σ5 (5, 0, 0, 0) 1 ((σ5.1 (5, 0, 0, 0) 1) + (nI 1));
      some (some none, σ6))
    else (
      some (some none, σ5))))) := (EvOf_eq mcode _).trans rfl
set_option maxRecDepth 100000 in
set_option maxHeartbeats 4000000 in
theorem q_X5_popInto (p1a : Nat) (σ : mS) : e_X5_popInto p1a σ =
  if σ.1 (5, 0, 0, 0) 1 < nI 1 then (
    if nI 0 = 0 ∨ nI 0 = 1 then some (some (some (.inl (nI 0))), σ) else none)
  else (
    if σ.1 (5, 0, 0, 0) 2 < 0 ∨ 6 ≤ (σ.1 (5, 0, 0, 0) 2).toNatClampNeg then none else (
    bdV (e_X0_become p1a (4 + (σ.1 (5, 0, 0, 0) 2).toNatClampNeg) σ) (fun σ1 =>
    if 0 < σ1.1 (5, 0, 0, 0) 2 then (
      let σ2 := st σ1 (5, 0, 0, 0) 2 ((σ1.1 (5, 0, 0, 0) 2) - (nI 1));
      let σ3 := st σ2 (5, 0, 0, 0) 1 ((σ2.1 (5, 0, 0, 0) 1) - (nI 1));
      if nI 1 = 0 ∨ nI 1 = 1 then some (some (some (.inl (nI 1))), σ3) else none)
    else (
      let σ4 := st σ1 (5, 0, 0, 0) 2 (nI 5);
      let σ5 := st σ4 (5, 0, 0, 0) 1 ((σ4.1 (5, 0, 0, 0) 1) - (nI 1));
      if nI 1 = 0 ∨ nI 1 = 1 then some (some (some (.inl (nI 1))), σ5) else none)))) := (EvOf_eq mcode _).trans rfl
set_option maxRecDepth 100000 in
set_option maxHeartbeats 4000000 in
theorem q_X6_become (oa : Nat) (os : Nat) (or : Nat) (p1a : Nat) (p1s : Nat) (p1r : Nat) (σ : mS) : e_X6_become oa os or p1a p1s p1r σ =
  if nI 40 < 0 ∨ nI 0 < 0 ∨ nI 0 < 0 ∨ 40 < (nI 0).toNatClampNeg + (nI 40).toNatClampNeg ∨ 40 < (nI 0).toNatClampNeg + (nI 40).toNatClampNeg then none else (
  let σ1 := stC σ (14, p1a, p1s, p1r) ((nI 0).toNatClampNeg) (14, oa, os, or) ((nI 0).toNatClampNeg) ((nI 40).toNatClampNeg);
  let σ2 := st σ1 (6, oa, os, or) 1 (σ1.1 (6, p1a, p1s, p1r) 1);
  let σ3 := st σ2 (6, oa, os, or) 2 (σ2.1 (6, p1a, p1s, p1r) 2);
  let σ4 := st σ3 (6, oa, os, or) 3 (σ3.1 (6, p1a, p1s, p1r) 3);
  some (some none, σ4)) := (EvOf_eq mcode _).trans rfl
set_option maxRecDepth 100000 in
set_option maxHeartbeats 4000000 in
theorem q_X6_fieldOf (oa : Nat) (os : Nat) (or : Nat) (p1 : Int32) (p2 : Int32) (σ : mS) : e_X6_fieldOf oa os or p1 p2 σ =
  if p1 < 0 then (
    some (some (some (.inl (-1))), σ))
  else (
    if p1 < σ.1 (6, oa, os, or) 1 then (
      if (p1 * (nI 5)) + p2 < 0 ∨ 40 ≤ ((p1 * (nI 5)) + p2).toNatClampNeg then none else (
      some (some (some (.inl (σ.1 (14, oa, os, or) (((p1 * (nI 5)) + p2).toNatClampNeg)))), σ)))
    else (
      some (some (some (.inl (-1))), σ))) := (EvOf_eq mcode _).trans rfl
set_option maxRecDepth 100000 in
set_option maxHeartbeats 4000000 in
theorem q_X6_addLast (oa : Nat) (os : Nat) (or : Nat) (p1 : Int32) (p2 : Int32) (p3 : Int32) (σ : mS) : e_X6_addLast oa os or p1 p2 p3 σ =
  if σ.1 (6, oa, os, or) 1 < nI 8 then (
    if ((σ.1 (6, oa, os, or) 1) * (nI 5)) + (nI 0) < 0 ∨ 40 ≤ (((σ.1 (6, oa, os, or) 1) * (nI 5)) + (nI 0)).toNatClampNeg then none else (
    let σ1 := st σ (14, oa, os, or) ((((σ.1 (6, oa, os, or) 1) * (nI 5)) + (nI 0)).toNatClampNeg) p1;
    if ((σ.1 (6, oa, os, or) 1) * (nI 5)) + (nI 1) < 0 ∨ 40 ≤ (((σ.1 (6, oa, os, or) 1) * (nI 5)) + (nI 1)).toNatClampNeg then none else (
    let σ2 := st σ1 (14, oa, os, or) ((((σ.1 (6, oa, os, or) 1) * (nI 5)) + (nI 1)).toNatClampNeg) p2;
    if ((σ.1 (6, oa, os, or) 1) * (nI 5)) + (nI 2) < 0 ∨ 40 ≤ (((σ.1 (6, oa, os, or) 1) * (nI 5)) + (nI 2)).toNatClampNeg then none else (
    let σ3 := st σ2 (14, oa, os, or) ((((σ.1 (6, oa, os, or) 1) * (nI 5)) + (nI 2)).toNatClampNeg) (nI 0);
    if ((σ.1 (6, oa, os, or) 1) * (nI 5)) + (nI 3) < 0 ∨ 40 ≤ (((σ.1 (6, oa, os, or) 1) * (nI 5)) + (nI 3)).toNatClampNeg then none else (
    let σ4 := st σ3 (14, oa, os, or) ((((σ.1 (6, oa, os, or) 1) * (nI 5)) + (nI 3)).toNatClampNeg) p3;
    if ((σ.1 (6, oa, os, or) 1) * (nI 5)) + (nI 4) < 0 ∨ 40 ≤ (((σ.1 (6, oa, os, or) 1) * (nI 5)) + (nI 4)).toNatClampNeg then none else (
    let σ5 := st σ4 (14, oa, os, or) ((((σ.1 (6, oa, os, or) 1) * (nI 5)) + (nI 4)).toNatClampNeg) (nI 0);
    let σ6 := st σ5 (6, oa, os, or) 1 ((σ5.1 (6, oa, os, or) 1) + (nI 1));
    some (some none, σ6)))))))
  else (
    some (some none, σ)) := (EvOf_eq mcode _).trans rfl
set_option maxRecDepth 100000 in
set_option maxHeartbeats 4000000 in
theorem q_X6_tryAgain (oa : Nat) (os : Nat) (or : Nat) (p1 : Int32) (σ : mS) : e_X6_tryAgain oa os or p1 σ =
  if p1 < 0 then (
    some (some (some (.inl (nI 0))), σ))
  else (
    if p1 < σ.1 (6, oa, os, or) 1 then (
      if (p1 * (nI 5)) + (nI 2) < 0 ∨ 40 ≤ ((p1 * (nI 5)) + (nI 2)).toNatClampNeg then none else (
      if (p1 * (nI 5)) + (nI 2) < 0 ∨ 40 ≤ ((p1 * (nI 5)) + (nI 2)).toNatClampNeg then none else (
      let σ1 := st σ (14, oa, os, or) (((p1 * (nI 5)) + (nI 2)).toNatClampNeg) ((σ.1 (14, oa, os, or) (((p1 * (nI 5)) + (nI 2)).toNatClampNeg)) + (nI 1));
      if (p1 * (nI 5)) + (nI 2) < 0 ∨ 40 ≤ ((p1 * (nI 5)) + (nI 2)).toNatClampNeg then none else (
      some (some (some (.inl (σ1.1 (14, oa, os, or) (((p1 * (nI 5)) + (nI 2)).toNatClampNeg)))), σ1)))))
    else (
      some (some (some (.inl (nI 0))), σ))) := (EvOf_eq mcode _).trans rfl
set_option maxRecDepth 100000 in
set_option maxHeartbeats 4000000 in
theorem q_X6_removeAt (oa : Nat) (os : Nat) (or : Nat) (p1 : Int32) (σ : mS) : e_X6_removeAt oa os or p1 σ =
  if p1 < 0 then (
    some (some none, σ))
  else (
    if p1 < σ.1 (6, oa, os, or) 1 then (
      b_X6_removeAt_19 oa os or ((p1 + (nI 1)) * (nI 5)) σ)
    else (
      some (some none, σ))) := (EvOf_eq mcode _).trans rfl
set_option maxRecDepth 100000 in
set_option maxHeartbeats 4000000 in
theorem q_X6_removeAt_19 (o0a : Nat) (o0s : Nat) (o0r : Nat) (x2 : Int32) (σ : mS) : b_X6_removeAt_19 o0a o0s o0r x2 σ =
  if x2 < (σ.1 (6, o0a, o0s, o0r) 1) * (nI 5) then (
    if x2 < 0 ∨ 40 ≤ x2.toNatClampNeg then none else (
    if x2 - (nI 5) < 0 ∨ 40 ≤ (x2 - (nI 5)).toNatClampNeg then none else (
    let σ1 := st σ (14, o0a, o0s, o0r) ((x2 - (nI 5)).toNatClampNeg) (σ.1 (14, o0a, o0s, o0r) x2.toNatClampNeg);
    b_X6_removeAt_19 o0a o0s o0r (x2 + 1) σ1)))
  else (
    let σ2 := st σ (6, o0a, o0s, o0r) 1 ((σ.1 (6, o0a, o0s, o0r) 1) - (nI 1));
    some (some none, σ2)) := (EvOf_eq mcode _).trans rfl
set_option maxRecDepth 100000 in
set_option maxHeartbeats 4000000 in
theorem q_X6_alikeAtFirst (oa : Nat) (os : Nat) (or : Nat) (p1 : Int32) (σ : mS) : e_X6_alikeAtFirst oa os or p1 σ =
  b_X6_alikeAtFirst_4 oa os or p1 (nI 0) (nI 0) σ := (EvOf_eq mcode _).trans rfl
set_option maxRecDepth 100000 in
set_option maxHeartbeats 4000000 in
theorem q_X6_alikeAtFirst_4 (o0a : Nat) (o0s : Nat) (o0r : Nat) (x1 : Int32) (x2 : Int32) (x3 : Int32) (σ : mS) : b_X6_alikeAtFirst_4 o0a o0s o0r x1 x2 x3 σ =
  if x3 < σ.1 (6, o0a, o0s, o0r) 1 then (
    if x3 < x1 then (
      bdI (e_X6_fieldOf o0a o0s o0r x3 (nI 0) σ) (fun v2 σ1 =>
      bdI (e_X6_fieldOf o0a o0s o0r (nI 0) (nI 0) σ1) (fun v4 σ3 =>
      if v2 = v4 then (
        b_X6_alikeAtFirst_4 o0a o0s o0r x1 (x2 + 1) (x3 + 1) σ3)
      else (
        some (some (some (.inl x2)), σ3)))))
    else (
      some (some (some (.inl x2)), σ)))
  else (
    some (some (some (.inl x2)), σ)) := (EvOf_eq mcode _).trans rfl
set_option maxRecDepth 100000 in
set_option maxHeartbeats 4000000 in
theorem q_X7_addFour (p1 : Int32) (σ : mS) : e_X7_addFour p1 σ =
  if σ.1 (7, 0, 0, 0) 1 < 0 then (
    if nI 0 = 0 ∨ nI 0 = 1 then some (some (some (.inl (nI 0))), σ) else none)
  else (
    if nI 80 < (σ.1 (7, 0, 0, 0) 1) + (nI 4) then (
      if nI 0 = 0 ∨ nI 0 = 1 then some (some (some (.inl (nI 0))), σ) else none)
    else (
      b_X7_addFour_22 p1 (nI 0) σ)) := (EvOf_eq mcode _).trans rfl
set_option maxRecDepth 100000 in
set_option maxHeartbeats 4000000 in
theorem q_X7_addFour_22 (x1 : Int32) (x2 : Int32) (σ : mS) : b_X7_addFour_22 x1 x2 σ =
  if x2 < nI 4 then (
    if (σ.1 (7, 0, 0, 0) 1) + x2 < 0 ∨ 80 ≤ ((σ.1 (7, 0, 0, 0) 1) + x2).toNatClampNeg then none else (
    let σ1 := st σ (23, 0, 0, 0) (((σ.1 (7, 0, 0, 0) 1) + x2).toNatClampNeg) ((iushr x1 ((nI 24) - ((nI 8) * x2))) &&& (nI 255));
    b_X7_addFour_22 x1 (x2 + 1) σ1))
  else (
    let σ2 := st σ (7, 0, 0, 0) 1 ((σ.1 (7, 0, 0, 0) 1) + (nI 4));
    if nI 1 = 0 ∨ nI 1 = 1 then some (some (some (.inl (nI 1))), σ2) else none) := (EvOf_eq mcode _).trans rfl
set_option maxRecDepth 100000 in
set_option maxHeartbeats 4000000 in
theorem q_X7_cutTo (p1 : Int32) (σ : mS) : e_X7_cutTo p1 σ =
  if p1 < 0 then (
    if nI 0 = 0 ∨ nI 0 = 1 then some (some (some (.inl (nI 0))), σ) else none)
  else (
    if σ.1 (7, 0, 0, 0) 1 < p1 then (
      if nI 0 = 0 ∨ nI 0 = 1 then some (some (some (.inl (nI 0))), σ) else none)
    else (
      let σ1 := st σ (7, 0, 0, 0) 1 p1;
      if nI 1 = 0 ∨ nI 1 = 1 then some (some (some (.inl (nI 1))), σ1) else none)) := (EvOf_eq mcode _).trans rfl
set_option maxRecDepth 100000 in
set_option maxHeartbeats 4000000 in
theorem q_X7_at (p1 : Int32) (σ : mS) : e_X7_at p1 σ =
  if p1 < 0 then (
    some (some (some (.inl (-1))), σ))
  else (
    if p1 < σ.1 (7, 0, 0, 0) 1 then (
      if p1 < 0 ∨ 80 ≤ p1.toNatClampNeg then none else (
      some (some (some (.inl (σ.1 (23, 0, 0, 0) p1.toNatClampNeg))), σ)))
    else (
      some (some (some (.inl (-1))), σ))) := (EvOf_eq mcode _).trans rfl
set_option maxRecDepth 100000 in
set_option maxHeartbeats 4000000 in
theorem q_X7_digitAt (p1 : Int32) (p2 : Int32) (p3 : Int32) (σ : mS) : e_X7_digitAt p1 p2 p3 σ =
  bdI (e_X7_at p1 σ) (fun v2 σ1 =>
  if v2 - (nI 48) < p2 then (
    some (some (some (.inl (-1))), σ1))
  else (
    if p3 < v2 - (nI 48) then (
      some (some (some (.inl (-1))), σ1))
    else (
      some (some (some (.inl (v2 - (nI 48)))), σ1)))) := (EvOf_eq mcode _).trans rfl
set_option maxRecDepth 100000 in
set_option maxHeartbeats 4000000 in
theorem q_X7_letterAt (p1 : Int32) (p2 : Int32) (σ : mS) : e_X7_letterAt p1 p2 σ =
  bdI (e_X7_at p1 σ) (fun v2 σ1 =>
  if v2 - (nI 97) < 0 then (
    some (some (some (.inl (-1))), σ1))
  else (
    if v2 - (nI 97) < p2 then (
      some (some (some (.inl (v2 - (nI 97)))), σ1))
    else (
      some (some (some (.inl (-1))), σ1)))) := (EvOf_eq mcode _).trans rfl
set_option maxRecDepth 100000 in
set_option maxHeartbeats 4000000 in
theorem q_X8_become (oa : Nat) (os : Nat) (p1a : Nat) (p1s : Nat) (σ : mS) : e_X8_become oa os p1a p1s σ =
  b_X8_become_2 oa os p1a p1s (nI 0) σ := (EvOf_eq mcode _).trans rfl
set_option maxRecDepth 100000 in
set_option maxHeartbeats 4000000 in
theorem q_X8_become_2 (o0a : Nat) (o0s : Nat) (o1a : Nat) (o1s : Nat) (x2 : Int32) (σ : mS) : b_X8_become_2 o0a o0s o1a o1s x2 σ =
  if x2 < nI 4 then (
    if x2 < 0 ∨ 4 ≤ x2.toNatClampNeg then none else (
    if x2 < 0 ∨ 4 ≤ x2.toNatClampNeg then none else (
    bdV (e_X6_become o0a o0s x2.toNatClampNeg o1a o1s x2.toNatClampNeg σ) (fun σ1 =>
    b_X8_become_2 o0a o0s o1a o1s (x2 + 1) σ1))))
  else (
    bdV (e_X2_become o0a o0s o1a o1s σ) (fun σ2 =>
    bdV (e_X3_become o0a o0s o1a o1s σ2) (fun σ3 =>
    if nI 6 < 0 ∨ nI 0 < 0 ∨ nI 0 < 0 ∨ 6 < (nI 0).toNatClampNeg + (nI 6).toNatClampNeg ∨ 6 < (nI 0).toNatClampNeg + (nI 6).toNatClampNeg then none else (
    let σ4 := stC σ3 (17, o1a, o1s, 0) ((nI 0).toNatClampNeg) (17, o0a, o0s, 0) ((nI 0).toNatClampNeg) ((nI 6).toNatClampNeg);
    if nI 6 < 0 ∨ nI 0 < 0 ∨ nI 0 < 0 ∨ 6 < (nI 0).toNatClampNeg + (nI 6).toNatClampNeg ∨ 6 < (nI 0).toNatClampNeg + (nI 6).toNatClampNeg then none else (
    let σ5 := stC σ4 (18, o1a, o1s, 0) ((nI 0).toNatClampNeg) (18, o0a, o0s, 0) ((nI 0).toNatClampNeg) ((nI 6).toNatClampNeg);
    if nI 6 < 0 ∨ nI 0 < 0 ∨ nI 0 < 0 ∨ 6 < (nI 0).toNatClampNeg + (nI 6).toNatClampNeg ∨ 6 < (nI 0).toNatClampNeg + (nI 6).toNatClampNeg then none else (
    let σ6 := stC σ5 (19, o1a, o1s, 0) ((nI 0).toNatClampNeg) (19, o0a, o0s, 0) ((nI 0).toNatClampNeg) ((nI 6).toNatClampNeg);
    let σ7 := st σ6 (8, o0a, o0s, 0) 6 (σ6.1 (8, o1a, o1s, 0) 6);
    let σ8 := st σ7 (8, o0a, o0s, 0) 7 (σ7.1 (8, o1a, o1s, 0) 7);
    let σ9 := st σ8 (8, o0a, o0s, 0) 8 (σ8.1 (8, o1a, o1s, 0) 8);
    let σ10 := st σ9 (8, o0a, o0s, 0) 9 (σ9.1 (8, o1a, o1s, 0) 9);
    let σ11 := st σ10 (8, o0a, o0s, 0) 10 (σ10.1 (8, o1a, o1s, 0) 10);
    let σ12 := st σ11 (8, o0a, o0s, 0) 11 (σ11.1 (8, o1a, o1s, 0) 11);
    let σ13 := st σ12 (8, o0a, o0s, 0) 12 (σ12.1 (8, o1a, o1s, 0) 12);
    some (some none, σ13))))))) := (EvOf_eq mcode _).trans rfl
set_option maxRecDepth 100000 in
set_option maxHeartbeats 4000000 in
theorem q_X8_isFree (oa : Nat) (os : Nat) (σ : mS) : e_X8_isFree oa os σ =
  if σ.1 (2, oa, os, 0) 0 = 0 then (
    if σ.1 (8, oa, os, 0) 12 = 0 then (
      if nI 1 = 0 ∨ nI 1 = 1 then some (some (some (.inl (nI 1))), σ) else none)
    else (
      if nI 0 = 0 ∨ nI 0 = 1 then some (some (some (.inl (nI 0))), σ) else none))
  else (
    if nI 0 = 0 ∨ nI 0 = 1 then some (some (some (.inl (nI 0))), σ) else none) := (EvOf_eq mcode _).trans rfl
set_option maxRecDepth 100000 in
set_option maxHeartbeats 4000000 in
theorem q_X8_waiting (oa : Nat) (os : Nat) (σ : mS) : e_X8_waiting oa os σ =
  b_X8_waiting_4 oa os (nI 0) (nI 0) σ := (EvOf_eq mcode _).trans rfl
set_option maxRecDepth 100000 in
set_option maxHeartbeats 4000000 in
theorem q_X8_waiting_4 (o0a : Nat) (o0s : Nat) (x1 : Int32) (x2 : Int32) (σ : mS) : b_X8_waiting_4 o0a o0s x1 x2 σ =
  if x2 < nI 4 then (
    if x2 < 0 ∨ 4 ≤ x2.toNatClampNeg then none else (
    b_X8_waiting_4 o0a o0s (x1 + (σ.1 (6, o0a, o0s, x2.toNatClampNeg) 1)) (x2 + 1) σ))
  else (
    some (some (some (.inl x1)), σ)) := (EvOf_eq mcode _).trans rfl
set_option maxRecDepth 100000 in
set_option maxHeartbeats 4000000 in
theorem q_X8_setOwing (oa : Nat) (os : Nat) (p1 : Int32) (p2 : Int32) (σ : mS) : e_X8_setOwing oa os p1 p2 σ =
  let σ1 := st σ (8, oa, os, 0) 11 p1;
  let σ2 := st σ1 (8, oa, os, 0) 12 p2;
  some (some none, σ2) := (EvOf_eq mcode _).trans rfl
set_option maxRecDepth 100000 in
set_option maxHeartbeats 4000000 in
theorem q_X8_pays (oa : Nat) (os : Nat) (p1 : Int32) (p2 : Int32) (σ : mS) : e_X8_pays oa os p1 p2 σ =
  if σ.1 (8, oa, os, 0) 11 = p1 then (
    if σ.1 (8, oa, os, 0) 12 = p2 then (
      bdV (e_X8_setOwing oa os (-1) (nI 0) σ) (fun σ1 =>
      if nI 1 = 0 ∨ nI 1 = 1 then some (some (some (.inl (nI 1))), σ1) else none))
    else (
      if nI 0 = 0 ∨ nI 0 = 1 then some (some (some (.inl (nI 0))), σ) else none))
  else (
    if nI 0 = 0 ∨ nI 0 = 1 then some (some (some (.inl (nI 0))), σ) else none) := (EvOf_eq mcode _).trans rfl
set_option maxRecDepth 100000 in
set_option maxHeartbeats 4000000 in
theorem q_X8_listen (oa : Nat) (os : Nat) (p1 : Int32) (p2 : Int32) (p3 : Int32) (σ : mS) : e_X8_listen oa os p1 p2 p3 σ =
  if σ.1 (8, oa, os, 0) 8 < p3 then (
    let σ1 := st σ (8, oa, os, 0) 8 p3;
    let σ2 := st σ1 (8, oa, os, 0) 9 p1;
    let σ3 := st σ2 (8, oa, os, 0) 10 p2;
    some (some none, σ3))
  else (
    some (some none, σ)) := (EvOf_eq mcode _).trans rfl
set_option maxRecDepth 100000 in
set_option maxHeartbeats 4000000 in
theorem q_J6_bitCount (p0 : Int32) (σ : mS) : e_J6_bitCount p0 σ =
  some (some (some (.inl ((((((((p0 - ((iushr p0 (nI 1)) &&& (nI 1431655765))) &&& (nI 858993459)) + ((iushr (p0 - ((iushr p0 (nI 1)) &&& (nI 1431655765))) (nI 2)) &&& (nI 858993459))) + (iushr (((p0 - ((iushr p0 (nI 1)) &&& (nI 1431655765))) &&& (nI 858993459)) + ((iushr (p0 - ((iushr p0 (nI 1)) &&& (nI 1431655765))) (nI 2)) &&& (nI 858993459))) (nI 4))) &&& (nI 252645135)) + (iushr (((((p0 - ((iushr p0 (nI 1)) &&& (nI 1431655765))) &&& (nI 858993459)) + ((iushr (p0 - ((iushr p0 (nI 1)) &&& (nI 1431655765))) (nI 2)) &&& (nI 858993459))) + (iushr (((p0 - ((iushr p0 (nI 1)) &&& (nI 1431655765))) &&& (nI 858993459)) + ((iushr (p0 - ((iushr p0 (nI 1)) &&& (nI 1431655765))) (nI 2)) &&& (nI 858993459))) (nI 4))) &&& (nI 252645135)) (nI 8))) + (iushr ((((((p0 - ((iushr p0 (nI 1)) &&& (nI 1431655765))) &&& (nI 858993459)) + ((iushr (p0 - ((iushr p0 (nI 1)) &&& (nI 1431655765))) (nI 2)) &&& (nI 858993459))) + (iushr (((p0 - ((iushr p0 (nI 1)) &&& (nI 1431655765))) &&& (nI 858993459)) + ((iushr (p0 - ((iushr p0 (nI 1)) &&& (nI 1431655765))) (nI 2)) &&& (nI 858993459))) (nI 4))) &&& (nI 252645135)) + (iushr (((((p0 - ((iushr p0 (nI 1)) &&& (nI 1431655765))) &&& (nI 858993459)) + ((iushr (p0 - ((iushr p0 (nI 1)) &&& (nI 1431655765))) (nI 2)) &&& (nI 858993459))) + (iushr (((p0 - ((iushr p0 (nI 1)) &&& (nI 1431655765))) &&& (nI 858993459)) + ((iushr (p0 - ((iushr p0 (nI 1)) &&& (nI 1431655765))) (nI 2)) &&& (nI 858993459))) (nI 4))) &&& (nI 252645135)) (nI 8))) (nI 16))) &&& (nI 63)))), σ) := (EvOf_eq mcode _).trans rfl
set_option maxRecDepth 100000 in
set_option maxHeartbeats 4000000 in
theorem q_L_setting (p1 : Int32) (σ : mS) : e_L_setting p1 σ =
  bdX (e_X9_setting p1 σ) (fun v2 σ1 =>
  if nI 0 < 0 ∨ 1 ≤ (nI 0).toNatClampNeg then none else (
  let σ3 := stL σ1 (45, 0, 0, 0) ((nI 0).toNatClampNeg) ((v2).toInt64);
  some (some (some (.inl (nI 0))), σ3)))
  (fun σ1 =>
  some (some (some (.inl (nI 1))), σ1)) := (EvOf_eq mcode _).trans rfl
set_option maxRecDepth 100000 in
set_option maxHeartbeats 4000000 in
theorem q_L_station (p1 : Int32) (p2 : Int32) (σ : mS) : e_L_station p1 p2 σ =
  bdX (e_X9_station p1 p2 σ) (fun v2 σ1 =>
  if nI 0 < 0 ∨ 1 ≤ (nI 0).toNatClampNeg then none else (
  let σ3 := stL σ1 (45, 0, 0, 0) ((nI 0).toNatClampNeg) ((v2).toInt64);
  some (some (some (.inl (nI 0))), σ3)))
  (fun σ1 =>
  some (some (some (.inl (nI 1))), σ1)) := (EvOf_eq mcode _).trans rfl
set_option maxRecDepth 100000 in
set_option maxHeartbeats 4000000 in
theorem q_L_rank (p1 : Int32) (p2 : Int32) (p3 : Int32) (σ : mS) : e_L_rank p1 p2 p3 σ =
  bdX (e_X9_rank p1 p2 p3 σ) (fun v2 σ1 =>
  if nI 0 < 0 ∨ 1 ≤ (nI 0).toNatClampNeg then none else (
  let σ3 := stL σ1 (45, 0, 0, 0) ((nI 0).toNatClampNeg) ((v2).toInt64);
  some (some (some (.inl (nI 0))), σ3)))
  (fun σ1 =>
  some (some (some (.inl (nI 1))), σ1)) := (EvOf_eq mcode _).trans rfl
set_option maxRecDepth 100000 in
set_option maxHeartbeats 4000000 in
theorem q_L_frame (p1 : Int32) (p2 : Int32) (p3 : Int32) (p4 : Int32) (σ : mS) : e_L_frame p1 p2 p3 p4 σ =
  bdX (e_X9_frame p1 p2 p3 p4 σ) (fun v2 σ1 =>
  if nI 0 < 0 ∨ 1 ≤ (nI 0).toNatClampNeg then none else (
  let σ3 := stL σ1 (45, 0, 0, 0) ((nI 0).toNatClampNeg) ((v2).toInt64);
  some (some (some (.inl (nI 0))), σ3)))
  (fun σ1 =>
  some (some (some (.inl (nI 1))), σ1)) := (EvOf_eq mcode _).trans rfl
set_option maxRecDepth 100000 in
set_option maxHeartbeats 4000000 in
theorem q_L_tally (p1 : Int32) (p2 : Int32) (σ : mS) : e_L_tally p1 p2 σ =
  bdX (e_X9_tally p1 p2 σ) (fun v2 σ1 =>
  if nI 0 < 0 ∨ 1 ≤ (nI 0).toNatClampNeg then none else (
  let σ3 := stL σ1 (45, 0, 0, 0) ((nI 0).toNatClampNeg) ((v2).toInt64);
  some (some (some (.inl (nI 0))), σ3)))
  (fun σ1 =>
  some (some (some (.inl (nI 1))), σ1)) := (EvOf_eq mcode _).trans rfl
set_option maxRecDepth 100000 in
set_option maxHeartbeats 4000000 in
theorem q_L_row (p1 : Int32) (σ : mS) : e_L_row p1 σ =
  bdY (e_X9_row p1 σ) (fun v2 σ1 =>
  if nI 0 < 0 ∨ 1 ≤ (nI 0).toNatClampNeg then none else (
  let σ3 := stL σ1 (45, 0, 0, 0) ((nI 0).toNatClampNeg) v2;
  some (some (some (.inl (nI 0))), σ3)))
  (fun σ1 =>
  some (some (some (.inl (nI 1))), σ1)) := (EvOf_eq mcode _).trans rfl
set_option maxRecDepth 100000 in
set_option maxHeartbeats 4000000 in
theorem q_L_law (σ : mS) : e_L_law σ =
  some (none, σ) := (EvOf_eq mcode _).trans rfl

/-! What each block comes to (by program out of the mini-code) -/
set_option maxRecDepth 100000 in
set_option maxHeartbeats 4000000 in
theorem q_X10_thrown (σ : mS) : e_X10_thrown σ =
  some (some (some (.inl (σ.1 (10, 0, 0, 0) 5))), σ) := (EvOf_eq mcode _).trans rfl
set_option maxRecDepth 100000 in
set_option maxHeartbeats 4000000 in
theorem q_X10_in (p0 : Int32) (p1 : Int32) (p2 : Int32) (σ : mS) : e_X10_in p0 p1 p2 σ =
  if p0 < p1 then (
    if nI 0 = 0 ∨ nI 0 = 1 then some (some (some (.inl (nI 0))), σ) else none)
  else (
    if p2 < p0 then (
      if nI 0 = 0 ∨ nI 0 = 1 then some (some (some (.inl (nI 0))), σ) else none)
    else (
      if nI 1 = 0 ∨ nI 1 = 1 then some (some (some (.inl (nI 1))), σ) else none)) := (EvOf_eq mcode _).trans rfl
set_option maxRecDepth 100000 in
set_option maxHeartbeats 4000000 in
theorem q_X10_has (p0 : Int32) (p1 : Int32) (σ : mS) : e_X10_has p0 p1 σ =
  if (p0 >>> (p1 &&& 31)) &&& (nI 1) = nI 1 then (
    if nI 1 = 0 ∨ nI 1 = 1 then some (some (some (.inl (nI 1))), σ) else none)
  else (
    if nI 0 = 0 ∨ nI 0 = 1 then some (some (some (.inl (nI 0))), σ) else none) := (EvOf_eq mcode _).trans rfl
set_option maxRecDepth 100000 in
set_option maxHeartbeats 4000000 in
theorem q_X10_lost (σ : mS) : e_X10_lost σ =
  let σ1 := st σ (10, 0, 0, 0) 5 (nI 1);
  some (some (some (.inl (nI 0))), σ1) := (EvOf_eq mcode _).trans rfl
set_option maxRecDepth 100000 in
set_option maxHeartbeats 4000000 in
theorem q_X10_tell (p1 : Int64) (σ : mS) : e_X10_tell p1 σ =
  if σ.1 (10, 0, 0, 0) 4 < 0 ∨ 40 ≤ (σ.1 (10, 0, 0, 0) 4).toNatClampNeg then none else (
  let σ1 := stL σ (32, 0, 0, 0) ((σ.1 (10, 0, 0, 0) 4).toNatClampNeg) p1;
  let σ2 := st σ1 (10, 0, 0, 0) 4 ((σ1.1 (10, 0, 0, 0) 4) + (nI 1));
  some (some none, σ2)) := (EvOf_eq mcode _).trans rfl
set_option maxRecDepth 100000 in
set_option maxHeartbeats 4000000 in
theorem q_X10_common (p0 : Int32) (p1 : Int32) (σ : mS) : e_X10_common p0 p1 σ =
  b_X10_common_4 p0 p1 σ := (EvOf_eq mcode _).trans rfl
set_option maxRecDepth 100000 in
set_option maxHeartbeats 4000000 in
theorem q_X10_common_4 (x2 : Int32) (x3 : Int32) (σ : mS) : b_X10_common_4 x2 x3 σ =
  if x3 = 0 then (
    some (some (some (.inl x2)), σ))
  else (
    if x3 = 0 then none else (
    b_X10_common_4 x3 (x2 - x2 / x3 * x3) σ)) := (EvOf_eq mcode _).trans rfl
set_option maxRecDepth 100000 in
set_option maxHeartbeats 4000000 in
theorem q_X10_commonLong (p0 : Int64) (p2 : Int64) (σ : mS) : e_X10_commonLong p0 p2 σ =
  b_X10_commonLong_6 p0 p2 σ := (EvOf_eq mcode _).trans rfl
set_option maxRecDepth 100000 in
set_option maxHeartbeats 4000000 in
theorem q_X10_commonLong_6 (y4 : Int64) (y6 : Int64) (σ : mS) : b_X10_commonLong_6 y4 y6 σ =
  if lg_cmp y6 (lN 0) = 0 then (
    some (some (some (.inr (.inl y4))), σ))
  else (
    if y6 = 0 then none else (
    b_X10_commonLong_6 y6 (y4 - y4 / y6 * y6) σ)) := (EvOf_eq mcode _).trans rfl
set_option maxRecDepth 100000 in
set_option maxHeartbeats 4000000 in
theorem q_X10_isStation (p1 : Int32) (σ : mS) : e_X10_isStation p1 σ =
  if nI 0 < 0 ∨ 1432 ≤ (nI 0).toNatClampNeg then none else (
  bdI (e_X10_in p1 (nI 0) ((σ.1 (30, 0, 0, 0) ((nI 0).toNatClampNeg)) - (nI 1)) σ) (fun v2 σ1 =>
  if v2 = 0 ∨ v2 = 1 then some (some (some (.inl v2)), σ1) else none)) := (EvOf_eq mcode _).trans rfl
set_option maxRecDepth 100000 in
set_option maxHeartbeats 4000000 in
theorem q_X10_isRank (p0 : Int32) (σ : mS) : e_X10_isRank p0 σ =
  bdI (e_X10_in p0 (nI 0) (nI 3) σ) (fun v2 σ1 =>
  if v2 = 0 ∨ v2 = 1 then some (some (some (.inl v2)), σ1) else none) := (EvOf_eq mcode _).trans rfl
set_option maxRecDepth 100000 in
set_option maxHeartbeats 4000000 in
theorem q_X10_quality (p1 : Int32) (p2 : Int32) (σ : mS) : e_X10_quality p1 p2 σ =
  if ((nI 15) + ((nI 6) * p1)) + p2 < 0 ∨ 1432 ≤ (((nI 15) + ((nI 6) * p1)) + p2).toNatClampNeg then none else (
  some (some (some (.inl (σ.1 (30, 0, 0, 0) ((((nI 15) + ((nI 6) * p1)) + p2).toNatClampNeg)))), σ)) := (EvOf_eq mcode _).trans rfl
set_option maxRecDepth 100000 in
set_option maxHeartbeats 4000000 in
theorem q_X10_hears (p1 : Int32) (p2 : Int32) (σ : mS) : e_X10_hears p1 p2 σ =
  bdI (e_X10_quality p1 p2 σ) (fun v2 σ1 =>
  if 0 < v2 then (
    if nI 1 = 0 ∨ nI 1 = 1 then some (some (some (.inl (nI 1))), σ1) else none)
  else (
    if nI 0 = 0 ∨ nI 0 = 1 then some (some (some (.inl (nI 0))), σ1) else none)) := (EvOf_eq mcode _).trans rfl
set_option maxRecDepth 100000 in
set_option maxHeartbeats 4000000 in
theorem q_X10_at (p0 : Int32) (p1 : Int32) (σ : mS) : e_X10_at p0 p1 σ =
  some (some (some (.inl (((nI 4) * p0) + p1))), σ) := (EvOf_eq mcode _).trans rfl
set_option maxRecDepth 100000 in
set_option maxHeartbeats 4000000 in
theorem q_X10_frameAt (p0 : Int32) (p1 : Int32) (p2 : Int32) (σ : mS) : e_X10_frameAt p0 p1 p2 σ =
  bdI (e_X10_at p0 p1 σ) (fun v2 σ1 =>
  some (some (some (.inl ((nI 171) + ((nI 5) * (((nI 8) * v2) + p2))))), σ1)) := (EvOf_eq mcode _).trans rfl
set_option maxRecDepth 100000 in
set_option maxHeartbeats 4000000 in
theorem q_X10_exchangeAt (p0 : Int32) (σ : mS) : e_X10_exchangeAt p0 σ =
  some (some (some (.inl ((nI 1179) + ((nI 16) * p0)))), σ) := (EvOf_eq mcode _).trans rfl
set_option maxRecDepth 100000 in
set_option maxHeartbeats 4000000 in
theorem q_X10_draw (p1 : Int32) (σ : mS) : e_X10_draw p1 σ =
  if nI 14 < 0 ∨ 1432 ≤ (nI 14).toNatClampNeg then none else (
  if nI 14 < 0 ∨ 1432 ≤ (nI 14).toNatClampNeg then none else (
  let σ1 := st σ (30, 0, 0, 0) ((nI 14).toNatClampNeg) (((σ.1 (30, 0, 0, 0) ((nI 14).toNatClampNeg)) * (nI 1103515245)) + (nI 12345));
  if nI 14 < 0 ∨ 1432 ≤ (nI 14).toNatClampNeg then none else (
  if p1 = 0 then none else (
  some (some (some (.inl ((iushr (σ1.1 (30, 0, 0, 0) ((nI 14).toNatClampNeg)) (nI 16)) - (iushr (σ1.1 (30, 0, 0, 0) ((nI 14).toNatClampNeg)) (nI 16)) / p1 * p1))), σ1))))) := (EvOf_eq mcode _).trans rfl
set_option maxRecDepth 100000 in
set_option maxHeartbeats 4000000 in
theorem q_X10_sign (p1 : Int32) (σ : mS) : e_X10_sign p1 σ =
  let σ1 := st σ (10, 0, 0, 0) 5 (nI 0);
  if nI 80 < (σ1.1 (10, 0, 0, 0) 2) + (nI 4) then (
    some (some (some (.inl (-1))), σ1))
  else (
    b_X10_sign_20 p1 (nI 3) σ1) := (EvOf_eq mcode _).trans rfl
set_option maxRecDepth 100000 in
set_option maxHeartbeats 4000000 in
theorem q_X10_sign_20 (x1 : Int32) (x2 : Int32) (σ : mS) : b_X10_sign_20 x1 x2 σ =
  if x2 < 0 then (
    some (some (some (.inl (σ.1 (10, 0, 0, 0) 2))), σ))
  else (
    let σ1 := st σ (10, 0, 0, 0) 2 ((σ.1 (10, 0, 0, 0) 2) + (nI 1));
    if σ.1 (10, 0, 0, 0) 2 < 0 ∨ 80 ≤ (σ.1 (10, 0, 0, 0) 2).toNatClampNeg then none else (
    let σ2 := st σ1 (31, 0, 0, 0) ((σ.1 (10, 0, 0, 0) 2).toNatClampNeg) (((x1 >>> (((nI 8) * x2) &&& 31)).toInt8.toInt32).toInt8.toInt32);
    b_X10_sign_20 x1 (x2 + (-1)) σ2)) := (EvOf_eq mcode _).trans rfl
set_option maxRecDepth 100000 in
set_option maxHeartbeats 4000000 in
theorem q_X10_end (p1 : Int32) (σ : mS) : e_X10_end p1 σ =
  let σ1 := st σ (10, 0, 0, 0) 5 (nI 0);
  bdI (e_X10_in p1 (nI 0) (σ1.1 (10, 0, 0, 0) 2) σ1) (fun v3 σ2 =>
  if v3 = 0 then (
    if nI 0 = 0 ∨ nI 0 = 1 then some (some (some (.inl (nI 0))), σ2) else none)
  else (
    let σ4 := st σ2 (10, 0, 0, 0) 2 p1;
    if nI 1 = 0 ∨ nI 1 = 1 then some (some (some (.inl (nI 1))), σ4) else none)) := (EvOf_eq mcode _).trans rfl
set_option maxRecDepth 100000 in
set_option maxHeartbeats 4000000 in
theorem q_X10_begin (σ : mS) : e_X10_begin σ =
  let σ1 := st σ (10, 0, 0, 0) 6 (σ.1 (10, 0, 0, 0) 2);
  let σ2 := st σ1 (10, 0, 0, 0) 7 (nI 0);
  let σ3 := st σ2 (10, 0, 0, 0) 8 (-1);
  let σ4 := st σ3 (10, 0, 0, 0) 2 (nI 0);
  some (some none, σ4) := (EvOf_eq mcode _).trans rfl
set_option maxRecDepth 100000 in
set_option maxHeartbeats 4000000 in
theorem q_X10_here (σ : mS) : e_X10_here σ =
  if σ.1 (10, 0, 0, 0) 7 < σ.1 (10, 0, 0, 0) 6 then (
    if σ.1 (10, 0, 0, 0) 7 < 0 ∨ 80 ≤ (σ.1 (10, 0, 0, 0) 7).toNatClampNeg then none else (
    some (some (some (.inl ((σ.1 (31, 0, 0, 0) ((σ.1 (10, 0, 0, 0) 7).toNatClampNeg)) &&& (nI 255)))), σ)))
  else (
    some (some (some (.inl (-1))), σ)) := (EvOf_eq mcode _).trans rfl
set_option maxRecDepth 100000 in
set_option maxHeartbeats 4000000 in
theorem q_X10_fine (σ : mS) : e_X10_fine σ =
  if σ.1 (10, 0, 0, 0) 8 = (-1) then (
    if nI 1 = 0 ∨ nI 1 = 1 then some (some (some (.inl (nI 1))), σ) else none)
  else (
    if nI 0 = 0 ∨ nI 0 = 1 then some (some (some (.inl (nI 0))), σ) else none) := (EvOf_eq mcode _).trans rfl
set_option maxRecDepth 100000 in
set_option maxHeartbeats 4000000 in
theorem q_X10_fault (p1 : Int32) (σ : mS) : e_X10_fault p1 σ =
  bdI (e_X10_fine σ) (fun v2 σ1 =>
  if v2 = 0 then (
    some (some none, σ1))
  else (
    let σ3 := st σ1 (10, 0, 0, 0) 8 p1;
    some (some none, σ3))) := (EvOf_eq mcode _).trans rfl
set_option maxRecDepth 100000 in
set_option maxHeartbeats 4000000 in
theorem q_X10_oneOf (p1 : Int32) (p2 : Int32) (σ : mS) : e_X10_oneOf p1 p2 σ =
  bdI (e_X10_fine σ) (fun v2 σ1 =>
  if v2 = 0 then (
    some (some (some (.inl (nI 0))), σ1))
  else (
    bdI (e_X10_here σ1) (fun v4 σ3 =>
    bdI (e_X10_in v4 p1 ((p1 + p2) - (nI 1)) σ3) (fun v6 σ5 =>
    if v6 = 0 then (
      bdV (e_X10_fault (σ5.1 (10, 0, 0, 0) 7) σ5) (fun σ7 =>
      some (some (some (.inl (nI 0))), σ7)))
    else (
      let σ8 := st σ5 (10, 0, 0, 0) 7 ((σ5.1 (10, 0, 0, 0) 7) + (nI 1));
      if (σ8.1 (10, 0, 0, 0) 7) - (nI 1) < 0 ∨ 80 ≤ ((σ8.1 (10, 0, 0, 0) 7) - (nI 1)).toNatClampNeg then none else (
      some (some (some (.inl ((σ8.1 (31, 0, 0, 0) (((σ8.1 (10, 0, 0, 0) 7) - (nI 1)).toNatClampNeg)) - p1))), σ8))))))) := (EvOf_eq mcode _).trans rfl
set_option maxRecDepth 100000 in
set_option maxHeartbeats 4000000 in
theorem q_X10_twoDigits (σ : mS) : e_X10_twoDigits σ =
  bdI (e_X10_oneOf (nI 48) (nI 10) σ) (fun v2 σ1 =>
  bdI (e_X10_oneOf (nI 48) (nI 10) σ1) (fun v4 σ3 =>
  some (some (some (.inl (((nI 10) * v2) + v4))), σ3))) := (EvOf_eq mcode _).trans rfl
set_option maxRecDepth 100000 in
set_option maxHeartbeats 4000000 in
theorem q_X10_wasRight (σ : mS) : e_X10_wasRight σ =
  if σ.1 (10, 0, 0, 0) 7 < σ.1 (10, 0, 0, 0) 6 then (
    bdV (e_X10_fault (σ.1 (10, 0, 0, 0) 7) σ) (fun σ1 =>
    bdI (e_X10_fine σ1) (fun v3 σ2 =>
    if v3 = 0 ∨ v3 = 1 then some (some (some (.inl v3)), σ2) else none)))
  else (
    bdI (e_X10_fine σ) (fun v5 σ4 =>
    if v5 = 0 ∨ v5 = 1 then some (some (some (.inl v5)), σ4) else none)) := (EvOf_eq mcode _).trans rfl
set_option maxRecDepth 100000 in
set_option maxHeartbeats 4000000 in
theorem q_X10_readPair (p1 : Int32) (σ : mS) : e_X10_readPair p1 σ =
  bdI (e_X10_oneOf (nI 97) p1 σ) (fun v2 σ1 =>
  bdI (e_X10_oneOf (nI 97) p1 σ1) (fun v4 σ3 =>
  bdI (e_X10_fine σ3) (fun v6 σ5 =>
  if v6 = 0 then (
    bdI (e_X10_oneOf (nI 49) (nI 3) σ5) (fun v8 σ7 =>
    if ((nI 6) * v2) + v4 < 0 ∨ 36 ≤ (((nI 6) * v2) + v4).toNatClampNeg then none else (
    let σ9 := st σ7 (33, 0, 0, 0) ((((nI 6) * v2) + v4).toNatClampNeg) (v8 + (nI 1));
    if ((nI 6) * v4) + v2 < 0 ∨ 36 ≤ (((nI 6) * v4) + v2).toNatClampNeg then none else (
    let σ10 := st σ9 (33, 0, 0, 0) ((((nI 6) * v4) + v2).toNatClampNeg) (v8 + (nI 1));
    some (some (some (.inl (nI 1))), σ10)))))
  else (
    if v2 = v4 then (
      bdV (e_X10_fault ((σ5.1 (10, 0, 0, 0) 7) - (nI 1)) σ5) (fun σ11 =>
      bdI (e_X10_oneOf (nI 49) (nI 3) σ11) (fun v13 σ12 =>
      if ((nI 6) * v2) + v4 < 0 ∨ 36 ≤ (((nI 6) * v2) + v4).toNatClampNeg then none else (
      let σ14 := st σ12 (33, 0, 0, 0) ((((nI 6) * v2) + v4).toNatClampNeg) (v13 + (nI 1));
      if ((nI 6) * v4) + v2 < 0 ∨ 36 ≤ (((nI 6) * v4) + v2).toNatClampNeg then none else (
      let σ15 := st σ14 (33, 0, 0, 0) ((((nI 6) * v4) + v2).toNatClampNeg) (v13 + (nI 1));
      some (some (some (.inl (nI 1))), σ15))))))
    else (
      if ((nI 6) * v2) + v4 < 0 ∨ 36 ≤ (((nI 6) * v2) + v4).toNatClampNeg then none else (
      if 0 < σ5.1 (33, 0, 0, 0) ((((nI 6) * v2) + v4).toNatClampNeg) then (
        bdV (e_X10_fault ((σ5.1 (10, 0, 0, 0) 7) - (nI 1)) σ5) (fun σ16 =>
        bdI (e_X10_oneOf (nI 49) (nI 3) σ16) (fun v18 σ17 =>
        if ((nI 6) * v2) + v4 < 0 ∨ 36 ≤ (((nI 6) * v2) + v4).toNatClampNeg then none else (
        let σ19 := st σ17 (33, 0, 0, 0) ((((nI 6) * v2) + v4).toNatClampNeg) (v18 + (nI 1));
        if ((nI 6) * v4) + v2 < 0 ∨ 36 ≤ (((nI 6) * v4) + v2).toNatClampNeg then none else (
        let σ20 := st σ19 (33, 0, 0, 0) ((((nI 6) * v4) + v2).toNatClampNeg) (v18 + (nI 1));
        some (some (some (.inl (nI 1))), σ20))))))
      else (
        bdI (e_X10_oneOf (nI 49) (nI 3) σ5) (fun v22 σ21 =>
        if ((nI 6) * v2) + v4 < 0 ∨ 36 ≤ (((nI 6) * v2) + v4).toNatClampNeg then none else (
        let σ23 := st σ21 (33, 0, 0, 0) ((((nI 6) * v2) + v4).toNatClampNeg) (v22 + (nI 1));
        if ((nI 6) * v4) + v2 < 0 ∨ 36 ≤ (((nI 6) * v4) + v2).toNatClampNeg then none else (
        let σ24 := st σ23 (33, 0, 0, 0) ((((nI 6) * v4) + v2).toNatClampNeg) (v22 + (nI 1));
        some (some (some (.inl (nI 1))), σ24))))))))))) := (EvOf_eq mcode _).trans rfl
set_option maxRecDepth 100000 in
set_option maxHeartbeats 4000000 in
theorem q_X10_net (σ : mS) : e_X10_net σ =
  let σ1 := st σ (10, 0, 0, 0) 5 (nI 0);
  bdV (e_X10_begin σ1) (fun σ2 =>
  b_X10_net_11 (nI 0) σ2) := (EvOf_eq mcode _).trans rfl
set_option maxRecDepth 100000 in
set_option maxHeartbeats 4000000 in
theorem q_X10_net_11 (x1 : Int32) (σ : mS) : b_X10_net_11 x1 σ =
  if x1 < nI 36 then (
    if x1 < 0 ∨ 36 ≤ x1.toNatClampNeg then none else (
    let σ1 := st σ (33, 0, 0, 0) x1.toNatClampNeg (nI 0);
    b_X10_net_11 (x1 + 1) σ1))
  else (
    bdI (e_X10_oneOf (nI 49) (nI 6) σ) (fun v3 σ2 =>
    b_X10_net_46 (v3 + (nI 1)) (nI 0) σ2)) := (EvOf_eq mcode _).trans rfl
set_option maxRecDepth 100000 in
set_option maxHeartbeats 4000000 in
theorem q_X10_net_46 (x1 : Int32) (x2 : Int32) (σ : mS) : b_X10_net_46 x1 x2 σ =
  bdI (e_X10_fine σ) (fun v2 σ1 =>
  if v2 = 0 then (
    bdI (e_X10_wasRight σ1) (fun v4 σ3 =>
    if v4 = 0 then (
      some (some (some (.inl ((-1) - (σ3.1 (10, 0, 0, 0) 8)))), σ3))
    else (
      bdV (e_X10_change σ3) (fun σ5 =>
      b_X10_net_95 x1 x2 (nI 0) σ5))))
  else (
    if σ1.1 (10, 0, 0, 0) 7 < σ1.1 (10, 0, 0, 0) 6 then (
      bdI (e_X10_readPair x1 σ1) (fun v7 σ6 =>
      b_X10_net_46 x1 (x2 + v7) σ6))
    else (
      bdI (e_X10_wasRight σ1) (fun v9 σ8 =>
      if v9 = 0 then (
        some (some (some (.inl ((-1) - (σ8.1 (10, 0, 0, 0) 8)))), σ8))
      else (
        bdV (e_X10_change σ8) (fun σ10 =>
        b_X10_net_95 x1 x2 (nI 0) σ10)))))) := (EvOf_eq mcode _).trans rfl
set_option maxRecDepth 100000 in
set_option maxHeartbeats 4000000 in
theorem q_X10_net_95 (x1 : Int32) (x2 : Int32) (x3 : Int32) (σ : mS) : b_X10_net_95 x1 x2 x3 σ =
  if x3 < nI 1432 then (
    bdI (e_X10_in x3 (nI 2) (nI 14) σ) (fun v2 σ1 =>
    if v2 = 0 then (
      if x3 < 0 ∨ 1432 ≤ x3.toNatClampNeg then none else (
      let σ3 := st σ1 (30, 0, 0, 0) x3.toNatClampNeg (nI 0);
      b_X10_net_95 x1 x2 (x3 + 1) σ3))
    else (
      b_X10_net_95 x1 x2 (x3 + 1) σ1)))
  else (
    if nI 0 < 0 ∨ 1432 ≤ (nI 0).toNatClampNeg then none else (
    let σ4 := st σ (30, 0, 0, 0) ((nI 0).toNatClampNeg) x1;
    b_X10_net_134 x2 (nI 0) σ4)) := (EvOf_eq mcode _).trans rfl
set_option maxRecDepth 100000 in
set_option maxHeartbeats 4000000 in
theorem q_X10_net_134 (x2 : Int32) (x3 : Int32) (σ : mS) : b_X10_net_134 x2 x3 σ =
  if x3 < nI 36 then (
    if x3 < 0 ∨ 36 ≤ x3.toNatClampNeg then none else (
    if (nI 15) + x3 < 0 ∨ 1432 ≤ ((nI 15) + x3).toNatClampNeg then none else (
    let σ1 := st σ (30, 0, 0, 0) (((nI 15) + x3).toNatClampNeg) (σ.1 (33, 0, 0, 0) x3.toNatClampNeg);
    if (nI 51) + x3 < 0 ∨ 1432 ≤ ((nI 51) + x3).toNatClampNeg then none else (
    let σ2 := st σ1 (30, 0, 0, 0) (((nI 51) + x3).toNatClampNeg) (nI 1);
    b_X10_net_134 x2 (x3 + 1) σ2))))
  else (
    b_X10_net_176 x2 (nI 0) σ) := (EvOf_eq mcode _).trans rfl
set_option maxRecDepth 100000 in
set_option maxHeartbeats 4000000 in
theorem q_X10_net_176 (x2 : Int32) (x3 : Int32) (σ : mS) : b_X10_net_176 x2 x3 σ =
  if x3 < nI 6 then (
    if (nI 135) + x3 < 0 ∨ 1432 ≤ ((nI 135) + x3).toNatClampNeg then none else (
    let σ1 := st σ (30, 0, 0, 0) (((nI 135) + x3).toNatClampNeg) (-1);
    b_X10_net_196 x2 x3 (nI 0) σ1))
  else (
    some (some (some (.inl x2)), σ)) := (EvOf_eq mcode _).trans rfl
set_option maxRecDepth 100000 in
set_option maxHeartbeats 4000000 in
theorem q_X10_net_196 (x2 : Int32) (x3 : Int32) (x4 : Int32) (σ : mS) : b_X10_net_196 x2 x3 x4 σ =
  if x4 < nI 4 then (
    bdI (e_X10_at x3 x4 σ) (fun v2 σ1 =>
    if (nI 9) + x4 < 0 ∨ 1432 ≤ ((nI 9) + x4).toNatClampNeg then none else (
    if (nI 1131) + v2 < 0 ∨ 1432 ≤ ((nI 1131) + v2).toNatClampNeg then none else (
    let σ3 := st σ1 (30, 0, 0, 0) (((nI 1131) + v2).toNatClampNeg) (σ1.1 (30, 0, 0, 0) (((nI 9) + x4).toNatClampNeg));
    b_X10_net_196 x2 x3 (x4 + 1) σ3))))
  else (
    b_X10_net_176 x2 (x3 + 1) σ) := (EvOf_eq mcode _).trans rfl
set_option maxRecDepth 100000 in
set_option maxHeartbeats 4000000 in
theorem q_X10_highOf (p0 : Int32) (σ : mS) : e_X10_highOf p0 σ =
  if p0 = 0 then (
    some (some (some (.inl (nI 10))), σ))
  else (
    if p0 = nI 1 then (
      some (some (some (.inl (nI 4))), σ))
    else (
      if p0 = nI 2 then (
        some (some (some (.inl (nI 7))), σ))
      else (
        if p0 < nI 7 then (
          some (some (some (.inl (nI 9))), σ))
        else (
          if p0 < nI 11 then (
            some (some (some (.inl (nI 31))), σ))
          else (
            some (some (some (.inl (nI 63))), σ)))))) := (EvOf_eq mcode _).trans rfl
set_option maxRecDepth 100000 in
set_option maxHeartbeats 4000000 in
theorem q_X10_sets (p1 : Int32) (p2 : Int32) (σ : mS) : e_X10_sets p1 p2 σ =
  let σ1 := st σ (10, 0, 0, 0) 5 (nI 0);
  bdI (e_X10_in p1 (nI 0) (nI 12) σ1) (fun v3 σ2 =>
  if v3 = 0 then (
    some (some (some (.inl (-1))), σ2))
  else (
    if p1 = nI 12 then (
      if (nI 2) + p1 < 0 ∨ 1432 ≤ ((nI 2) + p1).toNatClampNeg then none else (
      if p1 = nI 12 then (
        bdV (e_X10_change σ2) (fun σ4 =>
        if (nI 2) + p1 < 0 ∨ 1432 ≤ ((nI 2) + p1).toNatClampNeg then none else (
        let σ5 := st σ4 (30, 0, 0, 0) (((nI 2) + p1).toNatClampNeg) p2;
        if p1 = nI 12 then (
          some (some (some (.inl (nI 100))), σ5))
        else (
          some (some (some (.inl ((nI 100) + (σ2.1 (30, 0, 0, 0) (((nI 2) + p1).toNatClampNeg))))), σ5)))))
      else (
        if σ2.1 (30, 0, 0, 0) (((nI 2) + p1).toNatClampNeg) = p2 then (
          some (some (some (.inl (-2))), σ2))
        else (
          bdV (e_X10_change σ2) (fun σ6 =>
          if (nI 2) + p1 < 0 ∨ 1432 ≤ ((nI 2) + p1).toNatClampNeg then none else (
          let σ7 := st σ6 (30, 0, 0, 0) (((nI 2) + p1).toNatClampNeg) p2;
          if p1 = nI 12 then (
            some (some (some (.inl (nI 100))), σ7))
          else (
            some (some (some (.inl ((nI 100) + (σ2.1 (30, 0, 0, 0) (((nI 2) + p1).toNatClampNeg))))), σ7))))))))
    else (
      bdI (e_X10_highOf p1 σ2) (fun v9 σ8 =>
      bdI (e_X10_in p2 (nI 1) v9 σ8) (fun v11 σ10 =>
      if v11 = 0 then (
        some (some (some (.inl (-1))), σ10))
      else (
        if (nI 2) + p1 < 0 ∨ 1432 ≤ ((nI 2) + p1).toNatClampNeg then none else (
        if p1 = nI 12 then (
          bdV (e_X10_change σ10) (fun σ12 =>
          if (nI 2) + p1 < 0 ∨ 1432 ≤ ((nI 2) + p1).toNatClampNeg then none else (
          let σ13 := st σ12 (30, 0, 0, 0) (((nI 2) + p1).toNatClampNeg) p2;
          if p1 = nI 12 then (
            some (some (some (.inl (nI 100))), σ13))
          else (
            some (some (some (.inl ((nI 100) + (σ10.1 (30, 0, 0, 0) (((nI 2) + p1).toNatClampNeg))))), σ13)))))
        else (
          if σ10.1 (30, 0, 0, 0) (((nI 2) + p1).toNatClampNeg) = p2 then (
            some (some (some (.inl (-2))), σ10))
          else (
            bdV (e_X10_change σ10) (fun σ14 =>
            if (nI 2) + p1 < 0 ∨ 1432 ≤ ((nI 2) + p1).toNatClampNeg then none else (
            let σ15 := st σ14 (30, 0, 0, 0) (((nI 2) + p1).toNatClampNeg) p2;
            if p1 = nI 12 then (
              some (some (some (.inl (nI 100))), σ15))
            else (
              some (some (some (.inl ((nI 100) + (σ10.1 (30, 0, 0, 0) (((nI 2) + p1).toNatClampNeg))))), σ15))))))))))))) := (EvOf_eq mcode _).trans rfl
set_option maxRecDepth 100000 in
set_option maxHeartbeats 4000000 in
theorem q_X10_setting (p1 : Int32) (σ : mS) : e_X10_setting p1 σ =
  let σ1 := st σ (10, 0, 0, 0) 5 (nI 0);
  bdI (e_X10_in p1 (nI 0) (nI 12) σ1) (fun v3 σ2 =>
  if v3 = 0 then (
    bdI (e_X10_lost σ2) (fun v5 σ4 =>
    some (some (some (.inl v5)), σ4)))
  else (
    if (nI 2) + p1 < 0 ∨ 1432 ≤ ((nI 2) + p1).toNatClampNeg then none else (
    some (some (some (.inl (σ2.1 (30, 0, 0, 0) (((nI 2) + p1).toNatClampNeg)))), σ2)))) := (EvOf_eq mcode _).trans rfl
set_option maxRecDepth 100000 in
set_option maxHeartbeats 4000000 in
theorem q_X10_goesOn (σ : mS) : e_X10_goesOn σ =
  b_X10_goesOn_2 (nI 0) σ := (EvOf_eq mcode _).trans rfl
set_option maxRecDepth 100000 in
set_option maxHeartbeats 4000000 in
theorem q_X10_goesOn_2 (x1 : Int32) (σ : mS) : b_X10_goesOn_2 x1 σ =
  if nI 0 < 0 ∨ 1432 ≤ (nI 0).toNatClampNeg then none else (
  if x1 < σ.1 (30, 0, 0, 0) ((nI 0).toNatClampNeg) then (
    bdI (e_X10_exchangeAt x1 σ) (fun v2 σ1 =>
    if v2 + (nI 0) < 0 ∨ 1432 ≤ (v2 + (nI 0)).toNatClampNeg then none else (
    if σ1.1 (30, 0, 0, 0) ((v2 + (nI 0)).toNatClampNeg) = nI 1 then (
      if nI 1 = 0 ∨ nI 1 = 1 then some (some (some (.inl (nI 1))), σ1) else none)
    else (
      b_X10_goesOn_2 (x1 + 1) σ1))))
  else (
    if nI 0 = 0 ∨ nI 0 = 1 then some (some (some (.inl (nI 0))), σ) else none)) := (EvOf_eq mcode _).trans rfl
set_option maxRecDepth 100000 in
set_option maxHeartbeats 4000000 in
theorem q_X10_sheet (p1 : Int32) (p2 : Int32) (p3 : Int32) (p4 : Int32) (p5 : Int32) (σ : mS) : e_X10_sheet p1 p2 p3 p4 p5 σ =
  let σ1 := st σ (10, 0, 0, 0) 5 (nI 0);
  bdI (e_X10_isRank p1 σ1) (fun v3 σ2 =>
  if v3 = 0 then (
    some (some (some (.inl (-1))), σ2))
  else (
    bdI (e_X10_in p2 (nI 0) (nI 3) σ2) (fun v5 σ4 =>
    if v5 = 0 then (
      some (some (some (.inl (-1))), σ4))
    else (
      if nI 6 < p3 then (
        some (some (some (.inl (-1))), σ4))
      else (
        bdI (e_X10_goesOn σ4) (fun v7 σ6 =>
        if v7 = 0 then (
          if p2 < nI 3 then (
            if p3 < 0 then (
              some (some (some (.inl (-2))), σ6))
            else (
              b_X10_sheet_61 p1 p2 p3 p5 (nI 0) p4 (nI 0) σ6))
          else (
            b_X10_sheet_61 p1 p2 p3 p5 (nI 0) p4 (nI 0) σ6))
        else (
          some (some (some (.inl (-4))), σ6)))))))) := (EvOf_eq mcode _).trans rfl
set_option maxRecDepth 100000 in
set_option maxHeartbeats 4000000 in
theorem q_X10_sheet_61 (x1 : Int32) (x2 : Int32) (x3 : Int32) (x5 : Int32) (x6 : Int32) (x7 : Int32) (x8 : Int32) (σ : mS) : b_X10_sheet_61 x1 x2 x3 x5 x6 x7 x8 σ =
  if nI 0 < 0 ∨ 1432 ≤ (nI 0).toNatClampNeg then none else (
  if x8 < σ.1 (30, 0, 0, 0) ((nI 0).toNatClampNeg) then (
    if x2 = 0 then (
      b_X10_sheet_95 x1 x2 x3 x5 x6 x7 x8 ((x7).toInt8.toInt32) σ)
    else (
      if x2 = nI 1 then (
        b_X10_sheet_95 x1 x2 x3 x5 x6 x7 x8 ((x7).toInt16.toInt32) σ)
      else (
        b_X10_sheet_95 x1 x2 x3 x5 x6 x7 x8 x7 σ)))
  else (
    if x2 = nI 3 then (
      some (some (some (.inl (-3))), σ))
    else (
      some (some (some (.inl x6)), σ)))) := (EvOf_eq mcode _).trans rfl
set_option maxRecDepth 100000 in
set_option maxHeartbeats 4000000 in
theorem q_X10_sheet_95 (x1 : Int32) (x2 : Int32) (x3 : Int32) (x5 : Int32) (x6 : Int32) (x7 : Int32) (x8 : Int32) (t0 : Int32) (σ : mS) : b_X10_sheet_95 x1 x2 x3 x5 x6 x7 x8 t0 σ =
  bdI (e_X10_at x8 x1 σ) (fun v2 σ1 =>
  if (nI 147) + v2 < 0 ∨ 1432 ≤ ((nI 147) + v2).toNatClampNeg then none else (
  let σ3 := st σ1 (30, 0, 0, 0) (((nI 147) + v2).toNatClampNeg) (nI 0);
  if nI 0 < 0 ∨ 1432 ≤ (nI 0).toNatClampNeg then none else (
  if σ3.1 (30, 0, 0, 0) ((nI 0).toNatClampNeg) = 0 then none else (
  if x2 < nI 3 then (
    if x8 < x3 then (
      if 0 < t0 then (
        bdI (e_X10_hears x8 ((x8 + (nI 1)) - (x8 + (nI 1)) / (σ3.1 (30, 0, 0, 0) ((nI 0).toNatClampNeg)) * (σ3.1 (30, 0, 0, 0) ((nI 0).toNatClampNeg))) σ3) (fun v5 σ4 =>
        if v5 = 0 then (
          b_X10_sheet_61 x1 x2 x3 x5 x6 (x7 + x5) (x8 + 1) σ4)
        else (
          if nI 9 = 0 then none else (
          bdV (e_X10_put x8 x1 ((x8 + (nI 1)) - (x8 + (nI 1)) / (σ3.1 (30, 0, 0, 0) ((nI 0).toNatClampNeg)) * (σ3.1 (30, 0, 0, 0) ((nI 0).toNatClampNeg))) ((t0 - t0 / (nI 9) * (nI 9)) + (nI 1)) (nI 0) σ4) (fun σ6 =>
          b_X10_sheet_61 x1 x2 x3 x5 (x6 + 1) (x7 + x5) (x8 + 1) σ6)))))
      else (
        b_X10_sheet_61 x1 x2 x3 x5 x6 (x7 + x5) (x8 + 1) σ3))
    else (
      b_X10_sheet_61 x1 x2 x3 x5 x6 (x7 + x5) (x8 + 1) σ3))
  else (
    b_X10_sheet_61 x1 x2 x3 x5 x6 (x7 + x5) (x8 + 1) σ3))))) := (EvOf_eq mcode _).trans rfl
set_option maxRecDepth 100000 in
set_option maxHeartbeats 4000000 in
theorem q_X10_put (p1 : Int32) (p2 : Int32) (p3 : Int32) (p4 : Int32) (p5 : Int32) (σ : mS) : e_X10_put p1 p2 p3 p4 p5 σ =
  bdI (e_X10_at p1 p2 σ) (fun v2 σ1 =>
  if (nI 147) + v2 < 0 ∨ 1432 ≤ ((nI 147) + v2).toNatClampNeg then none else (
  bdI (e_X10_frameAt p1 p2 (σ1.1 (30, 0, 0, 0) (((nI 147) + v2).toNatClampNeg)) σ1) (fun v4 σ3 =>
  if v4 < 0 ∨ 1432 ≤ v4.toNatClampNeg then none else (
  let σ5 := st σ3 (30, 0, 0, 0) v4.toNatClampNeg p3;
  if v4 + (nI 1) < 0 ∨ 1432 ≤ (v4 + (nI 1)).toNatClampNeg then none else (
  let σ6 := st σ5 (30, 0, 0, 0) ((v4 + (nI 1)).toNatClampNeg) p4;
  if v4 + (nI 2) < 0 ∨ 1432 ≤ (v4 + (nI 2)).toNatClampNeg then none else (
  let σ7 := st σ6 (30, 0, 0, 0) ((v4 + (nI 2)).toNatClampNeg) (nI 0);
  if nI 1 < 0 ∨ 1432 ≤ (nI 1).toNatClampNeg then none else (
  if v4 + (nI 3) < 0 ∨ 1432 ≤ (v4 + (nI 3)).toNatClampNeg then none else (
  let σ8 := st σ7 (30, 0, 0, 0) ((v4 + (nI 3)).toNatClampNeg) (σ7.1 (30, 0, 0, 0) ((nI 1).toNatClampNeg));
  if v4 + (nI 4) < 0 ∨ 1432 ≤ (v4 + (nI 4)).toNatClampNeg then none else (
  let σ9 := st σ8 (30, 0, 0, 0) ((v4 + (nI 4)).toNatClampNeg) p5;
  bdI (e_X10_at p1 p2 σ9) (fun v11 σ10 =>
  if (nI 147) + v11 < 0 ∨ 1432 ≤ ((nI 147) + v11).toNatClampNeg then none else (
  if (nI 147) + v11 < 0 ∨ 1432 ≤ ((nI 147) + v11).toNatClampNeg then none else (
  let σ12 := st σ10 (30, 0, 0, 0) (((nI 147) + v11).toNatClampNeg) ((σ10.1 (30, 0, 0, 0) (((nI 147) + v11).toNatClampNeg)) + (nI 1));
  some (some none, σ12))))))))))))) := (EvOf_eq mcode _).trans rfl
set_option maxRecDepth 100000 in
set_option maxHeartbeats 4000000 in
theorem q_X10_leaves (p1 : Int32) (p2 : Int32) (p3 : Int32) (σ : mS) : e_X10_leaves p1 p2 p3 σ =
  bdI (e_X10_at p1 p2 σ) (fun v2 σ1 =>
  if (nI 147) + v2 < 0 ∨ 1432 ≤ ((nI 147) + v2).toNatClampNeg then none else (
  if (nI 147) + v2 < 0 ∨ 1432 ≤ ((nI 147) + v2).toNatClampNeg then none else (
  let σ3 := st σ1 (30, 0, 0, 0) (((nI 147) + v2).toNatClampNeg) ((σ1.1 (30, 0, 0, 0) (((nI 147) + v2).toNatClampNeg)) - (nI 1));
  b_X10_leaves_21 p1 p2 p3 σ3))) := (EvOf_eq mcode _).trans rfl
set_option maxRecDepth 100000 in
set_option maxHeartbeats 4000000 in
theorem q_X10_leaves_21 (x1 : Int32) (x2 : Int32) (x4 : Int32) (σ : mS) : b_X10_leaves_21 x1 x2 x4 σ =
  bdI (e_X10_at x1 x2 σ) (fun v2 σ1 =>
  if (nI 147) + v2 < 0 ∨ 1432 ≤ ((nI 147) + v2).toNatClampNeg then none else (
  if x4 < σ1.1 (30, 0, 0, 0) (((nI 147) + v2).toNatClampNeg) then (
    b_X10_leaves_43 x1 x2 x4 (nI 0) σ1)
  else (
    some (some none, σ1)))) := (EvOf_eq mcode _).trans rfl
set_option maxRecDepth 100000 in
set_option maxHeartbeats 4000000 in
theorem q_X10_leaves_43 (x1 : Int32) (x2 : Int32) (x4 : Int32) (x5 : Int32) (σ : mS) : b_X10_leaves_43 x1 x2 x4 x5 σ =
  if x5 < nI 5 then (
    bdI (e_X10_frameAt x1 x2 x4 σ) (fun v2 σ1 =>
    bdI (e_X10_frameAt x1 x2 (x4 + (nI 1)) σ1) (fun v4 σ3 =>
    if v4 + x5 < 0 ∨ 1432 ≤ (v4 + x5).toNatClampNeg then none else (
    if v2 + x5 < 0 ∨ 1432 ≤ (v2 + x5).toNatClampNeg then none else (
    let σ5 := st σ3 (30, 0, 0, 0) ((v2 + x5).toNatClampNeg) (σ3.1 (30, 0, 0, 0) ((v4 + x5).toNatClampNeg));
    b_X10_leaves_43 x1 x2 x4 (x5 + 1) σ5)))))
  else (
    b_X10_leaves_21 x1 x2 (x4 + 1) σ) := (EvOf_eq mcode _).trans rfl
set_option maxRecDepth 100000 in
set_option maxHeartbeats 4000000 in
theorem q_X10_refusesOffer (p1 : Int32) (p2 : Int32) (p3 : Int32) (p4 : Int32) (σ : mS) : e_X10_refusesOffer p1 p2 p3 p4 σ =
  bdI (e_X10_isStation p1 σ) (fun v2 σ1 =>
  if v2 = 0 then (
    some (some (some (.inl (-1))), σ1))
  else (
    bdI (e_X10_isRank p2 σ1) (fun v4 σ3 =>
    if v4 = 0 then (
      some (some (some (.inl (-1))), σ3))
    else (
      bdI (e_X10_isStation p3 σ3) (fun v6 σ5 =>
      if v6 = 0 then (
        some (some (some (.inl (-1))), σ5))
      else (
        if p1 = p3 then (
          some (some (some (.inl (-1))), σ5))
        else (
          bdI (e_X10_in p4 (nI 1) (nI 9) σ5) (fun v8 σ7 =>
          if v8 = 0 then (
            some (some (some (.inl (-1))), σ7))
          else (
            bdI (e_X10_hears p1 p3 σ7) (fun v10 σ9 =>
            if v10 = 0 then (
              some (some (some (.inl (-3))), σ9))
            else (
              bdI (e_X10_at p1 p2 σ9) (fun v12 σ11 =>
              if (nI 147) + v12 < 0 ∨ 1432 ≤ ((nI 147) + v12).toNatClampNeg then none else (
              if σ11.1 (30, 0, 0, 0) (((nI 147) + v12).toNatClampNeg) = nI 8 then (
                some (some (some (.inl (-2))), σ11))
              else (
                some (some (some (.inl (nI 0))), σ11))))))))))))))) := (EvOf_eq mcode _).trans rfl
set_option maxRecDepth 100000 in
set_option maxHeartbeats 4000000 in
theorem q_X10_offers (p1 : Int32) (p2 : Int32) (p3 : Int32) (p4 : Int32) (σ : mS) : e_X10_offers p1 p2 p3 p4 σ =
  let σ1 := st σ (10, 0, 0, 0) 5 (nI 0);
  bdI (e_X10_refusesOffer p1 p2 p3 p4 σ1) (fun v3 σ2 =>
  if v3 < 0 then (
    some (some (some (.inl v3)), σ2))
  else (
    bdV (e_X10_change σ2) (fun σ4 =>
    bdV (e_X10_put p1 p2 p3 p4 (nI 0) σ4) (fun σ5 =>
    bdI (e_X10_at p1 p2 σ5) (fun v7 σ6 =>
    if (nI 147) + v7 < 0 ∨ 1432 ≤ ((nI 147) + v7).toNatClampNeg then none else (
    some (some (some (.inl (σ6.1 (30, 0, 0, 0) (((nI 147) + v7).toNatClampNeg)))), σ6))))))) := (EvOf_eq mcode _).trans rfl
set_option maxRecDepth 100000 in
set_option maxHeartbeats 4000000 in
theorem q_X10_isFree (p1 : Int32) (σ : mS) : e_X10_isFree p1 σ =
  bdI (e_X10_exchangeAt p1 σ) (fun v2 σ1 =>
  if v2 + (nI 0) < 0 ∨ 1432 ≤ (v2 + (nI 0)).toNatClampNeg then none else (
  if σ1.1 (30, 0, 0, 0) ((v2 + (nI 0)).toNatClampNeg) = 0 then (
    if (nI 135) + p1 < 0 ∨ 1432 ≤ ((nI 135) + p1).toNatClampNeg then none else (
    if σ1.1 (30, 0, 0, 0) (((nI 135) + p1).toNatClampNeg) = (-1) then (
      if p1 < 0 ∨ 6 ≤ p1.toNatClampNeg then none else (
      if σ1.1 (34, 0, 0, 0) p1.toNatClampNeg = (-1) then (
        if nI 1 = 0 ∨ nI 1 = 1 then some (some (some (.inl (nI 1))), σ1) else none)
      else (
        if nI 0 = 0 ∨ nI 0 = 1 then some (some (some (.inl (nI 0))), σ1) else none)))
    else (
      if nI 0 = 0 ∨ nI 0 = 1 then some (some (some (.inl (nI 0))), σ1) else none)))
  else (
    if nI 0 = 0 ∨ nI 0 = 1 then some (some (some (.inl (nI 0))), σ1) else none))) := (EvOf_eq mcode _).trans rfl
set_option maxRecDepth 100000 in
set_option maxHeartbeats 4000000 in
theorem q_X10_isReady (p1 : Int32) (p2 : Int32) (σ : mS) : e_X10_isReady p1 p2 σ =
  bdI (e_X10_at p1 p2 σ) (fun v2 σ1 =>
  if (nI 147) + v2 < 0 ∨ 1432 ≤ ((nI 147) + v2).toNatClampNeg then none else (
  if 0 < σ1.1 (30, 0, 0, 0) (((nI 147) + v2).toNatClampNeg) then (
    bdI (e_X10_at p1 p2 σ1) (fun v4 σ3 =>
    if (nI 1155) + v4 < 0 ∨ 1432 ≤ ((nI 1155) + v4).toNatClampNeg then none else (
    if σ3.1 (30, 0, 0, 0) (((nI 1155) + v4).toNatClampNeg) = 0 then (
      if (nI 5) + p2 < 0 ∨ 1432 ≤ ((nI 5) + p2).toNatClampNeg then none else (
      if (nI 123) + p1 < 0 ∨ 1432 ≤ ((nI 123) + p1).toNatClampNeg then none else (
      if σ3.1 (30, 0, 0, 0) (((nI 123) + p1).toNatClampNeg) < σ3.1 (30, 0, 0, 0) (((nI 5) + p2).toNatClampNeg) then (
        if nI 0 = 0 ∨ nI 0 = 1 then some (some (some (.inl (nI 0))), σ3) else none)
      else (
        if nI 1 = 0 ∨ nI 1 = 1 then some (some (some (.inl (nI 1))), σ3) else none))))
    else (
      if nI 0 = 0 ∨ nI 0 = 1 then some (some (some (.inl (nI 0))), σ3) else none))))
  else (
    if nI 0 = 0 ∨ nI 0 = 1 then some (some (some (.inl (nI 0))), σ1) else none))) := (EvOf_eq mcode _).trans rfl
set_option maxRecDepth 100000 in
set_option maxHeartbeats 4000000 in
theorem q_X10_had (p1 : Int32) (p2 : Int32) (p3 : Int32) (σ : mS) : e_X10_had p1 p2 p3 σ =
  if ((nI 1275) + ((nI 9) * p1)) + p2 < 0 ∨ 1432 ≤ (((nI 1275) + ((nI 9) * p1)) + p2).toNatClampNeg then none else (
  if ((nI 1275) + ((nI 9) * p1)) + p2 < 0 ∨ 1432 ≤ (((nI 1275) + ((nI 9) * p1)) + p2).toNatClampNeg then none else (
  let σ1 := st σ (30, 0, 0, 0) ((((nI 1275) + ((nI 9) * p1)) + p2).toNatClampNeg) ((σ.1 (30, 0, 0, 0) ((((nI 1275) + ((nI 9) * p1)) + p2).toNatClampNeg)) + p3);
  some (some none, σ1))) := (EvOf_eq mcode _).trans rfl
set_option maxRecDepth 100000 in
set_option maxHeartbeats 4000000 in
theorem q_X10_drawsCount (p1 : Int32) (p2 : Int32) (σ : mS) : e_X10_drawsCount p1 p2 σ =
  bdI (e_X10_at p1 p2 σ) (fun v2 σ1 =>
  bdI (e_X10_at p1 p2 σ1) (fun v4 σ3 =>
  if (nI 1131) + v4 < 0 ∨ 1432 ≤ ((nI 1131) + v4).toNatClampNeg then none else (
  bdI (e_X10_draw ((σ3.1 (30, 0, 0, 0) (((nI 1131) + v4).toNatClampNeg)) + (nI 1)) σ3) (fun v6 σ5 =>
  if (nI 1155) + v2 < 0 ∨ 1432 ≤ ((nI 1155) + v2).toNatClampNeg then none else (
  let σ7 := st σ5 (30, 0, 0, 0) (((nI 1155) + v2).toNatClampNeg) v6;
  some (some none, σ7)))))) := (EvOf_eq mcode _).trans rfl
set_option maxRecDepth 100000 in
set_option maxHeartbeats 4000000 in
theorem q_X10_isLost (p1 : Int32) (p2 : Int32) (p3 : Int32) (σ : mS) : e_X10_isLost p1 p2 p3 σ =
  bdV (e_X10_leaves p1 p2 p3 σ) (fun σ1 =>
  bdV (e_X10_had p1 (nI 2) (nI 1) σ1) (fun σ2 =>
  if nI 1337 < 0 ∨ 1432 ≤ (nI 1337).toNatClampNeg then none else (
  if nI 1337 < 0 ∨ 1432 ≤ (nI 1337).toNatClampNeg then none else (
  let σ3 := st σ2 (30, 0, 0, 0) ((nI 1337).toNatClampNeg) ((σ2.1 (30, 0, 0, 0) ((nI 1337).toNatClampNeg)) + (nI 1));
  some (some none, σ3))))) := (EvOf_eq mcode _).trans rfl
set_option maxRecDepth 100000 in
set_option maxHeartbeats 4000000 in
theorem q_X10_fails (p1 : Int32) (p2 : Int32) (σ : mS) : e_X10_fails p1 p2 σ =
  bdI (e_X10_frameAt p1 p2 (nI 0) σ) (fun v2 σ1 =>
  if v2 + (nI 2) < 0 ∨ 1432 ≤ (v2 + (nI 2)).toNatClampNeg then none else (
  if v2 + (nI 2) < 0 ∨ 1432 ≤ (v2 + (nI 2)).toNatClampNeg then none else (
  let σ3 := st σ1 (30, 0, 0, 0) ((v2 + (nI 2)).toNatClampNeg) ((σ1.1 (30, 0, 0, 0) ((v2 + (nI 2)).toNatClampNeg)) + (nI 1));
  bdI (e_X10_at p1 p2 σ3) (fun v5 σ4 =>
  if v2 + (nI 2) < 0 ∨ 1432 ≤ (v2 + (nI 2)).toNatClampNeg then none else (
  if nI 4 < 0 ∨ 1432 ≤ (nI 4).toNatClampNeg then none else (
  if σ4.1 (30, 0, 0, 0) ((v2 + (nI 2)).toNatClampNeg) < σ4.1 (30, 0, 0, 0) ((nI 4).toNatClampNeg) then (
    if (nI 1131) + v5 < 0 ∨ 1432 ≤ ((nI 1131) + v5).toNatClampNeg then none else (
    if nI 13 < 0 ∨ 1432 ≤ (nI 13).toNatClampNeg then none else (
    if (nI 1131) + v5 < 0 ∨ 1432 ≤ ((nI 1131) + v5).toNatClampNeg then none else (
    let σ6 := st σ4 (30, 0, 0, 0) (((nI 1131) + v5).toNatClampNeg) (if σ4.1 (30, 0, 0, 0) ((nI 13).toNatClampNeg) < ((nI 2) * (σ4.1 (30, 0, 0, 0) (((nI 1131) + v5).toNatClampNeg))) + (nI 1) then σ4.1 (30, 0, 0, 0) ((nI 13).toNatClampNeg) else ((nI 2) * (σ4.1 (30, 0, 0, 0) (((nI 1131) + v5).toNatClampNeg))) + (nI 1));
    bdV (e_X10_drawsCount p1 p2 σ6) (fun σ7 =>
    some (some none, σ7))))))
  else (
    bdV (e_X10_isLost p1 p2 (nI 0) σ4) (fun σ8 =>
    if (nI 9) + p2 < 0 ∨ 1432 ≤ ((nI 9) + p2).toNatClampNeg then none else (
    if (nI 1131) + v5 < 0 ∨ 1432 ≤ ((nI 1131) + v5).toNatClampNeg then none else (
    let σ9 := st σ8 (30, 0, 0, 0) (((nI 1131) + v5).toNatClampNeg) (σ8.1 (30, 0, 0, 0) (((nI 9) + p2).toNatClampNeg));
    bdV (e_X10_drawsCount p1 p2 σ9) (fun σ10 =>
    some (some none, σ10)))))))))))) := (EvOf_eq mcode _).trans rfl
set_option maxRecDepth 100000 in
set_option maxHeartbeats 4000000 in
theorem q_X10_roundedUp (p0 : Int32) (p1 : Int32) (σ : mS) : e_X10_roundedUp p0 p1 σ =
  if p1 = 0 then none else (
  some (some (some (.inl (((p0 + p1) - (nI 1)) / p1))), σ)) := (EvOf_eq mcode _).trans rfl
set_option maxRecDepth 100000 in
set_option maxHeartbeats 4000000 in
theorem q_X10_begins (p1 : Int32) (p2 : Int32) (σ : mS) : e_X10_begins p1 p2 σ =
  bdI (e_X10_exchangeAt p1 σ) (fun v2 σ1 =>
  b_X10_begins_8 p1 p2 v2 (nI 0) σ1) := (EvOf_eq mcode _).trans rfl
set_option maxRecDepth 100000 in
set_option maxHeartbeats 4000000 in
theorem q_X10_begins_8 (x1 : Int32) (x2 : Int32) (x3 : Int32) (x4 : Int32) (σ : mS) : b_X10_begins_8 x1 x2 x3 x4 σ =
  if x4 < nI 16 then (
    if x3 + x4 < 0 ∨ 1432 ≤ (x3 + x4).toNatClampNeg then none else (
    let σ1 := st σ (30, 0, 0, 0) ((x3 + x4).toNatClampNeg) (nI 0);
    b_X10_begins_8 x1 x2 x3 (x4 + 1) σ1))
  else (
    bdI (e_X10_frameAt x1 x2 (nI 0) σ) (fun v3 σ2 =>
    if v3 < 0 ∨ 1432 ≤ v3.toNatClampNeg then none else (
    b_X10_begins_50 x1 x2 x3 (σ2.1 (30, 0, 0, 0) v3.toNatClampNeg) (nI 0) (nI 0) σ2))) := (EvOf_eq mcode _).trans rfl
set_option maxRecDepth 100000 in
set_option maxHeartbeats 4000000 in
theorem q_X10_begins_50 (x1 : Int32) (x2 : Int32) (x3 : Int32) (x4 : Int32) (x5 : Int32) (x6 : Int32) (σ : mS) : b_X10_begins_50 x1 x2 x3 x4 x5 x6 σ =
  bdI (e_X10_at x1 x2 σ) (fun v2 σ1 =>
  if (nI 147) + v2 < 0 ∨ 1432 ≤ ((nI 147) + v2).toNatClampNeg then none else (
  if x5 < σ1.1 (30, 0, 0, 0) (((nI 147) + v2).toNatClampNeg) then (
    if nI 3 < 0 ∨ 1432 ≤ (nI 3).toNatClampNeg then none else (
    if x5 < σ1.1 (30, 0, 0, 0) ((nI 3).toNatClampNeg) then (
      bdI (e_X10_frameAt x1 x2 x5 σ1) (fun v4 σ3 =>
      if v4 < 0 ∨ 1432 ≤ v4.toNatClampNeg then none else (
      if σ3.1 (30, 0, 0, 0) v4.toNatClampNeg = x4 then (
        bdI (e_X10_frameAt x1 x2 x5 σ3) (fun v6 σ5 =>
        if v6 + (nI 1) < 0 ∨ 1432 ≤ (v6 + (nI 1)).toNatClampNeg then none else (
        if ((nI 51) + ((nI 6) * x1)) + x4 < 0 ∨ 1432 ≤ (((nI 51) + ((nI 6) * x1)) + x4).toNatClampNeg then none else (
        bdI (e_X10_roundedUp (σ5.1 (30, 0, 0, 0) ((v6 + (nI 1)).toNatClampNeg)) (σ5.1 (30, 0, 0, 0) ((((nI 51) + ((nI 6) * x1)) + x4).toNatClampNeg)) σ5) (fun v8 σ7 =>
        if (x3 + (nI 11)) + x5 < 0 ∨ 1432 ≤ ((x3 + (nI 11)) + x5).toNatClampNeg then none else (
        let σ9 := st σ7 (30, 0, 0, 0) (((x3 + (nI 11)) + x5).toNatClampNeg) v8;
        if (x3 + (nI 11)) + x5 < 0 ∨ 1432 ≤ ((x3 + (nI 11)) + x5).toNatClampNeg then none else (
        b_X10_begins_50 x1 x2 x3 x4 (x5 + 1) (x6 + (σ9.1 (30, 0, 0, 0) (((x3 + (nI 11)) + x5).toNatClampNeg))) σ9)))))))
      else (
        if nI 2 < 0 ∨ 1432 ≤ (nI 2).toNatClampNeg then none else (
        if x6 < σ3.1 (30, 0, 0, 0) ((nI 2).toNatClampNeg) then (
          b_X10_begins_180 x1 x2 x3 x4 x5 x6 (nI 0) σ3)
        else (
          b_X10_begins_180 x1 x2 x3 x4 x5 x6 (nI 1) σ3))))))
    else (
      if nI 2 < 0 ∨ 1432 ≤ (nI 2).toNatClampNeg then none else (
      if x6 < σ1.1 (30, 0, 0, 0) ((nI 2).toNatClampNeg) then (
        b_X10_begins_180 x1 x2 x3 x4 x5 x6 (nI 0) σ1)
      else (
        b_X10_begins_180 x1 x2 x3 x4 x5 x6 (nI 1) σ1)))))
  else (
    if nI 2 < 0 ∨ 1432 ≤ (nI 2).toNatClampNeg then none else (
    if x6 < σ1.1 (30, 0, 0, 0) ((nI 2).toNatClampNeg) then (
      b_X10_begins_180 x1 x2 x3 x4 x5 x6 (nI 0) σ1)
    else (
      b_X10_begins_180 x1 x2 x3 x4 x5 x6 (nI 1) σ1))))) := (EvOf_eq mcode _).trans rfl
set_option maxRecDepth 100000 in
set_option maxHeartbeats 4000000 in
theorem q_X10_begins_180 (x1 : Int32) (x2 : Int32) (x3 : Int32) (x4 : Int32) (x5 : Int32) (x6 : Int32) (t0 : Int32) (σ : mS) : b_X10_begins_180 x1 x2 x3 x4 x5 x6 t0 σ =
  if x3 + (nI 0) < 0 ∨ 1432 ≤ (x3 + (nI 0)).toNatClampNeg then none else (
  let σ1 := st σ (30, 0, 0, 0) ((x3 + (nI 0)).toNatClampNeg) (nI 1);
  if x3 + (nI 1) < 0 ∨ 1432 ≤ (x3 + (nI 1)).toNatClampNeg then none else (
  let σ2 := st σ1 (30, 0, 0, 0) ((x3 + (nI 1)).toNatClampNeg) x4;
  if x3 + (nI 2) < 0 ∨ 1432 ≤ (x3 + (nI 2)).toNatClampNeg then none else (
  let σ3 := st σ2 (30, 0, 0, 0) ((x3 + (nI 2)).toNatClampNeg) x2;
  if x3 + (nI 3) < 0 ∨ 1432 ≤ (x3 + (nI 3)).toNatClampNeg then none else (
  let σ4 := st σ3 (30, 0, 0, 0) ((x3 + (nI 3)).toNatClampNeg) x5;
  if t0 = 0 then (
    if x3 + (nI 4) < 0 ∨ 1432 ≤ (x3 + (nI 4)).toNatClampNeg then none else (
    let σ5 := st σ4 (30, 0, 0, 0) ((x3 + (nI 4)).toNatClampNeg) (nI 2);
    if x3 + (nI 5) < 0 ∨ 1432 ≤ (x3 + (nI 5)).toNatClampNeg then none else (
    let σ6 := st σ5 (30, 0, 0, 0) ((x3 + (nI 5)).toNatClampNeg) x6;
    if x3 + (nI 11) < 0 ∨ 1432 ≤ (x3 + (nI 11)).toNatClampNeg then none else (
    if x3 + (nI 8) < 0 ∨ 1432 ≤ (x3 + (nI 8)).toNatClampNeg then none else (
    let σ7 := st σ6 (30, 0, 0, 0) ((x3 + (nI 8)).toNatClampNeg) (σ6.1 (30, 0, 0, 0) ((x3 + (nI 11)).toNatClampNeg));
    if x3 + (nI 9) < 0 ∨ 1432 ≤ (x3 + (nI 9)).toNatClampNeg then none else (
    let σ8 := st σ7 (30, 0, 0, 0) ((x3 + (nI 9)).toNatClampNeg) (nI 1);
    if nI 1 < 0 ∨ 1432 ≤ (nI 1).toNatClampNeg then none else (
    if t0 = 0 then (
      if x3 + (nI 10) < 0 ∨ 1432 ≤ (x3 + (nI 10)).toNatClampNeg then none else (
      let σ9 := st σ8 (30, 0, 0, 0) ((x3 + (nI 10)).toNatClampNeg) ((((σ8.1 (30, 0, 0, 0) ((nI 1).toNatClampNeg)) + (nI 0)) + x6) + (nI 1));
      bdV (e_X10_had x1 (nI 3) (nI 1) σ9) (fun σ10 =>
      if nI 1341 < 0 ∨ 1432 ≤ (nI 1341).toNatClampNeg then none else (
      if nI 1341 < 0 ∨ 1432 ≤ (nI 1341).toNatClampNeg then none else (
      let σ11 := st σ10 (30, 0, 0, 0) ((nI 1341).toNatClampNeg) ((σ10.1 (30, 0, 0, 0) ((nI 1341).toNatClampNeg)) ||| ((nI 1) <<< (x1 &&& 31)));
      some (some none, σ11))))))
    else (
      if x3 + (nI 10) < 0 ∨ 1432 ≤ (x3 + (nI 10)).toNatClampNeg then none else (
      let σ12 := st σ8 (30, 0, 0, 0) ((x3 + (nI 10)).toNatClampNeg) ((((σ8.1 (30, 0, 0, 0) ((nI 1).toNatClampNeg)) + (nI 2)) + x6) + (nI 1));
      bdV (e_X10_had x1 (nI 3) (nI 1) σ12) (fun σ13 =>
      if nI 1341 < 0 ∨ 1432 ≤ (nI 1341).toNatClampNeg then none else (
      if nI 1341 < 0 ∨ 1432 ≤ (nI 1341).toNatClampNeg then none else (
      let σ14 := st σ13 (30, 0, 0, 0) ((nI 1341).toNatClampNeg) ((σ13.1 (30, 0, 0, 0) ((nI 1341).toNatClampNeg)) ||| ((nI 1) <<< (x1 &&& 31)));
      some (some none, σ14)))))))))))))
  else (
    if x3 + (nI 4) < 0 ∨ 1432 ≤ (x3 + (nI 4)).toNatClampNeg then none else (
    let σ15 := st σ4 (30, 0, 0, 0) ((x3 + (nI 4)).toNatClampNeg) (nI 0);
    if x3 + (nI 5) < 0 ∨ 1432 ≤ (x3 + (nI 5)).toNatClampNeg then none else (
    let σ16 := st σ15 (30, 0, 0, 0) ((x3 + (nI 5)).toNatClampNeg) x6;
    if x3 + (nI 11) < 0 ∨ 1432 ≤ (x3 + (nI 11)).toNatClampNeg then none else (
    if x3 + (nI 8) < 0 ∨ 1432 ≤ (x3 + (nI 8)).toNatClampNeg then none else (
    let σ17 := st σ16 (30, 0, 0, 0) ((x3 + (nI 8)).toNatClampNeg) (σ16.1 (30, 0, 0, 0) ((x3 + (nI 11)).toNatClampNeg));
    if x3 + (nI 9) < 0 ∨ 1432 ≤ (x3 + (nI 9)).toNatClampNeg then none else (
    let σ18 := st σ17 (30, 0, 0, 0) ((x3 + (nI 9)).toNatClampNeg) (nI 1);
    if nI 1 < 0 ∨ 1432 ≤ (nI 1).toNatClampNeg then none else (
    if t0 = 0 then (
      if x3 + (nI 10) < 0 ∨ 1432 ≤ (x3 + (nI 10)).toNatClampNeg then none else (
      let σ19 := st σ18 (30, 0, 0, 0) ((x3 + (nI 10)).toNatClampNeg) ((((σ18.1 (30, 0, 0, 0) ((nI 1).toNatClampNeg)) + (nI 0)) + x6) + (nI 1));
      bdV (e_X10_had x1 (nI 3) (nI 1) σ19) (fun σ20 =>
      if nI 1341 < 0 ∨ 1432 ≤ (nI 1341).toNatClampNeg then none else (
      if nI 1341 < 0 ∨ 1432 ≤ (nI 1341).toNatClampNeg then none else (
      let σ21 := st σ20 (30, 0, 0, 0) ((nI 1341).toNatClampNeg) ((σ20.1 (30, 0, 0, 0) ((nI 1341).toNatClampNeg)) ||| ((nI 1) <<< (x1 &&& 31)));
      some (some none, σ21))))))
    else (
      if x3 + (nI 10) < 0 ∨ 1432 ≤ (x3 + (nI 10)).toNatClampNeg then none else (
      let σ22 := st σ18 (30, 0, 0, 0) ((x3 + (nI 10)).toNatClampNeg) ((((σ18.1 (30, 0, 0, 0) ((nI 1).toNatClampNeg)) + (nI 2)) + x6) + (nI 1));
      bdV (e_X10_had x1 (nI 3) (nI 1) σ22) (fun σ23 =>
      if nI 1341 < 0 ∨ 1432 ≤ (nI 1341).toNatClampNeg then none else (
      if nI 1341 < 0 ∨ 1432 ≤ (nI 1341).toNatClampNeg then none else (
      let σ24 := st σ23 (30, 0, 0, 0) ((nI 1341).toNatClampNeg) ((σ23.1 (30, 0, 0, 0) ((nI 1341).toNatClampNeg)) ||| ((nI 1) <<< (x1 &&& 31)));
      some (some none, σ24))))))))))))))))) := (EvOf_eq mcode _).trans rfl
set_option maxRecDepth 100000 in
set_option maxHeartbeats 4000000 in
theorem q_X10_stepBegin (σ : mS) : e_X10_stepBegin σ =
  if nI 1341 < 0 ∨ 1432 ≤ (nI 1341).toNatClampNeg then none else (
  let σ1 := st σ (30, 0, 0, 0) ((nI 1341).toNatClampNeg) (nI 0);
  if nI 1331 < 0 ∨ 1432 ≤ (nI 1331).toNatClampNeg then none else (
  let σ2 := st σ1 (30, 0, 0, 0) ((nI 1331).toNatClampNeg) (nI 0);
  b_X10_stepBegin_20 (nI 0) σ2)) := (EvOf_eq mcode _).trans rfl
set_option maxRecDepth 100000 in
set_option maxHeartbeats 4000000 in
theorem q_X10_stepBegin_20 (x1 : Int32) (σ : mS) : b_X10_stepBegin_20 x1 σ =
  if nI 0 < 0 ∨ 1432 ≤ (nI 0).toNatClampNeg then none else (
  if x1 < σ.1 (30, 0, 0, 0) ((nI 0).toNatClampNeg) then (
    if x1 < 0 ∨ 6 ≤ x1.toNatClampNeg then none else (
    let σ1 := st σ (34, 0, 0, 0) x1.toNatClampNeg (-1);
    if x1 < 0 ∨ 6 ≤ x1.toNatClampNeg then none else (
    let σ2 := st σ1 (35, 0, 0, 0) x1.toNatClampNeg (nI 0);
    if nI 1 < 0 ∨ 1432 ≤ (nI 1).toNatClampNeg then none else (
    if (nI 129) + x1 < 0 ∨ 1432 ≤ ((nI 129) + x1).toNatClampNeg then none else (
    if σ2.1 (30, 0, 0, 0) ((nI 1).toNatClampNeg) < σ2.1 (30, 0, 0, 0) (((nI 129) + x1).toNatClampNeg) then (
      if nI 1331 < 0 ∨ 1432 ≤ (nI 1331).toNatClampNeg then none else (
      if nI 1331 < 0 ∨ 1432 ≤ (nI 1331).toNatClampNeg then none else (
      let σ3 := st σ2 (30, 0, 0, 0) ((nI 1331).toNatClampNeg) ((σ2.1 (30, 0, 0, 0) ((nI 1331).toNatClampNeg)) ||| ((nI 1) <<< (x1 &&& 31)));
      b_X10_stepBegin_20 (x1 + 1) σ3)))
    else (
      b_X10_stepBegin_20 (x1 + 1) σ2))))))
  else (
    b_X10_stepBegin_85 (nI 0) σ)) := (EvOf_eq mcode _).trans rfl
set_option maxRecDepth 100000 in
set_option maxHeartbeats 4000000 in
theorem q_X10_stepBegin_85 (x1 : Int32) (σ : mS) : b_X10_stepBegin_85 x1 σ =
  if nI 0 < 0 ∨ 1432 ≤ (nI 0).toNatClampNeg then none else (
  if x1 < σ.1 (30, 0, 0, 0) ((nI 0).toNatClampNeg) then (
    bdI (e_X10_isFree x1 σ) (fun v2 σ1 =>
    if v2 = 0 then (
      b_X10_stepBegin_85 (x1 + 1) σ1)
    else (
      if nI 1331 < 0 ∨ 1432 ≤ (nI 1331).toNatClampNeg then none else (
      bdI (e_X10_has (σ1.1 (30, 0, 0, 0) ((nI 1331).toNatClampNeg)) x1 σ1) (fun v4 σ3 =>
      if v4 = 0 then (
        b_X10_stepBegin_125 x1 (nI 0) (nI 0) σ3)
      else (
        b_X10_stepBegin_85 (x1 + 1) σ3))))))
  else (
    some (some none, σ))) := (EvOf_eq mcode _).trans rfl
set_option maxRecDepth 100000 in
set_option maxHeartbeats 4000000 in
theorem q_X10_stepBegin_125 (x1 : Int32) (x2 : Int32) (x3 : Int32) (σ : mS) : b_X10_stepBegin_125 x1 x2 x3 σ =
  if x3 < nI 4 then (
    bdI (e_X10_isReady x1 x3 σ) (fun v2 σ1 =>
    if v2 = 0 then (
      b_X10_stepBegin_125 x1 x2 (x3 + 1) σ1)
    else (
      if x2 = 0 then (
        bdV (e_X10_begins x1 x3 σ1) (fun σ3 =>
        b_X10_stepBegin_125 x1 (nI 1) (x3 + 1) σ3))
      else (
        bdV (e_X10_fails x1 x3 σ1) (fun σ4 =>
        bdV (e_X10_had x1 (nI 6) (nI 1) σ4) (fun σ5 =>
        if nI 1339 < 0 ∨ 1432 ≤ (nI 1339).toNatClampNeg then none else (
        if nI 1339 < 0 ∨ 1432 ≤ (nI 1339).toNatClampNeg then none else (
        let σ6 := st σ5 (30, 0, 0, 0) ((nI 1339).toNatClampNeg) ((σ5.1 (30, 0, 0, 0) ((nI 1339).toNatClampNeg)) + (nI 1));
        b_X10_stepBegin_125 x1 (nI 1) (x3 + 1) σ6))))))))
  else (
    b_X10_stepBegin_85 (x1 + 1) σ) := (EvOf_eq mcode _).trans rfl
set_option maxRecDepth 100000 in
set_option maxHeartbeats 4000000 in
theorem q_X10_stepSend (σ : mS) : e_X10_stepSend σ =
  let σ1 := st σ (10, 0, 0, 0) 12 (nI 0);
  b_X10_stepSend_9 (nI 0) (nI 0) σ1 := (EvOf_eq mcode _).trans rfl
set_option maxRecDepth 100000 in
set_option maxHeartbeats 4000000 in
theorem q_X10_stepSend_9 (x1 : Int32) (x2 : Int32) (σ : mS) : b_X10_stepSend_9 x1 x2 σ =
  if nI 0 < 0 ∨ 1432 ≤ (nI 0).toNatClampNeg then none else (
  if x2 < σ.1 (30, 0, 0, 0) ((nI 0).toNatClampNeg) then (
    bdI (e_X10_exchangeAt x2 σ) (fun v2 σ1 =>
    if v2 + (nI 0) < 0 ∨ 1432 ≤ (v2 + (nI 0)).toNatClampNeg then none else (
    if σ1.1 (30, 0, 0, 0) ((v2 + (nI 0)).toNatClampNeg) = nI 1 then (
      if v2 + (nI 4) < 0 ∨ 1432 ≤ (v2 + (nI 4)).toNatClampNeg then none else (
      if σ1.1 (30, 0, 0, 0) ((v2 + (nI 4)).toNatClampNeg) = 0 then (
        b_X10_stepSend_78 x1 x2 (nI 1) σ1)
      else (
        if v2 + (nI 4) < 0 ∨ 1432 ≤ (v2 + (nI 4)).toNatClampNeg then none else (
        if σ1.1 (30, 0, 0, 0) ((v2 + (nI 4)).toNatClampNeg) = nI 2 then (
          b_X10_stepSend_78 x1 x2 (nI 1) σ1)
        else (
          if (nI 135) + x2 < 0 ∨ 1432 ≤ ((nI 135) + x2).toNatClampNeg then none else (
          if σ1.1 (30, 0, 0, 0) (((nI 135) + x2).toNatClampNeg) = (-1) then (
            b_X10_stepSend_78 x1 x2 (nI 0) σ1)
          else (
            b_X10_stepSend_78 x1 x2 (nI 1) σ1)))))))
    else (
      if (nI 135) + x2 < 0 ∨ 1432 ≤ ((nI 135) + x2).toNatClampNeg then none else (
      if σ1.1 (30, 0, 0, 0) (((nI 135) + x2).toNatClampNeg) = (-1) then (
        b_X10_stepSend_78 x1 x2 (nI 0) σ1)
      else (
        b_X10_stepSend_78 x1 x2 (nI 1) σ1))))))
  else (
    if nI 1329 < 0 ∨ 1432 ≤ (nI 1329).toNatClampNeg then none else (
    let σ3 := st σ (30, 0, 0, 0) ((nI 1329).toNatClampNeg) (σ.1 (10, 0, 0, 0) 12);
    if nI 1332 < 0 ∨ 1432 ≤ (nI 1332).toNatClampNeg then none else (
    let σ4 := st σ3 (30, 0, 0, 0) ((nI 1332).toNatClampNeg) (nI 1);
    if x1 = 0 then (
      if nI 1334 < 0 ∨ 1432 ≤ (nI 1334).toNatClampNeg then none else (
      if nI 1334 < 0 ∨ 1432 ≤ (nI 1334).toNatClampNeg then none else (
      let σ5 := st σ4 (30, 0, 0, 0) ((nI 1334).toNatClampNeg) ((σ4.1 (30, 0, 0, 0) ((nI 1334).toNatClampNeg)) + (nI 1));
      if nI 1330 < 0 ∨ 1432 ≤ (nI 1330).toNatClampNeg then none else (
      let σ6 := st σ5 (30, 0, 0, 0) ((nI 1330).toNatClampNeg) (nI 0);
      b_X10_stepSend_181 (nI 0) σ6))))
    else (
      if x1 = nI 1 then (
        if nI 1333 < 0 ∨ 1432 ≤ (nI 1333).toNatClampNeg then none else (
        if nI 1333 < 0 ∨ 1432 ≤ (nI 1333).toNatClampNeg then none else (
        let σ7 := st σ4 (30, 0, 0, 0) ((nI 1333).toNatClampNeg) ((σ4.1 (30, 0, 0, 0) ((nI 1333).toNatClampNeg)) + (nI 1));
        if nI 1330 < 0 ∨ 1432 ≤ (nI 1330).toNatClampNeg then none else (
        let σ8 := st σ7 (30, 0, 0, 0) ((nI 1330).toNatClampNeg) (nI 0);
        b_X10_stepSend_181 (nI 0) σ8))))
      else (
        if nI 1335 < 0 ∨ 1432 ≤ (nI 1335).toNatClampNeg then none else (
        if nI 1335 < 0 ∨ 1432 ≤ (nI 1335).toNatClampNeg then none else (
        let σ9 := st σ4 (30, 0, 0, 0) ((nI 1335).toNatClampNeg) ((σ4.1 (30, 0, 0, 0) ((nI 1335).toNatClampNeg)) + (nI 1));
        if nI 1330 < 0 ∨ 1432 ≤ (nI 1330).toNatClampNeg then none else (
        let σ10 := st σ9 (30, 0, 0, 0) ((nI 1330).toNatClampNeg) (nI 0);
        b_X10_stepSend_181 (nI 0) σ10))))))))) := (EvOf_eq mcode _).trans rfl
set_option maxRecDepth 100000 in
set_option maxHeartbeats 4000000 in
theorem q_X10_stepSend_78 (x1 : Int32) (x2 : Int32) (t0 : Int32) (σ : mS) : b_X10_stepSend_78 x1 x2 t0 σ =
  if t0 = 0 then (
    b_X10_stepSend_9 x1 (x2 + 1) σ)
  else (
    let σ1 := st σ (10, 0, 0, 0) 12 ((σ.1 (10, 0, 0, 0) 12) ||| ((nI 1) <<< (x2 &&& 31)));
    bdV (e_X10_had x2 (nI 5) (nI 1) σ1) (fun σ2 =>
    b_X10_stepSend_9 (x1 + 1) (x2 + 1) σ2)) := (EvOf_eq mcode _).trans rfl
set_option maxRecDepth 100000 in
set_option maxHeartbeats 4000000 in
theorem q_X10_stepSend_181 (x2 : Int32) (σ : mS) : b_X10_stepSend_181 x2 σ =
  if nI 0 < 0 ∨ 1432 ≤ (nI 0).toNatClampNeg then none else (
  if x2 < σ.1 (30, 0, 0, 0) ((nI 0).toNatClampNeg) then (
    b_X10_stepSend_193 x2 (nI 0) σ)
  else (
    some (some none, σ))) := (EvOf_eq mcode _).trans rfl
set_option maxRecDepth 100000 in
set_option maxHeartbeats 4000000 in
theorem q_X10_stepSend_193 (x2 : Int32) (x3 : Int32) (σ : mS) : b_X10_stepSend_193 x2 x3 σ =
  if nI 0 < 0 ∨ 1432 ≤ (nI 0).toNatClampNeg then none else (
  if x3 < σ.1 (30, 0, 0, 0) ((nI 0).toNatClampNeg) then (
    bdI (e_X10_isClear x2 x3 σ) (fun v2 σ1 =>
    if v2 = 0 then (
      b_X10_stepSend_193 x2 (x3 + 1) σ1)
    else (
      if nI 1330 < 0 ∨ 1432 ≤ (nI 1330).toNatClampNeg then none else (
      if nI 1330 < 0 ∨ 1432 ≤ (nI 1330).toNatClampNeg then none else (
      let σ3 := st σ1 (30, 0, 0, 0) ((nI 1330).toNatClampNeg) ((σ1.1 (30, 0, 0, 0) ((nI 1330).toNatClampNeg)) ||| ((nI 1) <<< (x2 &&& 31)));
      b_X10_stepSend_193 x2 (x3 + 1) σ3)))))
  else (
    b_X10_stepSend_181 (x2 + 1) σ)) := (EvOf_eq mcode _).trans rfl
set_option maxRecDepth 100000 in
set_option maxHeartbeats 4000000 in
theorem q_X10_hearsOthers (p1 : Int32) (p2 : Int32) (σ : mS) : e_X10_hearsOthers p1 p2 σ =
  b_X10_hearsOthers_2 p1 p2 (nI 0) σ := (EvOf_eq mcode _).trans rfl
set_option maxRecDepth 100000 in
set_option maxHeartbeats 4000000 in
theorem q_X10_hearsOthers_2 (x1 : Int32) (x2 : Int32) (x3 : Int32) (σ : mS) : b_X10_hearsOthers_2 x1 x2 x3 σ =
  if nI 0 < 0 ∨ 1432 ≤ (nI 0).toNatClampNeg then none else (
  if x3 < σ.1 (30, 0, 0, 0) ((nI 0).toNatClampNeg) then (
    if x3 = x2 then (
      b_X10_hearsOthers_2 x1 x2 (x3 + 1) σ)
    else (
      bdI (e_X10_hears x1 x3 σ) (fun v2 σ1 =>
      if v2 = 0 then (
        b_X10_hearsOthers_2 x1 x2 (x3 + 1) σ1)
      else (
        bdI (e_X10_has (σ1.1 (10, 0, 0, 0) 12) x3 σ1) (fun v4 σ3 =>
        if v4 = 0 then (
          b_X10_hearsOthers_2 x1 x2 (x3 + 1) σ3)
        else (
          if nI 1 = 0 ∨ nI 1 = 1 then some (some (some (.inl (nI 1))), σ3) else none))))))
  else (
    if nI 0 = 0 ∨ nI 0 = 1 then some (some (some (.inl (nI 0))), σ) else none)) := (EvOf_eq mcode _).trans rfl
set_option maxRecDepth 100000 in
set_option maxHeartbeats 4000000 in
theorem q_X10_isClear (p1 : Int32) (p2 : Int32) (σ : mS) : e_X10_isClear p1 p2 σ =
  if p2 = p1 then (
    if nI 0 = 0 ∨ nI 0 = 1 then some (some (some (.inl (nI 0))), σ) else none)
  else (
    bdI (e_X10_hears p1 p2 σ) (fun v2 σ1 =>
    if v2 = 0 then (
      if nI 0 = 0 ∨ nI 0 = 1 then some (some (some (.inl (nI 0))), σ1) else none)
    else (
      bdI (e_X10_has (σ1.1 (10, 0, 0, 0) 12) p2 σ1) (fun v4 σ3 =>
      if v4 = 0 then (
        if nI 0 = 0 ∨ nI 0 = 1 then some (some (some (.inl (nI 0))), σ3) else none)
      else (
        bdI (e_X10_has (σ3.1 (10, 0, 0, 0) 12) p1 σ3) (fun v6 σ5 =>
        if v6 = 0 then (
          bdI (e_X10_hearsOthers p1 p2 σ5) (fun v8 σ7 =>
          if v8 = 0 then (
            if nI 1 = 0 ∨ nI 1 = 1 then some (some (some (.inl (nI 1))), σ7) else none)
          else (
            if nI 0 = 0 ∨ nI 0 = 1 then some (some (some (.inl (nI 0))), σ7) else none)))
        else (
          if nI 0 = 0 ∨ nI 0 = 1 then some (some (some (.inl (nI 0))), σ5) else none))))))) := (EvOf_eq mcode _).trans rfl
set_option maxRecDepth 100000 in
set_option maxHeartbeats 4000000 in
theorem q_X10_spans (p1 : Int32) (p2 : Int32) (p3 : Int32) (p4 : Int32) (σ : mS) : e_X10_spans p1 p2 p3 p4 σ =
  b_X10_spans_3 p1 p2 p3 p4 (nI 0) σ := (EvOf_eq mcode _).trans rfl
set_option maxRecDepth 100000 in
set_option maxHeartbeats 4000000 in
theorem q_X10_spans_3 (x1 : Int32) (x2 : Int32) (x3 : Int32) (x4 : Int32) (x5 : Int32) (σ : mS) : b_X10_spans_3 x1 x2 x3 x4 x5 σ =
  if nI 0 < 0 ∨ 1432 ≤ (nI 0).toNatClampNeg then none else (
  if x5 < σ.1 (30, 0, 0, 0) ((nI 0).toNatClampNeg) then (
    if x5 = x2 then (
      b_X10_spans_3 x1 x2 x3 x4 (x5 + 1) σ)
    else (
      bdI (e_X10_isClear x5 x1 σ) (fun v2 σ1 =>
      if v2 = 0 then (
        b_X10_spans_3 x1 x2 x3 x4 (x5 + 1) σ1)
      else (
        if (nI 129) + x5 < 0 ∨ 1432 ≤ ((nI 129) + x5).toNatClampNeg then none else (
        if σ1.1 (30, 0, 0, 0) (((nI 129) + x5).toNatClampNeg) < x3 then (
          if (nI 129) + x5 < 0 ∨ 1432 ≤ ((nI 129) + x5).toNatClampNeg then none else (
          let σ3 := st σ1 (30, 0, 0, 0) (((nI 129) + x5).toNatClampNeg) x3;
          if (nI 1420) + x5 < 0 ∨ 1432 ≤ ((nI 1420) + x5).toNatClampNeg then none else (
          let σ4 := st σ3 (30, 0, 0, 0) (((nI 1420) + x5).toNatClampNeg) x4;
          bdI (e_X10_exchangeAt x4 σ4) (fun v6 σ5 =>
          if v6 + (nI 4) < 0 ∨ 1432 ≤ (v6 + (nI 4)).toNatClampNeg then none else (
          if (nI 1426) + x5 < 0 ∨ 1432 ≤ ((nI 1426) + x5).toNatClampNeg then none else (
          let σ7 := st σ5 (30, 0, 0, 0) (((nI 1426) + x5).toNatClampNeg) (σ5.1 (30, 0, 0, 0) ((v6 + (nI 4)).toNatClampNeg));
          b_X10_spans_3 x1 x2 x3 x4 (x5 + 1) σ7))))))
        else (
          b_X10_spans_3 x1 x2 x3 x4 (x5 + 1) σ1))))))
  else (
    some (some none, σ))) := (EvOf_eq mcode _).trans rfl
set_option maxRecDepth 100000 in
set_option maxHeartbeats 4000000 in
theorem q_X10_owes (p1 : Int32) (p2 : Int32) (p3 : Int32) (σ : mS) : e_X10_owes p1 p2 p3 σ =
  if p1 < 0 ∨ 6 ≤ p1.toNatClampNeg then none else (
  let σ1 := st σ (34, 0, 0, 0) p1.toNatClampNeg p2;
  if p1 < 0 ∨ 6 ≤ p1.toNatClampNeg then none else (
  let σ2 := st σ1 (35, 0, 0, 0) p1.toNatClampNeg p3;
  some (some none, σ2))) := (EvOf_eq mcode _).trans rfl
set_option maxRecDepth 100000 in
set_option maxHeartbeats 4000000 in
theorem q_X10_sendsIt (p1 : Int32) (p2 : Int32) (p3 : Int32) (σ : mS) : e_X10_sendsIt p1 p2 p3 σ =
  if (nI 135) + p1 < 0 ∨ 1432 ≤ ((nI 135) + p1).toNatClampNeg then none else (
  if σ.1 (30, 0, 0, 0) (((nI 135) + p1).toNatClampNeg) = p2 then (
    if (nI 141) + p1 < 0 ∨ 1432 ≤ ((nI 141) + p1).toNatClampNeg then none else (
    if σ.1 (30, 0, 0, 0) (((nI 141) + p1).toNatClampNeg) = p3 then (
      bdI (e_X10_isClear p2 p1 σ) (fun v2 σ1 =>
      if v2 = 0 then (
        if nI 0 = 0 ∨ nI 0 = 1 then some (some (some (.inl (nI 0))), σ1) else none)
      else (
        if nI 1 = 0 ∨ nI 1 = 1 then some (some (some (.inl (nI 1))), σ1) else none)))
    else (
      if nI 0 = 0 ∨ nI 0 = 1 then some (some (some (.inl (nI 0))), σ) else none)))
  else (
    if nI 0 = 0 ∨ nI 0 = 1 then some (some (some (.inl (nI 0))), σ) else none)) := (EvOf_eq mcode _).trans rfl
set_option maxRecDepth 100000 in
set_option maxHeartbeats 4000000 in
theorem q_X10_failsBy (p1 : Int32) (p2 : Int32) (σ : mS) : e_X10_failsBy p1 p2 σ =
  bdI (e_X10_exchangeAt p1 σ) (fun v2 σ1 =>
  if v2 + (nI 0) < 0 ∨ 1432 ≤ (v2 + (nI 0)).toNatClampNeg then none else (
  let σ3 := st σ1 (30, 0, 0, 0) ((v2 + (nI 0)).toNatClampNeg) (nI 0);
  if v2 + (nI 15) < 0 ∨ 1432 ≤ (v2 + (nI 15)).toNatClampNeg then none else (
  if 0 < σ3.1 (30, 0, 0, 0) ((v2 + (nI 15)).toNatClampNeg) then (
    b_X10_failsBy_56 p1 p2 v2 ((nI 1342) + ((nI 3) * p1)) (σ3.1 (30, 0, 0, 0) ((v2 + (nI 15)).toNatClampNeg)) σ3)
  else (
    if p2 = 0 then (
      b_X10_failsBy_56 p1 p2 v2 ((nI 1342) + ((nI 3) * p1)) (nI 4) σ3)
    else (
      b_X10_failsBy_56 p1 p2 v2 ((nI 1342) + ((nI 3) * p1)) (nI 7) σ3))))) := (EvOf_eq mcode _).trans rfl
set_option maxRecDepth 100000 in
set_option maxHeartbeats 4000000 in
theorem q_X10_failsBy_56 (x1 : Int32) (x2 : Int32) (x3 : Int32) (t1 : Int32) (t2 : Int32) (σ : mS) : b_X10_failsBy_56 x1 x2 x3 t1 t2 σ =
  if t1 < 0 ∨ 1432 ≤ t1.toNatClampNeg then none else (
  let σ1 := st σ (30, 0, 0, 0) t1.toNatClampNeg t2;
  if nI 1 < 0 ∨ 1432 ≤ (nI 1).toNatClampNeg then none else (
  if ((nI 1342) + ((nI 3) * x1)) + (nI 1) < 0 ∨ 1432 ≤ (((nI 1342) + ((nI 3) * x1)) + (nI 1)).toNatClampNeg then none else (
  let σ2 := st σ1 (30, 0, 0, 0) ((((nI 1342) + ((nI 3) * x1)) + (nI 1)).toNatClampNeg) (σ1.1 (30, 0, 0, 0) ((nI 1).toNatClampNeg));
  if x3 + (nI 1) < 0 ∨ 1432 ≤ (x3 + (nI 1)).toNatClampNeg then none else (
  if ((nI 1342) + ((nI 3) * x1)) + (nI 2) < 0 ∨ 1432 ≤ (((nI 1342) + ((nI 3) * x1)) + (nI 2)).toNatClampNeg then none else (
  let σ3 := st σ2 (30, 0, 0, 0) ((((nI 1342) + ((nI 3) * x1)) + (nI 2)).toNatClampNeg) (σ2.1 (30, 0, 0, 0) ((x3 + (nI 1)).toNatClampNeg));
  bdV (e_X10_had x1 (nI 4) (nI 1) σ3) (fun σ4 =>
  if nI 1338 < 0 ∨ 1432 ≤ (nI 1338).toNatClampNeg then none else (
  if nI 1338 < 0 ∨ 1432 ≤ (nI 1338).toNatClampNeg then none else (
  let σ5 := st σ4 (30, 0, 0, 0) ((nI 1338).toNatClampNeg) ((σ4.1 (30, 0, 0, 0) ((nI 1338).toNatClampNeg)) + (nI 1));
  if x3 + (nI 2) < 0 ∨ 1432 ≤ (x3 + (nI 2)).toNatClampNeg then none else (
  bdV (e_X10_fails x1 (σ5.1 (30, 0, 0, 0) ((x3 + (nI 2)).toNatClampNeg)) σ5) (fun σ6 =>
  if x2 = 0 then (
    some (some none, σ6))
  else (
    if x3 + (nI 1) < 0 ∨ 1432 ≤ (x3 + (nI 1)).toNatClampNeg then none else (
    if (nI 51) + (((nI 6) * x1) + (σ6.1 (30, 0, 0, 0) ((x3 + (nI 1)).toNatClampNeg))) < 0 ∨ 1432 ≤ ((nI 51) + (((nI 6) * x1) + (σ6.1 (30, 0, 0, 0) ((x3 + (nI 1)).toNatClampNeg)))).toNatClampNeg then none else (
    if (nI 51) + (((nI 6) * x1) + (σ6.1 (30, 0, 0, 0) ((x3 + (nI 1)).toNatClampNeg))) < 0 ∨ 1432 ≤ ((nI 51) + (((nI 6) * x1) + (σ6.1 (30, 0, 0, 0) ((x3 + (nI 1)).toNatClampNeg)))).toNatClampNeg then none else (
    let σ7 := st σ6 (30, 0, 0, 0) (((nI 51) + (((nI 6) * x1) + (σ6.1 (30, 0, 0, 0) ((x3 + (nI 1)).toNatClampNeg)))).toNatClampNeg) (if nI 1 < (σ6.1 (30, 0, 0, 0) (((nI 51) + (((nI 6) * x1) + (σ6.1 (30, 0, 0, 0) ((x3 + (nI 1)).toNatClampNeg)))).toNatClampNeg)) - (nI 1) then (σ6.1 (30, 0, 0, 0) (((nI 51) + (((nI 6) * x1) + (σ6.1 (30, 0, 0, 0) ((x3 + (nI 1)).toNatClampNeg)))).toNatClampNeg)) - (nI 1) else nI 1);
    if (nI 87) + (((nI 6) * x1) + (σ6.1 (30, 0, 0, 0) ((x3 + (nI 1)).toNatClampNeg))) < 0 ∨ 1432 ≤ ((nI 87) + (((nI 6) * x1) + (σ6.1 (30, 0, 0, 0) ((x3 + (nI 1)).toNatClampNeg)))).toNatClampNeg then none else (
    let σ8 := st σ7 (30, 0, 0, 0) (((nI 87) + (((nI 6) * x1) + (σ6.1 (30, 0, 0, 0) ((x3 + (nI 1)).toNatClampNeg)))).toNatClampNeg) (nI 0);
    some (some none, σ8)))))))))))))))) := (EvOf_eq mcode _).trans rfl
set_option maxRecDepth 100000 in
set_option maxHeartbeats 4000000 in
theorem q_X10_stepData (p1 : Int32) (σ : mS) : e_X10_stepData p1 σ =
  bdI (e_X10_exchangeAt p1 σ) (fun v2 σ1 =>
  if v2 + (nI 1) < 0 ∨ 1432 ≤ (v2 + (nI 1)).toNatClampNeg then none else (
  bdI (e_X10_isClear (σ1.1 (30, 0, 0, 0) ((v2 + (nI 1)).toNatClampNeg)) p1 σ1) (fun v4 σ3 =>
  if v4 = 0 then (
    if nI 0 = 0 then (
      if v2 + (nI 9) < 0 ∨ 1432 ≤ (v2 + (nI 9)).toNatClampNeg then none else (
      let σ5 := st σ3 (30, 0, 0, 0) ((v2 + (nI 9)).toNatClampNeg) (nI 0);
      if (nI 1396) + p1 < 0 ∨ 1432 ≤ ((nI 1396) + p1).toNatClampNeg then none else (
      if (nI 1396) + p1 < 0 ∨ 1432 ≤ ((nI 1396) + p1).toNatClampNeg then none else (
      let σ6 := st σ5 (30, 0, 0, 0) (((nI 1396) + p1).toNatClampNeg) ((σ5.1 (30, 0, 0, 0) (((nI 1396) + p1).toNatClampNeg)) + (nI 1));
      b_X10_stepData_85 p1 v2 (σ1.1 (30, 0, 0, 0) ((v2 + (nI 1)).toNatClampNeg)) (nI 0) σ6))))
    else (
      if (nI 1396) + p1 < 0 ∨ 1432 ≤ ((nI 1396) + p1).toNatClampNeg then none else (
      if (nI 1396) + p1 < 0 ∨ 1432 ≤ ((nI 1396) + p1).toNatClampNeg then none else (
      let σ7 := st σ3 (30, 0, 0, 0) (((nI 1396) + p1).toNatClampNeg) ((σ3.1 (30, 0, 0, 0) (((nI 1396) + p1).toNatClampNeg)) + (nI 1));
      b_X10_stepData_85 p1 v2 (σ1.1 (30, 0, 0, 0) ((v2 + (nI 1)).toNatClampNeg)) (nI 0) σ7))))
  else (
    bdI (e_X10_quality p1 (σ1.1 (30, 0, 0, 0) ((v2 + (nI 1)).toNatClampNeg)) σ3) (fun v9 σ8 =>
    if ((nI 51) + ((nI 6) * p1)) + (σ1.1 (30, 0, 0, 0) ((v2 + (nI 1)).toNatClampNeg)) < 0 ∨ 1432 ≤ (((nI 51) + ((nI 6) * p1)) + (σ1.1 (30, 0, 0, 0) ((v2 + (nI 1)).toNatClampNeg))).toNatClampNeg then none else (
    if v9 < σ8.1 (30, 0, 0, 0) ((((nI 51) + ((nI 6) * p1)) + (σ1.1 (30, 0, 0, 0) ((v2 + (nI 1)).toNatClampNeg))).toNatClampNeg) then (
      if nI 0 = 0 then (
        if v2 + (nI 9) < 0 ∨ 1432 ≤ (v2 + (nI 9)).toNatClampNeg then none else (
        let σ10 := st σ8 (30, 0, 0, 0) ((v2 + (nI 9)).toNatClampNeg) (nI 0);
        if (nI 1396) + p1 < 0 ∨ 1432 ≤ ((nI 1396) + p1).toNatClampNeg then none else (
        if (nI 1396) + p1 < 0 ∨ 1432 ≤ ((nI 1396) + p1).toNatClampNeg then none else (
        let σ11 := st σ10 (30, 0, 0, 0) (((nI 1396) + p1).toNatClampNeg) ((σ10.1 (30, 0, 0, 0) (((nI 1396) + p1).toNatClampNeg)) + (nI 1));
        b_X10_stepData_85 p1 v2 (σ1.1 (30, 0, 0, 0) ((v2 + (nI 1)).toNatClampNeg)) (nI 0) σ11))))
      else (
        if (nI 1396) + p1 < 0 ∨ 1432 ≤ ((nI 1396) + p1).toNatClampNeg then none else (
        if (nI 1396) + p1 < 0 ∨ 1432 ≤ ((nI 1396) + p1).toNatClampNeg then none else (
        let σ12 := st σ8 (30, 0, 0, 0) (((nI 1396) + p1).toNatClampNeg) ((σ8.1 (30, 0, 0, 0) (((nI 1396) + p1).toNatClampNeg)) + (nI 1));
        b_X10_stepData_85 p1 v2 (σ1.1 (30, 0, 0, 0) ((v2 + (nI 1)).toNatClampNeg)) (nI 0) σ12))))
    else (
      if nI 1 = 0 then (
        if v2 + (nI 9) < 0 ∨ 1432 ≤ (v2 + (nI 9)).toNatClampNeg then none else (
        let σ13 := st σ8 (30, 0, 0, 0) ((v2 + (nI 9)).toNatClampNeg) (nI 0);
        if (nI 1396) + p1 < 0 ∨ 1432 ≤ ((nI 1396) + p1).toNatClampNeg then none else (
        if (nI 1396) + p1 < 0 ∨ 1432 ≤ ((nI 1396) + p1).toNatClampNeg then none else (
        let σ14 := st σ13 (30, 0, 0, 0) (((nI 1396) + p1).toNatClampNeg) ((σ13.1 (30, 0, 0, 0) (((nI 1396) + p1).toNatClampNeg)) + (nI 1));
        b_X10_stepData_85 p1 v2 (σ1.1 (30, 0, 0, 0) ((v2 + (nI 1)).toNatClampNeg)) (nI 0) σ14))))
      else (
        if (nI 1396) + p1 < 0 ∨ 1432 ≤ ((nI 1396) + p1).toNatClampNeg then none else (
        if (nI 1396) + p1 < 0 ∨ 1432 ≤ ((nI 1396) + p1).toNatClampNeg then none else (
        let σ15 := st σ8 (30, 0, 0, 0) (((nI 1396) + p1).toNatClampNeg) ((σ8.1 (30, 0, 0, 0) (((nI 1396) + p1).toNatClampNeg)) + (nI 1));
        b_X10_stepData_85 p1 v2 (σ1.1 (30, 0, 0, 0) ((v2 + (nI 1)).toNatClampNeg)) (nI 0) σ15)))))))))) := (EvOf_eq mcode _).trans rfl
set_option maxRecDepth 100000 in
set_option maxHeartbeats 4000000 in
theorem q_X10_stepData_85 (x1 : Int32) (x2 : Int32) (x3 : Int32) (x5 : Int32) (σ : mS) : b_X10_stepData_85 x1 x2 x3 x5 σ =
  if nI 0 < 0 ∨ 1432 ≤ (nI 0).toNatClampNeg then none else (
  if x5 < σ.1 (30, 0, 0, 0) ((nI 0).toNatClampNeg) then (
    bdI (e_X10_isClear x3 x1 σ) (fun v2 σ1 =>
    if v2 = 0 then (
      if x5 = x1 then (
        b_X10_stepData_85 x1 x2 x3 (x5 + 1) σ1)
      else (
        bdI (e_X10_hears x3 x5 σ1) (fun v4 σ3 =>
        if v4 = 0 then (
          b_X10_stepData_85 x1 x2 x3 (x5 + 1) σ3)
        else (
          bdI (e_X10_has (σ3.1 (10, 0, 0, 0) 12) x5 σ3) (fun v6 σ5 =>
          if v6 = 0 then (
            b_X10_stepData_85 x1 x2 x3 (x5 + 1) σ5)
          else (
            if ((nI 1360) + ((nI 6) * x1)) + x5 < 0 ∨ 1432 ≤ (((nI 1360) + ((nI 6) * x1)) + x5).toNatClampNeg then none else (
            if ((nI 1360) + ((nI 6) * x1)) + x5 < 0 ∨ 1432 ≤ (((nI 1360) + ((nI 6) * x1)) + x5).toNatClampNeg then none else (
            let σ7 := st σ5 (30, 0, 0, 0) ((((nI 1360) + ((nI 6) * x1)) + x5).toNatClampNeg) ((σ5.1 (30, 0, 0, 0) ((((nI 1360) + ((nI 6) * x1)) + x5).toNatClampNeg)) + (nI 1));
            b_X10_stepData_85 x1 x2 x3 (x5 + 1) σ7))))))))
    else (
      b_X10_stepData_159 x1 x2 x3 σ1)))
  else (
    b_X10_stepData_159 x1 x2 x3 σ)) := (EvOf_eq mcode _).trans rfl
set_option maxRecDepth 100000 in
set_option maxHeartbeats 4000000 in
theorem q_X10_stepData_159 (x1 : Int32) (x2 : Int32) (x3 : Int32) (σ : mS) : b_X10_stepData_159 x1 x2 x3 σ =
  if x2 + (nI 8) < 0 ∨ 1432 ≤ (x2 + (nI 8)).toNatClampNeg then none else (
  if x2 + (nI 8) < 0 ∨ 1432 ≤ (x2 + (nI 8)).toNatClampNeg then none else (
  let σ1 := st σ (30, 0, 0, 0) ((x2 + (nI 8)).toNatClampNeg) ((σ.1 (30, 0, 0, 0) ((x2 + (nI 8)).toNatClampNeg)) - (nI 1));
  if x2 + (nI 5) < 0 ∨ 1432 ≤ (x2 + (nI 5)).toNatClampNeg then none else (
  if x2 + (nI 5) < 0 ∨ 1432 ≤ (x2 + (nI 5)).toNatClampNeg then none else (
  let σ2 := st σ1 (30, 0, 0, 0) ((x2 + (nI 5)).toNatClampNeg) ((σ1.1 (30, 0, 0, 0) ((x2 + (nI 5)).toNatClampNeg)) - (nI 1));
  if x2 + (nI 8) < 0 ∨ 1432 ≤ (x2 + (nI 8)).toNatClampNeg then none else (
  if σ2.1 (30, 0, 0, 0) ((x2 + (nI 8)).toNatClampNeg) = 0 then (
    if x2 + (nI 9) < 0 ∨ 1432 ≤ (x2 + (nI 9)).toNatClampNeg then none else (
    if σ2.1 (30, 0, 0, 0) ((x2 + (nI 9)).toNatClampNeg) = nI 1 then (
      if x2 + (nI 6) < 0 ∨ 1432 ≤ (x2 + (nI 6)).toNatClampNeg then none else (
      if x2 + (nI 7) < 0 ∨ 1432 ≤ (x2 + (nI 7)).toNatClampNeg then none else (
      if x2 + (nI 6) < 0 ∨ 1432 ≤ (x2 + (nI 6)).toNatClampNeg then none else (
      let σ3 := st σ2 (30, 0, 0, 0) ((x2 + (nI 6)).toNatClampNeg) ((σ2.1 (30, 0, 0, 0) ((x2 + (nI 6)).toNatClampNeg)) ||| ((nI 1) <<< ((σ2.1 (30, 0, 0, 0) ((x2 + (nI 7)).toNatClampNeg)) &&& 31)));
      if x2 + (nI 7) < 0 ∨ 1432 ≤ (x2 + (nI 7)).toNatClampNeg then none else (
      if x2 + (nI 7) < 0 ∨ 1432 ≤ (x2 + (nI 7)).toNatClampNeg then none else (
      let σ4 := st σ3 (30, 0, 0, 0) ((x2 + (nI 7)).toNatClampNeg) ((σ3.1 (30, 0, 0, 0) ((x2 + (nI 7)).toNatClampNeg)) + (nI 1));
      if x2 + (nI 9) < 0 ∨ 1432 ≤ (x2 + (nI 9)).toNatClampNeg then none else (
      let σ5 := st σ4 (30, 0, 0, 0) ((x2 + (nI 9)).toNatClampNeg) (nI 1);
      if x2 + (nI 7) < 0 ∨ 1432 ≤ (x2 + (nI 7)).toNatClampNeg then none else (
      if x2 + (nI 3) < 0 ∨ 1432 ≤ (x2 + (nI 3)).toNatClampNeg then none else (
      if σ5.1 (30, 0, 0, 0) ((x2 + (nI 7)).toNatClampNeg) < σ5.1 (30, 0, 0, 0) ((x2 + (nI 3)).toNatClampNeg) then (
        if x2 + (nI 7) < 0 ∨ 1432 ≤ (x2 + (nI 7)).toNatClampNeg then none else (
        if (x2 + (nI 11)) + (σ5.1 (30, 0, 0, 0) ((x2 + (nI 7)).toNatClampNeg)) < 0 ∨ 1432 ≤ ((x2 + (nI 11)) + (σ5.1 (30, 0, 0, 0) ((x2 + (nI 7)).toNatClampNeg))).toNatClampNeg then none else (
        if x2 + (nI 8) < 0 ∨ 1432 ≤ (x2 + (nI 8)).toNatClampNeg then none else (
        let σ6 := st σ5 (30, 0, 0, 0) ((x2 + (nI 8)).toNatClampNeg) (σ5.1 (30, 0, 0, 0) (((x2 + (nI 11)) + (σ5.1 (30, 0, 0, 0) ((x2 + (nI 7)).toNatClampNeg))).toNatClampNeg));
        b_X10_stepData_307 x1 x2 x3 σ6))))
      else (
        if x2 + (nI 8) < 0 ∨ 1432 ≤ (x2 + (nI 8)).toNatClampNeg then none else (
        let σ7 := st σ5 (30, 0, 0, 0) ((x2 + (nI 8)).toNatClampNeg) (nI 0);
        b_X10_stepData_307 x1 x2 x3 σ7)))))))))))
    else (
      if x2 + (nI 7) < 0 ∨ 1432 ≤ (x2 + (nI 7)).toNatClampNeg then none else (
      if x2 + (nI 7) < 0 ∨ 1432 ≤ (x2 + (nI 7)).toNatClampNeg then none else (
      let σ8 := st σ2 (30, 0, 0, 0) ((x2 + (nI 7)).toNatClampNeg) ((σ2.1 (30, 0, 0, 0) ((x2 + (nI 7)).toNatClampNeg)) + (nI 1));
      if x2 + (nI 9) < 0 ∨ 1432 ≤ (x2 + (nI 9)).toNatClampNeg then none else (
      let σ9 := st σ8 (30, 0, 0, 0) ((x2 + (nI 9)).toNatClampNeg) (nI 1);
      if x2 + (nI 7) < 0 ∨ 1432 ≤ (x2 + (nI 7)).toNatClampNeg then none else (
      if x2 + (nI 3) < 0 ∨ 1432 ≤ (x2 + (nI 3)).toNatClampNeg then none else (
      if σ9.1 (30, 0, 0, 0) ((x2 + (nI 7)).toNatClampNeg) < σ9.1 (30, 0, 0, 0) ((x2 + (nI 3)).toNatClampNeg) then (
        if x2 + (nI 7) < 0 ∨ 1432 ≤ (x2 + (nI 7)).toNatClampNeg then none else (
        if (x2 + (nI 11)) + (σ9.1 (30, 0, 0, 0) ((x2 + (nI 7)).toNatClampNeg)) < 0 ∨ 1432 ≤ ((x2 + (nI 11)) + (σ9.1 (30, 0, 0, 0) ((x2 + (nI 7)).toNatClampNeg))).toNatClampNeg then none else (
        if x2 + (nI 8) < 0 ∨ 1432 ≤ (x2 + (nI 8)).toNatClampNeg then none else (
        let σ10 := st σ9 (30, 0, 0, 0) ((x2 + (nI 8)).toNatClampNeg) (σ9.1 (30, 0, 0, 0) (((x2 + (nI 11)) + (σ9.1 (30, 0, 0, 0) ((x2 + (nI 7)).toNatClampNeg))).toNatClampNeg));
        b_X10_stepData_307 x1 x2 x3 σ10))))
      else (
        if x2 + (nI 8) < 0 ∨ 1432 ≤ (x2 + (nI 8)).toNatClampNeg then none else (
        let σ11 := st σ9 (30, 0, 0, 0) ((x2 + (nI 8)).toNatClampNeg) (nI 0);
        b_X10_stepData_307 x1 x2 x3 σ11))))))))))
  else (
    b_X10_stepData_307 x1 x2 x3 σ2)))))) := (EvOf_eq mcode _).trans rfl
set_option maxRecDepth 100000 in
set_option maxHeartbeats 4000000 in
theorem q_X10_stepData_307 (x1 : Int32) (x2 : Int32) (x3 : Int32) (σ : mS) : b_X10_stepData_307 x1 x2 x3 σ =
  if x2 + (nI 5) < 0 ∨ 1432 ≤ (x2 + (nI 5)).toNatClampNeg then none else (
  if 0 < σ.1 (30, 0, 0, 0) ((x2 + (nI 5)).toNatClampNeg) then (
    some (some none, σ))
  else (
    if nI 1 < 0 ∨ 1432 ≤ (nI 1).toNatClampNeg then none else (
    bdV (e_X10_spans x1 x3 ((σ.1 (30, 0, 0, 0) ((nI 1).toNatClampNeg)) + (nI 2)) x1 σ) (fun σ1 =>
    if x2 + (nI 6) < 0 ∨ 1432 ≤ (x2 + (nI 6)).toNatClampNeg then none else (
    if σ1.1 (30, 0, 0, 0) ((x2 + (nI 6)).toNatClampNeg) = 0 then (
      if x2 + (nI 15) < 0 ∨ 1432 ≤ (x2 + (nI 15)).toNatClampNeg then none else (
      let σ2 := st σ1 (30, 0, 0, 0) ((x2 + (nI 15)).toNatClampNeg) (nI 5);
      if x2 + (nI 15) < 0 ∨ 1432 ≤ (x2 + (nI 15)).toNatClampNeg then none else (
      if σ2.1 (30, 0, 0, 0) ((x2 + (nI 15)).toNatClampNeg) = 0 then (
        bdV (e_X10_owes x3 x1 (nI 2) σ2) (fun σ3 =>
        if x2 + (nI 4) < 0 ∨ 1432 ≤ (x2 + (nI 4)).toNatClampNeg then none else (
        let σ4 := st σ3 (30, 0, 0, 0) ((x2 + (nI 4)).toNatClampNeg) (nI 3);
        some (some none, σ4))))
      else (
        if x2 + (nI 4) < 0 ∨ 1432 ≤ (x2 + (nI 4)).toNatClampNeg then none else (
        let σ5 := st σ2 (30, 0, 0, 0) ((x2 + (nI 4)).toNatClampNeg) (nI 3);
        some (some none, σ5))))))
    else (
      bdI (e_X10_isFree x3 σ1) (fun v7 σ6 =>
      if v7 = 0 then (
        if x2 + (nI 15) < 0 ∨ 1432 ≤ (x2 + (nI 15)).toNatClampNeg then none else (
        let σ8 := st σ6 (30, 0, 0, 0) ((x2 + (nI 15)).toNatClampNeg) (nI 6);
        if x2 + (nI 15) < 0 ∨ 1432 ≤ (x2 + (nI 15)).toNatClampNeg then none else (
        if σ8.1 (30, 0, 0, 0) ((x2 + (nI 15)).toNatClampNeg) = 0 then (
          bdV (e_X10_owes x3 x1 (nI 2) σ8) (fun σ9 =>
          if x2 + (nI 4) < 0 ∨ 1432 ≤ (x2 + (nI 4)).toNatClampNeg then none else (
          let σ10 := st σ9 (30, 0, 0, 0) ((x2 + (nI 4)).toNatClampNeg) (nI 3);
          some (some none, σ10))))
        else (
          if x2 + (nI 4) < 0 ∨ 1432 ≤ (x2 + (nI 4)).toNatClampNeg then none else (
          let σ11 := st σ8 (30, 0, 0, 0) ((x2 + (nI 4)).toNatClampNeg) (nI 3);
          some (some none, σ11))))))
      else (
        if x2 + (nI 15) < 0 ∨ 1432 ≤ (x2 + (nI 15)).toNatClampNeg then none else (
        let σ12 := st σ6 (30, 0, 0, 0) ((x2 + (nI 15)).toNatClampNeg) (nI 0);
        if x2 + (nI 15) < 0 ∨ 1432 ≤ (x2 + (nI 15)).toNatClampNeg then none else (
        if σ12.1 (30, 0, 0, 0) ((x2 + (nI 15)).toNatClampNeg) = 0 then (
          bdV (e_X10_owes x3 x1 (nI 2) σ12) (fun σ13 =>
          if x2 + (nI 4) < 0 ∨ 1432 ≤ (x2 + (nI 4)).toNatClampNeg then none else (
          let σ14 := st σ13 (30, 0, 0, 0) ((x2 + (nI 4)).toNatClampNeg) (nI 3);
          some (some none, σ14))))
        else (
          if x2 + (nI 4) < 0 ∨ 1432 ≤ (x2 + (nI 4)).toNatClampNeg then none else (
          let σ15 := st σ12 (30, 0, 0, 0) ((x2 + (nI 4)).toNatClampNeg) (nI 3);
          some (some none, σ15))))))))))))) := (EvOf_eq mcode _).trans rfl

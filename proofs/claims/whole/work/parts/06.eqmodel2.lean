/-! What each block comes to (by program out of the mini-code) -/
set_option maxRecDepth 100000 in
set_option maxHeartbeats 4000000 in
theorem q_X10_delivers (p1 : Int32) (σ : mS) : e_X10_delivers p1 σ =
  bdI (e_X10_exchangeAt p1 σ) (fun v2 σ1 =>
  if v2 + (nI 2) < 0 ∨ 1432 ≤ (v2 + (nI 2)).toNatClampNeg then none else (
  b_X10_delivers_20 p1 v2 (σ1.1 (30, 0, 0, 0) ((v2 + (nI 2)).toNatClampNeg)) (nI 0) (nI 0) σ1)) := (EvOf_eq mcode _).trans rfl
set_option maxRecDepth 100000 in
set_option maxHeartbeats 4000000 in
theorem q_X10_delivers_20 (x1 : Int32) (x2 : Int32) (x3 : Int32) (x4 : Int32) (x5 : Int32) (σ : mS) : b_X10_delivers_20 x1 x2 x3 x4 x5 σ =
  if x2 + (nI 3) < 0 ∨ 1432 ≤ (x2 + (nI 3)).toNatClampNeg then none else (
  if x5 < σ.1 (30, 0, 0, 0) ((x2 + (nI 3)).toNatClampNeg) then (
    bdI (e_X10_frameAt x1 x3 x4 σ) (fun v2 σ1 =>
    if x2 + (nI 6) < 0 ∨ 1432 ≤ (x2 + (nI 6)).toNatClampNeg then none else (
    bdI (e_X10_has (σ1.1 (30, 0, 0, 0) ((x2 + (nI 6)).toNatClampNeg)) x5 σ1) (fun v4 σ3 =>
    if v4 = 0 then (
      if v2 + (nI 2) < 0 ∨ 1432 ≤ (v2 + (nI 2)).toNatClampNeg then none else (
      if v2 + (nI 2) < 0 ∨ 1432 ≤ (v2 + (nI 2)).toNatClampNeg then none else (
      let σ5 := st σ3 (30, 0, 0, 0) ((v2 + (nI 2)).toNatClampNeg) ((σ3.1 (30, 0, 0, 0) ((v2 + (nI 2)).toNatClampNeg)) + (nI 1));
      if v2 + (nI 2) < 0 ∨ 1432 ≤ (v2 + (nI 2)).toNatClampNeg then none else (
      if nI 4 < 0 ∨ 1432 ≤ (nI 4).toNatClampNeg then none else (
      if σ5.1 (30, 0, 0, 0) ((v2 + (nI 2)).toNatClampNeg) < σ5.1 (30, 0, 0, 0) ((nI 4).toNatClampNeg) then (
        b_X10_delivers_20 x1 x2 x3 (x4 + 1) (x5 + 1) σ5)
      else (
        bdV (e_X10_isLost x1 x3 x4 σ5) (fun σ6 =>
        b_X10_delivers_20 x1 x2 x3 x4 (x5 + 1) σ6)))))))
    else (
      bdV (e_X10_had x1 (nI 0) (nI 1) σ3) (fun σ7 =>
      if v2 + (nI 1) < 0 ∨ 1432 ≤ (v2 + (nI 1)).toNatClampNeg then none else (
      bdV (e_X10_had x1 (nI 1) (σ7.1 (30, 0, 0, 0) ((v2 + (nI 1)).toNatClampNeg)) σ7) (fun σ8 =>
      if nI 1336 < 0 ∨ 1432 ≤ (nI 1336).toNatClampNeg then none else (
      if nI 1336 < 0 ∨ 1432 ≤ (nI 1336).toNatClampNeg then none else (
      let σ9 := st σ8 (30, 0, 0, 0) ((nI 1336).toNatClampNeg) ((σ8.1 (30, 0, 0, 0) ((nI 1336).toNatClampNeg)) + (nI 1));
      if v2 + (nI 4) < 0 ∨ 1432 ≤ (v2 + (nI 4)).toNatClampNeg then none else (
      if σ9.1 (30, 0, 0, 0) ((v2 + (nI 4)).toNatClampNeg) = nI 1 then (
        if nI 1340 < 0 ∨ 1432 ≤ (nI 1340).toNatClampNeg then none else (
        let σ10 := st σ9 (30, 0, 0, 0) ((nI 1340).toNatClampNeg) (nI 1);
        b_X10_delivers_115 x1 x2 x3 x4 x5 v2 σ10))
      else (
        b_X10_delivers_115 x1 x2 x3 x4 x5 v2 σ9))))))))))))
  else (
    if x2 + (nI 0) < 0 ∨ 1432 ≤ (x2 + (nI 0)).toNatClampNeg then none else (
    let σ11 := st σ (30, 0, 0, 0) ((x2 + (nI 0)).toNatClampNeg) (nI 0);
    bdI (e_X10_at x1 x3 σ11) (fun v13 σ12 =>
    if (nI 9) + x3 < 0 ∨ 1432 ≤ ((nI 9) + x3).toNatClampNeg then none else (
    if (nI 1131) + v13 < 0 ∨ 1432 ≤ ((nI 1131) + v13).toNatClampNeg then none else (
    let σ14 := st σ12 (30, 0, 0, 0) (((nI 1131) + v13).toNatClampNeg) (σ12.1 (30, 0, 0, 0) (((nI 9) + x3).toNatClampNeg));
    bdV (e_X10_drawsCount x1 x3 σ14) (fun σ15 =>
    if x2 + (nI 1) < 0 ∨ 1432 ≤ (x2 + (nI 1)).toNatClampNeg then none else (
    if (nI 87) + (((nI 6) * x1) + (σ15.1 (30, 0, 0, 0) ((x2 + (nI 1)).toNatClampNeg))) < 0 ∨ 1432 ≤ ((nI 87) + (((nI 6) * x1) + (σ15.1 (30, 0, 0, 0) ((x2 + (nI 1)).toNatClampNeg)))).toNatClampNeg then none else (
    if (nI 87) + (((nI 6) * x1) + (σ15.1 (30, 0, 0, 0) ((x2 + (nI 1)).toNatClampNeg))) < 0 ∨ 1432 ≤ ((nI 87) + (((nI 6) * x1) + (σ15.1 (30, 0, 0, 0) ((x2 + (nI 1)).toNatClampNeg)))).toNatClampNeg then none else (
    let σ16 := st σ15 (30, 0, 0, 0) (((nI 87) + (((nI 6) * x1) + (σ15.1 (30, 0, 0, 0) ((x2 + (nI 1)).toNatClampNeg)))).toNatClampNeg) ((σ15.1 (30, 0, 0, 0) (((nI 87) + (((nI 6) * x1) + (σ15.1 (30, 0, 0, 0) ((x2 + (nI 1)).toNatClampNeg)))).toNatClampNeg)) + (nI 1));
    if (nI 87) + (((nI 6) * x1) + (σ15.1 (30, 0, 0, 0) ((x2 + (nI 1)).toNatClampNeg))) < 0 ∨ 1432 ≤ ((nI 87) + (((nI 6) * x1) + (σ15.1 (30, 0, 0, 0) ((x2 + (nI 1)).toNatClampNeg)))).toNatClampNeg then none else (
    if σ16.1 (30, 0, 0, 0) (((nI 87) + (((nI 6) * x1) + (σ15.1 (30, 0, 0, 0) ((x2 + (nI 1)).toNatClampNeg)))).toNatClampNeg) < nI 3 then (
      some (some none, σ16))
    else (
      if (nI 51) + (((nI 6) * x1) + (σ15.1 (30, 0, 0, 0) ((x2 + (nI 1)).toNatClampNeg))) < 0 ∨ 1432 ≤ ((nI 51) + (((nI 6) * x1) + (σ15.1 (30, 0, 0, 0) ((x2 + (nI 1)).toNatClampNeg)))).toNatClampNeg then none else (
      if (nI 51) + (((nI 6) * x1) + (σ15.1 (30, 0, 0, 0) ((x2 + (nI 1)).toNatClampNeg))) < 0 ∨ 1432 ≤ ((nI 51) + (((nI 6) * x1) + (σ15.1 (30, 0, 0, 0) ((x2 + (nI 1)).toNatClampNeg)))).toNatClampNeg then none else (
      let σ17 := st σ16 (30, 0, 0, 0) (((nI 51) + (((nI 6) * x1) + (σ15.1 (30, 0, 0, 0) ((x2 + (nI 1)).toNatClampNeg)))).toNatClampNeg) (if (σ16.1 (30, 0, 0, 0) (((nI 51) + (((nI 6) * x1) + (σ15.1 (30, 0, 0, 0) ((x2 + (nI 1)).toNatClampNeg)))).toNatClampNeg)) + (nI 1) < nI 3 then (σ16.1 (30, 0, 0, 0) (((nI 51) + (((nI 6) * x1) + (σ15.1 (30, 0, 0, 0) ((x2 + (nI 1)).toNatClampNeg)))).toNatClampNeg)) + (nI 1) else nI 3);
      if (nI 87) + (((nI 6) * x1) + (σ15.1 (30, 0, 0, 0) ((x2 + (nI 1)).toNatClampNeg))) < 0 ∨ 1432 ≤ ((nI 87) + (((nI 6) * x1) + (σ15.1 (30, 0, 0, 0) ((x2 + (nI 1)).toNatClampNeg)))).toNatClampNeg then none else (
      let σ18 := st σ17 (30, 0, 0, 0) (((nI 87) + (((nI 6) * x1) + (σ15.1 (30, 0, 0, 0) ((x2 + (nI 1)).toNatClampNeg)))).toNatClampNeg) (nI 0);
      some (some none, σ18)))))))))))))))) := (EvOf_eq mcode _).trans rfl
set_option maxRecDepth 100000 in
set_option maxHeartbeats 4000000 in
theorem q_X10_delivers_115 (x1 : Int32) (x2 : Int32) (x3 : Int32) (x4 : Int32) (x5 : Int32) (x6 : Int32) (σ : mS) : b_X10_delivers_115 x1 x2 x3 x4 x5 x6 σ =
  if nI 1 < 0 ∨ 1432 ≤ (nI 1).toNatClampNeg then none else (
  if x6 + (nI 3) < 0 ∨ 1432 ≤ (x6 + (nI 3)).toNatClampNeg then none else (
  bdV (e_X10_had x1 (nI 7) (((σ.1 (30, 0, 0, 0) ((nI 1).toNatClampNeg)) - (σ.1 (30, 0, 0, 0) ((x6 + (nI 3)).toNatClampNeg))) + (nI 1)) σ) (fun σ1 =>
  if ((nI 1275) + ((nI 9) * x1)) + (nI 8) < 0 ∨ 1432 ≤ (((nI 1275) + ((nI 9) * x1)) + (nI 8)).toNatClampNeg then none else (
  if ((nI 1275) + ((nI 9) * x1)) + (nI 8) < 0 ∨ 1432 ≤ (((nI 1275) + ((nI 9) * x1)) + (nI 8)).toNatClampNeg then none else (
  let σ2 := st σ1 (30, 0, 0, 0) ((((nI 1275) + ((nI 9) * x1)) + (nI 8)).toNatClampNeg) (if σ1.1 (30, 0, 0, 0) ((((nI 1275) + ((nI 9) * x1)) + (nI 8)).toNatClampNeg) < ((σ.1 (30, 0, 0, 0) ((nI 1).toNatClampNeg)) - (σ.1 (30, 0, 0, 0) ((x6 + (nI 3)).toNatClampNeg))) + (nI 1) then ((σ.1 (30, 0, 0, 0) ((nI 1).toNatClampNeg)) - (σ.1 (30, 0, 0, 0) ((x6 + (nI 3)).toNatClampNeg))) + (nI 1) else σ1.1 (30, 0, 0, 0) ((((nI 1275) + ((nI 9) * x1)) + (nI 8)).toNatClampNeg));
  bdV (e_X10_leaves x1 x3 x4 σ2) (fun σ3 =>
  b_X10_delivers_20 x1 x2 x3 x4 (x5 + 1) σ3)))))) := (EvOf_eq mcode _).trans rfl
set_option maxRecDepth 100000 in
set_option maxHeartbeats 4000000 in
theorem q_X10_stepSender (p1 : Int32) (σ : mS) : e_X10_stepSender p1 σ =
  bdI (e_X10_exchangeAt p1 σ) (fun v2 σ1 =>
  if v2 + (nI 1) < 0 ∨ 1432 ≤ (v2 + (nI 1)).toNatClampNeg then none else (
  if v2 + (nI 4) < 0 ∨ 1432 ≤ (v2 + (nI 4)).toNatClampNeg then none else (
  if σ1.1 (30, 0, 0, 0) ((v2 + (nI 4)).toNatClampNeg) = nI 0 then (
    bdI (e_X10_isClear (σ1.1 (30, 0, 0, 0) ((v2 + (nI 1)).toNatClampNeg)) p1 σ1) (fun v4 σ3 =>
    if v4 = 0 then (
      b_X10_stepSender_105 p1 v2 (σ1.1 (30, 0, 0, 0) ((v2 + (nI 1)).toNatClampNeg)) (v2 + (nI 15)) (nI 1) σ3)
    else (
      bdI (e_X10_isFree (σ1.1 (30, 0, 0, 0) ((v2 + (nI 1)).toNatClampNeg)) σ3) (fun v6 σ5 =>
      if v6 = 0 then (
        b_X10_stepSender_105 p1 v2 (σ1.1 (30, 0, 0, 0) ((v2 + (nI 1)).toNatClampNeg)) (v2 + (nI 15)) (nI 2) σ5)
      else (
        if nI 1 < 0 ∨ 1432 ≤ (nI 1).toNatClampNeg then none else (
        if (nI 129) + (σ1.1 (30, 0, 0, 0) ((v2 + (nI 1)).toNatClampNeg)) < 0 ∨ 1432 ≤ ((nI 129) + (σ1.1 (30, 0, 0, 0) ((v2 + (nI 1)).toNatClampNeg))).toNatClampNeg then none else (
        if σ5.1 (30, 0, 0, 0) ((nI 1).toNatClampNeg) < σ5.1 (30, 0, 0, 0) (((nI 129) + (σ1.1 (30, 0, 0, 0) ((v2 + (nI 1)).toNatClampNeg))).toNatClampNeg) then (
          b_X10_stepSender_105 p1 v2 (σ1.1 (30, 0, 0, 0) ((v2 + (nI 1)).toNatClampNeg)) (v2 + (nI 15)) (nI 3) σ5)
        else (
          b_X10_stepSender_105 p1 v2 (σ1.1 (30, 0, 0, 0) ((v2 + (nI 1)).toNatClampNeg)) (v2 + (nI 15)) (nI 0) σ5))))))))
  else if σ1.1 (30, 0, 0, 0) ((v2 + (nI 4)).toNatClampNeg) = nI 1 then (
    bdI (e_X10_sendsIt (σ1.1 (30, 0, 0, 0) ((v2 + (nI 1)).toNatClampNeg)) p1 (nI 1) σ1) (fun v8 σ7 =>
    if v8 = 0 then (
      bdV (e_X10_failsBy p1 (nI 0) σ7) (fun σ9 =>
      some (some none, σ9)))
    else (
      if v2 + (nI 10) < 0 ∨ 1432 ≤ (v2 + (nI 10)).toNatClampNeg then none else (
      bdV (e_X10_spans (σ1.1 (30, 0, 0, 0) ((v2 + (nI 1)).toNatClampNeg)) p1 (σ7.1 (30, 0, 0, 0) ((v2 + (nI 10)).toNatClampNeg)) p1 σ7) (fun σ10 =>
      if v2 + (nI 4) < 0 ∨ 1432 ≤ (v2 + (nI 4)).toNatClampNeg then none else (
      let σ11 := st σ10 (30, 0, 0, 0) ((v2 + (nI 4)).toNatClampNeg) (nI 2);
      some (some none, σ11)))))))
  else if σ1.1 (30, 0, 0, 0) ((v2 + (nI 4)).toNatClampNeg) = nI 2 then (
    bdV (e_X10_stepData p1 σ1) (fun σ12 =>
    some (some none, σ12)))
  else (bdI (e_X10_sendsIt (σ1.1 (30, 0, 0, 0) ((v2 + (nI 1)).toNatClampNeg)) p1 (nI 2) σ1) (fun v14 σ13 =>
    if v14 = 0 then (
      bdV (e_X10_failsBy p1 (nI 1) σ13) (fun σ15 =>
      some (some none, σ15)))
    else (
      bdV (e_X10_delivers p1 σ13) (fun σ16 =>
      some (some none, σ16)))))))) := (EvOf_eq mcode _).trans rfl
set_option maxRecDepth 100000 in
set_option maxHeartbeats 4000000 in
theorem q_X10_stepSender_105 (x1 : Int32) (x2 : Int32) (x3 : Int32) (t1 : Int32) (t2 : Int32) (σ : mS) : b_X10_stepSender_105 x1 x2 x3 t1 t2 σ =
  if t1 < 0 ∨ 1432 ≤ t1.toNatClampNeg then none else (
  let σ1 := st σ (30, 0, 0, 0) t1.toNatClampNeg t2;
  if x2 + (nI 15) < 0 ∨ 1432 ≤ (x2 + (nI 15)).toNatClampNeg then none else (
  if σ1.1 (30, 0, 0, 0) ((x2 + (nI 15)).toNatClampNeg) = 0 then (
    bdV (e_X10_owes x3 x1 (nI 1) σ1) (fun σ2 =>
    if x2 + (nI 10) < 0 ∨ 1432 ≤ (x2 + (nI 10)).toNatClampNeg then none else (
    bdV (e_X10_spans x1 x3 (σ2.1 (30, 0, 0, 0) ((x2 + (nI 10)).toNatClampNeg)) x1 σ2) (fun σ3 =>
    if x2 + (nI 4) < 0 ∨ 1432 ≤ (x2 + (nI 4)).toNatClampNeg then none else (
    let σ4 := st σ3 (30, 0, 0, 0) ((x2 + (nI 4)).toNatClampNeg) (nI 1);
    some (some none, σ4))))))
  else (
    if x2 + (nI 10) < 0 ∨ 1432 ≤ (x2 + (nI 10)).toNatClampNeg then none else (
    bdV (e_X10_spans x1 x3 (σ1.1 (30, 0, 0, 0) ((x2 + (nI 10)).toNatClampNeg)) x1 σ1) (fun σ5 =>
    if x2 + (nI 4) < 0 ∨ 1432 ≤ (x2 + (nI 4)).toNatClampNeg then none else (
    let σ6 := st σ5 (30, 0, 0, 0) ((x2 + (nI 4)).toNatClampNeg) (nI 1);
    some (some none, σ6))))))) := (EvOf_eq mcode _).trans rfl
set_option maxRecDepth 100000 in
set_option maxHeartbeats 4000000 in
theorem q_X10_stepEnd (σ : mS) : e_X10_stepEnd σ =
  b_X10_stepEnd_2 (nI 0) σ := (EvOf_eq mcode _).trans rfl
set_option maxRecDepth 100000 in
set_option maxHeartbeats 4000000 in
theorem q_X10_stepEnd_2 (x1 : Int32) (σ : mS) : b_X10_stepEnd_2 x1 σ =
  if nI 0 < 0 ∨ 1432 ≤ (nI 0).toNatClampNeg then none else (
  if x1 < σ.1 (30, 0, 0, 0) ((nI 0).toNatClampNeg) then (
    if x1 < 0 ∨ 6 ≤ x1.toNatClampNeg then none else (
    if (nI 135) + x1 < 0 ∨ 1432 ≤ ((nI 135) + x1).toNatClampNeg then none else (
    let σ1 := st σ (30, 0, 0, 0) (((nI 135) + x1).toNatClampNeg) (σ.1 (34, 0, 0, 0) x1.toNatClampNeg);
    if x1 < 0 ∨ 6 ≤ x1.toNatClampNeg then none else (
    if (nI 141) + x1 < 0 ∨ 1432 ≤ ((nI 141) + x1).toNatClampNeg then none else (
    let σ2 := st σ1 (30, 0, 0, 0) (((nI 141) + x1).toNatClampNeg) (σ1.1 (35, 0, 0, 0) x1.toNatClampNeg);
    if x1 < 0 ∨ 6 ≤ x1.toNatClampNeg then none else (
    let σ3 := st σ2 (34, 0, 0, 0) x1.toNatClampNeg (-1);
    bdI (e_X10_has (σ3.1 (10, 0, 0, 0) 12) x1 σ3) (fun v5 σ4 =>
    if v5 = 0 then (
      bdI (e_X10_hearsOthers x1 (-1) σ4) (fun v7 σ6 =>
      if v7 = 0 then (
        if nI 1331 < 0 ∨ 1432 ≤ (nI 1331).toNatClampNeg then none else (
        bdI (e_X10_has (σ6.1 (30, 0, 0, 0) ((nI 1331).toNatClampNeg)) x1 σ6) (fun v9 σ8 =>
        if v9 = 0 then (
          if nI 1 = 0 then (
            if (nI 123) + x1 < 0 ∨ 1432 ≤ ((nI 123) + x1).toNatClampNeg then none else (
            let σ10 := st σ8 (30, 0, 0, 0) (((nI 123) + x1).toNatClampNeg) (nI 0);
            b_X10_stepEnd_122 x1 (nI 0) σ10))
          else (
            if (nI 123) + x1 < 0 ∨ 1432 ≤ ((nI 123) + x1).toNatClampNeg then none else (
            if (nI 123) + x1 < 0 ∨ 1432 ≤ ((nI 123) + x1).toNatClampNeg then none else (
            let σ11 := st σ8 (30, 0, 0, 0) (((nI 123) + x1).toNatClampNeg) ((σ8.1 (30, 0, 0, 0) (((nI 123) + x1).toNatClampNeg)) + (nI 1));
            b_X10_stepEnd_122 x1 (nI 0) σ11))))
        else (
          if nI 0 = 0 then (
            if (nI 123) + x1 < 0 ∨ 1432 ≤ ((nI 123) + x1).toNatClampNeg then none else (
            let σ12 := st σ8 (30, 0, 0, 0) (((nI 123) + x1).toNatClampNeg) (nI 0);
            b_X10_stepEnd_122 x1 (nI 0) σ12))
          else (
            if (nI 123) + x1 < 0 ∨ 1432 ≤ ((nI 123) + x1).toNatClampNeg then none else (
            if (nI 123) + x1 < 0 ∨ 1432 ≤ ((nI 123) + x1).toNatClampNeg then none else (
            let σ13 := st σ8 (30, 0, 0, 0) (((nI 123) + x1).toNatClampNeg) ((σ8.1 (30, 0, 0, 0) (((nI 123) + x1).toNatClampNeg)) + (nI 1));
            b_X10_stepEnd_122 x1 (nI 0) σ13)))))))
      else (
        if nI 0 = 0 then (
          if (nI 123) + x1 < 0 ∨ 1432 ≤ ((nI 123) + x1).toNatClampNeg then none else (
          let σ14 := st σ6 (30, 0, 0, 0) (((nI 123) + x1).toNatClampNeg) (nI 0);
          b_X10_stepEnd_122 x1 (nI 0) σ14))
        else (
          if (nI 123) + x1 < 0 ∨ 1432 ≤ ((nI 123) + x1).toNatClampNeg then none else (
          if (nI 123) + x1 < 0 ∨ 1432 ≤ ((nI 123) + x1).toNatClampNeg then none else (
          let σ15 := st σ6 (30, 0, 0, 0) (((nI 123) + x1).toNatClampNeg) ((σ6.1 (30, 0, 0, 0) (((nI 123) + x1).toNatClampNeg)) + (nI 1));
          b_X10_stepEnd_122 x1 (nI 0) σ15))))))
    else (
      if nI 0 = 0 then (
        if (nI 123) + x1 < 0 ∨ 1432 ≤ ((nI 123) + x1).toNatClampNeg then none else (
        let σ16 := st σ4 (30, 0, 0, 0) (((nI 123) + x1).toNatClampNeg) (nI 0);
        b_X10_stepEnd_122 x1 (nI 0) σ16))
      else (
        if (nI 123) + x1 < 0 ∨ 1432 ≤ ((nI 123) + x1).toNatClampNeg then none else (
        if (nI 123) + x1 < 0 ∨ 1432 ≤ ((nI 123) + x1).toNatClampNeg then none else (
        let σ17 := st σ4 (30, 0, 0, 0) (((nI 123) + x1).toNatClampNeg) ((σ4.1 (30, 0, 0, 0) (((nI 123) + x1).toNatClampNeg)) + (nI 1));
        b_X10_stepEnd_122 x1 (nI 0) σ17)))))))))))
  else (
    if nI 1 < 0 ∨ 1432 ≤ (nI 1).toNatClampNeg then none else (
    if nI 1 < 0 ∨ 1432 ≤ (nI 1).toNatClampNeg then none else (
    let σ18 := st σ (30, 0, 0, 0) ((nI 1).toNatClampNeg) ((σ.1 (30, 0, 0, 0) ((nI 1).toNatClampNeg)) + (nI 1));
    some (some none, σ18))))) := (EvOf_eq mcode _).trans rfl
set_option maxRecDepth 100000 in
set_option maxHeartbeats 4000000 in
theorem q_X10_stepEnd_122 (x1 : Int32) (x3 : Int32) (σ : mS) : b_X10_stepEnd_122 x1 x3 σ =
  if x3 < nI 4 then (
    bdI (e_X10_at x1 x3 σ) (fun v2 σ1 =>
    if (nI 147) + v2 < 0 ∨ 1432 ≤ ((nI 147) + v2).toNatClampNeg then none else (
    if 0 < σ1.1 (30, 0, 0, 0) (((nI 147) + v2).toNatClampNeg) then (
      bdI (e_X10_at x1 x3 σ1) (fun v4 σ3 =>
      if (nI 1155) + v4 < 0 ∨ 1432 ≤ ((nI 1155) + v4).toNatClampNeg then none else (
      if 0 < σ3.1 (30, 0, 0, 0) (((nI 1155) + v4).toNatClampNeg) then (
        if (nI 123) + x1 < 0 ∨ 1432 ≤ ((nI 123) + x1).toNatClampNeg then none else (
        if (nI 5) + x3 < 0 ∨ 1432 ≤ ((nI 5) + x3).toNatClampNeg then none else (
        if σ3.1 (30, 0, 0, 0) (((nI 5) + x3).toNatClampNeg) < σ3.1 (30, 0, 0, 0) (((nI 123) + x1).toNatClampNeg) then (
          bdI (e_X10_at x1 x3 σ3) (fun v6 σ5 =>
          if (nI 1155) + v6 < 0 ∨ 1432 ≤ ((nI 1155) + v6).toNatClampNeg then none else (
          if (nI 1155) + v6 < 0 ∨ 1432 ≤ ((nI 1155) + v6).toNatClampNeg then none else (
          let σ7 := st σ5 (30, 0, 0, 0) (((nI 1155) + v6).toNatClampNeg) ((σ5.1 (30, 0, 0, 0) (((nI 1155) + v6).toNatClampNeg)) - (nI 1));
          b_X10_stepEnd_122 x1 (x3 + 1) σ7))))
        else (
          b_X10_stepEnd_122 x1 (x3 + 1) σ3))))
      else (
        b_X10_stepEnd_122 x1 (x3 + 1) σ3))))
    else (
      b_X10_stepEnd_122 x1 (x3 + 1) σ1))))
  else (
    b_X10_stepEnd_2 (x1 + 1) σ) := (EvOf_eq mcode _).trans rfl
set_option maxRecDepth 100000 in
set_option maxHeartbeats 4000000 in
theorem q_X10_stepHeld (σ : mS) : e_X10_stepHeld σ =
  b_X10_stepHeld_2 (nI 0) σ := (EvOf_eq mcode _).trans rfl
set_option maxRecDepth 100000 in
set_option maxHeartbeats 4000000 in
theorem q_X10_stepHeld_2 (x1 : Int32) (σ : mS) : b_X10_stepHeld_2 x1 σ =
  if nI 0 < 0 ∨ 1432 ≤ (nI 0).toNatClampNeg then none else (
  if x1 < σ.1 (30, 0, 0, 0) ((nI 0).toNatClampNeg) then (
    bdI (e_X10_isFree x1 σ) (fun v2 σ1 =>
    if v2 = 0 then (
      b_X10_stepHeld_2 (x1 + 1) σ1)
    else (
      bdI (e_X10_waiting x1 σ1) (fun v4 σ3 =>
      if v4 = 0 then (
        b_X10_stepHeld_2 (x1 + 1) σ3)
      else (
        if nI 1331 < 0 ∨ 1432 ≤ (nI 1331).toNatClampNeg then none else (
        bdI (e_X10_has (σ3.1 (30, 0, 0, 0) ((nI 1331).toNatClampNeg)) x1 σ3) (fun v6 σ5 =>
        if v6 = 0 then (
          bdI (e_X10_hearsOthers x1 (-1) σ5) (fun v8 σ7 =>
          if v8 = 0 then (
            if ((nI 1402) + ((nI 3) * x1)) + (nI 2) < 0 ∨ 1432 ≤ (((nI 1402) + ((nI 3) * x1)) + (nI 2)).toNatClampNeg then none else (
            if ((nI 1402) + ((nI 3) * x1)) + (nI 2) < 0 ∨ 1432 ≤ (((nI 1402) + ((nI 3) * x1)) + (nI 2)).toNatClampNeg then none else (
            let σ9 := st σ7 (30, 0, 0, 0) ((((nI 1402) + ((nI 3) * x1)) + (nI 2)).toNatClampNeg) ((σ7.1 (30, 0, 0, 0) ((((nI 1402) + ((nI 3) * x1)) + (nI 2)).toNatClampNeg)) + (nI 1));
            b_X10_stepHeld_2 (x1 + 1) σ9)))
          else (
            if ((nI 1402) + ((nI 3) * x1)) + (nI 1) < 0 ∨ 1432 ≤ (((nI 1402) + ((nI 3) * x1)) + (nI 1)).toNatClampNeg then none else (
            if ((nI 1402) + ((nI 3) * x1)) + (nI 1) < 0 ∨ 1432 ≤ (((nI 1402) + ((nI 3) * x1)) + (nI 1)).toNatClampNeg then none else (
            let σ10 := st σ7 (30, 0, 0, 0) ((((nI 1402) + ((nI 3) * x1)) + (nI 1)).toNatClampNeg) ((σ7.1 (30, 0, 0, 0) ((((nI 1402) + ((nI 3) * x1)) + (nI 1)).toNatClampNeg)) + (nI 1));
            b_X10_stepHeld_2 (x1 + 1) σ10)))))
        else (
          if ((nI 1402) + ((nI 3) * x1)) + (nI 0) < 0 ∨ 1432 ≤ (((nI 1402) + ((nI 3) * x1)) + (nI 0)).toNatClampNeg then none else (
          if ((nI 1402) + ((nI 3) * x1)) + (nI 0) < 0 ∨ 1432 ≤ (((nI 1402) + ((nI 3) * x1)) + (nI 0)).toNatClampNeg then none else (
          let σ11 := st σ5 (30, 0, 0, 0) ((((nI 1402) + ((nI 3) * x1)) + (nI 0)).toNatClampNeg) ((σ5.1 (30, 0, 0, 0) ((((nI 1402) + ((nI 3) * x1)) + (nI 0)).toNatClampNeg)) + (nI 1));
          b_X10_stepHeld_2 (x1 + 1) σ11))))))))))
  else (
    some (some none, σ))) := (EvOf_eq mcode _).trans rfl
set_option maxRecDepth 100000 in
set_option maxHeartbeats 4000000 in
theorem q_X10_slot (σ : mS) : e_X10_slot σ =
  bdV (e_X10_stepBegin σ) (fun σ1 =>
  bdV (e_X10_stepSend σ1) (fun σ2 =>
  bdV (e_X10_stepHeld σ2) (fun σ3 =>
  b_X10_slot_14 (nI 0) σ3))) := (EvOf_eq mcode _).trans rfl
set_option maxRecDepth 100000 in
set_option maxHeartbeats 4000000 in
theorem q_X10_slot_14 (x1 : Int32) (σ : mS) : b_X10_slot_14 x1 σ =
  if nI 0 < 0 ∨ 1432 ≤ (nI 0).toNatClampNeg then none else (
  if x1 < σ.1 (30, 0, 0, 0) ((nI 0).toNatClampNeg) then (
    bdI (e_X10_exchangeAt x1 σ) (fun v2 σ1 =>
    if v2 + (nI 0) < 0 ∨ 1432 ≤ (v2 + (nI 0)).toNatClampNeg then none else (
    if σ1.1 (30, 0, 0, 0) ((v2 + (nI 0)).toNatClampNeg) = nI 1 then (
      bdV (e_X10_stepSender x1 σ1) (fun σ3 =>
      b_X10_slot_14 (x1 + 1) σ3))
    else (
      b_X10_slot_14 (x1 + 1) σ1))))
  else (
    bdV (e_X10_stepEnd σ) (fun σ4 =>
    some (some none, σ4)))) := (EvOf_eq mcode _).trans rfl
set_option maxRecDepth 100000 in
set_option maxHeartbeats 4000000 in
theorem q_X10_goSlots (p1 : Int32) (σ : mS) : e_X10_goSlots p1 σ =
  b_X10_goSlots_2 p1 (nI 0) σ := (EvOf_eq mcode _).trans rfl
set_option maxRecDepth 100000 in
set_option maxHeartbeats 4000000 in
theorem q_X10_goSlots_2 (x1 : Int32) (x2 : Int32) (σ : mS) : b_X10_goSlots_2 x1 x2 σ =
  if x2 < x1 then (
    bdV (e_X10_slot σ) (fun σ1 =>
    b_X10_goSlots_2 x1 (x2 + 1) σ1))
  else (
    some (some none, σ)) := (EvOf_eq mcode _).trans rfl
set_option maxRecDepth 100000 in
set_option maxHeartbeats 4000000 in
theorem q_X10_slots (p1 : Int32) (σ : mS) : e_X10_slots p1 σ =
  let σ1 := st σ (10, 0, 0, 0) 5 (nI 0);
  bdI (e_X10_in p1 (nI 1) (nI 60) σ1) (fun v3 σ2 =>
  if v3 = 0 then (
    some (some (some (.inl (-1))), σ2))
  else (
    bdV (e_X10_change σ2) (fun σ4 =>
    if nI 1336 < 0 ∨ 1432 ≤ (nI 1336).toNatClampNeg then none else (
    if nI 1337 < 0 ∨ 1432 ≤ (nI 1337).toNatClampNeg then none else (
    if nI 1338 < 0 ∨ 1432 ≤ (nI 1338).toNatClampNeg then none else (
    if nI 1339 < 0 ∨ 1432 ≤ (nI 1339).toNatClampNeg then none else (
    bdV (e_X10_goSlots p1 σ4) (fun σ5 =>
    let σ6 := st σ5 (10, 0, 0, 0) 4 (nI 0);
    if nI 1337 < 0 ∨ 1432 ≤ (nI 1337).toNatClampNeg then none else (
    bdV (e_X10_tell (((σ6.1 (30, 0, 0, 0) ((nI 1337).toNatClampNeg)) - (σ4.1 (30, 0, 0, 0) ((nI 1337).toNatClampNeg))).toInt64) σ6) (fun σ7 =>
    if nI 1338 < 0 ∨ 1432 ≤ (nI 1338).toNatClampNeg then none else (
    bdV (e_X10_tell (((σ7.1 (30, 0, 0, 0) ((nI 1338).toNatClampNeg)) - (σ4.1 (30, 0, 0, 0) ((nI 1338).toNatClampNeg))).toInt64) σ7) (fun σ8 =>
    if nI 1339 < 0 ∨ 1432 ≤ (nI 1339).toNatClampNeg then none else (
    bdV (e_X10_tell (((σ8.1 (30, 0, 0, 0) ((nI 1339).toNatClampNeg)) - (σ4.1 (30, 0, 0, 0) ((nI 1339).toNatClampNeg))).toInt64) σ8) (fun σ9 =>
    if nI 1336 < 0 ∨ 1432 ≤ (nI 1336).toNatClampNeg then none else (
    some (some (some (.inl ((σ9.1 (30, 0, 0, 0) ((nI 1336).toNatClampNeg)) - (σ4.1 (30, 0, 0, 0) ((nI 1336).toNatClampNeg))))), σ9)))))))))))))))) := (EvOf_eq mcode _).trans rfl
set_option maxRecDepth 100000 in
set_option maxHeartbeats 4000000 in
theorem q_X10_drawAll (σ : mS) : e_X10_drawAll σ =
  b_X10_drawAll_4 (nI 0) (nI 0) σ := (EvOf_eq mcode _).trans rfl
set_option maxRecDepth 100000 in
set_option maxHeartbeats 4000000 in
theorem q_X10_drawAll_4 (x1 : Int32) (x2 : Int32) (σ : mS) : b_X10_drawAll_4 x1 x2 σ =
  if nI 0 < 0 ∨ 1432 ≤ (nI 0).toNatClampNeg then none else (
  if x2 < σ.1 (30, 0, 0, 0) ((nI 0).toNatClampNeg) then (
    b_X10_drawAll_16 x1 x2 (nI 0) σ)
  else (
    some (some (some (.inl x1)), σ))) := (EvOf_eq mcode _).trans rfl
set_option maxRecDepth 100000 in
set_option maxHeartbeats 4000000 in
theorem q_X10_drawAll_16 (x1 : Int32) (x2 : Int32) (x3 : Int32) (σ : mS) : b_X10_drawAll_16 x1 x2 x3 σ =
  if x3 < nI 4 then (
    bdI (e_X10_at x2 x3 σ) (fun v2 σ1 =>
    if (nI 147) + v2 < 0 ∨ 1432 ≤ ((nI 147) + v2).toNatClampNeg then none else (
    if σ1.1 (30, 0, 0, 0) (((nI 147) + v2).toNatClampNeg) = 0 then (
      b_X10_drawAll_16 x1 x2 (x3 + 1) σ1)
    else (
      bdV (e_X10_drawsCount x2 x3 σ1) (fun σ3 =>
      b_X10_drawAll_16 (x1 + 1) x2 (x3 + 1) σ3)))))
  else (
    b_X10_drawAll_4 x1 (x2 + 1) σ) := (EvOf_eq mcode _).trans rfl
set_option maxRecDepth 100000 in
set_option maxHeartbeats 4000000 in
theorem q_X10_draws (σ : mS) : e_X10_draws σ =
  let σ1 := st σ (10, 0, 0, 0) 5 (nI 0);
  bdV (e_X10_change σ1) (fun σ2 =>
  bdI (e_X10_drawAll σ2) (fun v4 σ3 =>
  some (some (some (.inl v4)), σ3))) := (EvOf_eq mcode _).trans rfl
set_option maxRecDepth 100000 in
set_option maxHeartbeats 4000000 in
theorem q_X10_waiting (p1 : Int32) (σ : mS) : e_X10_waiting p1 σ =
  b_X10_waiting_4 p1 (nI 0) (nI 0) σ := (EvOf_eq mcode _).trans rfl
set_option maxRecDepth 100000 in
set_option maxHeartbeats 4000000 in
theorem q_X10_waiting_4 (x1 : Int32) (x2 : Int32) (x3 : Int32) (σ : mS) : b_X10_waiting_4 x1 x2 x3 σ =
  if x3 < nI 4 then (
    bdI (e_X10_at x1 x3 σ) (fun v2 σ1 =>
    if (nI 147) + v2 < 0 ∨ 1432 ≤ ((nI 147) + v2).toNatClampNeg then none else (
    b_X10_waiting_4 x1 (x2 + (σ1.1 (30, 0, 0, 0) (((nI 147) + v2).toNatClampNeg))) (x3 + 1) σ1)))
  else (
    some (some (some (.inl x2)), σ)) := (EvOf_eq mcode _).trans rfl
set_option maxRecDepth 100000 in
set_option maxHeartbeats 4000000 in
theorem q_X10_allWaiting (σ : mS) : e_X10_allWaiting σ =
  b_X10_allWaiting_4 (nI 0) (nI 0) σ := (EvOf_eq mcode _).trans rfl
set_option maxRecDepth 100000 in
set_option maxHeartbeats 4000000 in
theorem q_X10_allWaiting_4 (x1 : Int32) (x2 : Int32) (σ : mS) : b_X10_allWaiting_4 x1 x2 σ =
  if nI 0 < 0 ∨ 1432 ≤ (nI 0).toNatClampNeg then none else (
  if x2 < σ.1 (30, 0, 0, 0) ((nI 0).toNatClampNeg) then (
    bdI (e_X10_waiting x2 σ) (fun v2 σ1 =>
    b_X10_allWaiting_4 (x1 + v2) (x2 + 1) σ1))
  else (
    some (some (some (.inl x1)), σ))) := (EvOf_eq mcode _).trans rfl
set_option maxRecDepth 100000 in
set_option maxHeartbeats 4000000 in
theorem q_X10_heardBy (p1 : Int32) (σ : mS) : e_X10_heardBy p1 σ =
  b_X10_heardBy_4 p1 (nI 0) (nI 0) σ := (EvOf_eq mcode _).trans rfl
set_option maxRecDepth 100000 in
set_option maxHeartbeats 4000000 in
theorem q_X10_heardBy_4 (x1 : Int32) (x2 : Int32) (x3 : Int32) (σ : mS) : b_X10_heardBy_4 x1 x2 x3 σ =
  if nI 0 < 0 ∨ 1432 ≤ (nI 0).toNatClampNeg then none else (
  if x3 < σ.1 (30, 0, 0, 0) ((nI 0).toNatClampNeg) then (
    bdI (e_X10_hears x1 x3 σ) (fun v2 σ1 =>
    if v2 = 0 then (
      b_X10_heardBy_4 x1 (x2 ||| (nI 0)) (x3 + 1) σ1)
    else (
      b_X10_heardBy_4 x1 (x2 ||| ((nI 1) <<< (x3 &&& 31))) (x3 + 1) σ1)))
  else (
    some (some (some (.inl x2)), σ))) := (EvOf_eq mcode _).trans rfl
set_option maxRecDepth 100000 in
set_option maxHeartbeats 4000000 in
theorem q_X10_station (p1 : Int32) (p2 : Int32) (σ : mS) : e_X10_station p1 p2 σ =
  let σ1 := st σ (10, 0, 0, 0) 5 (nI 0);
  bdI (e_X10_isStation p1 σ1) (fun v3 σ2 =>
  if v3 = 0 then (
    bdI (e_X10_lost σ2) (fun v5 σ4 =>
    some (some (some (.inl v5)), σ4)))
  else (
    if p2 = nI 0 then (
      if (nI 123) + p1 < 0 ∨ 1432 ≤ ((nI 123) + p1).toNatClampNeg then none else (
      some (some (some (.inl (σ2.1 (30, 0, 0, 0) (((nI 123) + p1).toNatClampNeg)))), σ2)))
    else if p2 = nI 1 then (
      if (nI 129) + p1 < 0 ∨ 1432 ≤ ((nI 129) + p1).toNatClampNeg then none else (
      some (some (some (.inl (σ2.1 (30, 0, 0, 0) (((nI 129) + p1).toNatClampNeg)))), σ2)))
    else if p2 = nI 2 then (
      bdI (e_X10_exchangeAt p1 σ2) (fun v7 σ6 =>
      if v7 + (nI 0) < 0 ∨ 1432 ≤ (v7 + (nI 0)).toNatClampNeg then none else (
      if σ6.1 (30, 0, 0, 0) ((v7 + (nI 0)).toNatClampNeg) = 0 then (
        if (nI 135) + p1 < 0 ∨ 1432 ≤ ((nI 135) + p1).toNatClampNeg then none else (
        if σ6.1 (30, 0, 0, 0) (((nI 135) + p1).toNatClampNeg) = (-1) then (
          some (some (some (.inl (nI 1))), σ6))
        else (
          some (some (some (.inl (nI 0))), σ6))))
      else (
        some (some (some (.inl (nI 0))), σ6)))))
    else if p2 = nI 3 then (
      if (nI 135) + p1 < 0 ∨ 1432 ≤ ((nI 135) + p1).toNatClampNeg then none else (
      some (some (some (.inl (σ2.1 (30, 0, 0, 0) (((nI 135) + p1).toNatClampNeg)))), σ2)))
    else if p2 = nI 4 then (
      if (nI 141) + p1 < 0 ∨ 1432 ≤ ((nI 141) + p1).toNatClampNeg then none else (
      some (some (some (.inl (σ2.1 (30, 0, 0, 0) (((nI 141) + p1).toNatClampNeg)))), σ2)))
    else if p2 = nI 5 then (
      bdI (e_X10_heardBy p1 σ2) (fun v9 σ8 =>
      some (some (some (.inl v9)), σ8)))
    else if p2 = nI 6 then (
      bdI (e_X10_waiting p1 σ2) (fun v11 σ10 =>
      some (some (some (.inl v11)), σ10)))
    else (bdI (e_X10_lost σ2) (fun v13 σ12 =>
      some (some (some (.inl v13)), σ12))))) := (EvOf_eq mcode _).trans rfl
set_option maxRecDepth 100000 in
set_option maxHeartbeats 4000000 in
theorem q_X10_rank (p1 : Int32) (p2 : Int32) (p3 : Int32) (σ : mS) : e_X10_rank p1 p2 p3 σ =
  let σ1 := st σ (10, 0, 0, 0) 5 (nI 0);
  bdI (e_X10_isStation p1 σ1) (fun v3 σ2 =>
  if v3 = 0 then (
    bdI (e_X10_lost σ2) (fun v5 σ4 =>
    some (some (some (.inl v5)), σ4)))
  else (
    bdI (e_X10_isRank p2 σ2) (fun v7 σ6 =>
    if v7 = 0 then (
      bdI (e_X10_lost σ6) (fun v9 σ8 =>
      some (some (some (.inl v9)), σ8)))
    else (
      if p3 = nI 0 then (
        bdI (e_X10_at p1 p2 σ6) (fun v11 σ10 =>
        if (nI 147) + v11 < 0 ∨ 1432 ≤ ((nI 147) + v11).toNatClampNeg then none else (
        some (some (some (.inl (σ10.1 (30, 0, 0, 0) (((nI 147) + v11).toNatClampNeg)))), σ10))))
      else if p3 = nI 1 then (
        bdI (e_X10_at p1 p2 σ6) (fun v13 σ12 =>
        if (nI 1155) + v13 < 0 ∨ 1432 ≤ ((nI 1155) + v13).toNatClampNeg then none else (
        some (some (some (.inl (σ12.1 (30, 0, 0, 0) (((nI 1155) + v13).toNatClampNeg)))), σ12))))
      else if p3 = nI 2 then (
        bdI (e_X10_at p1 p2 σ6) (fun v15 σ14 =>
        if (nI 1131) + v15 < 0 ∨ 1432 ≤ ((nI 1131) + v15).toNatClampNeg then none else (
        some (some (some (.inl (σ14.1 (30, 0, 0, 0) (((nI 1131) + v15).toNatClampNeg)))), σ14))))
      else if p3 = nI 3 then (
        bdI (e_X10_isReady p1 p2 σ6) (fun v17 σ16 =>
        if v17 = 0 then (
          some (some (some (.inl (nI 0))), σ16))
        else (
          some (some (some (.inl (nI 1))), σ16))))
      else (bdI (e_X10_lost σ6) (fun v19 σ18 =>
        some (some (some (.inl v19)), σ18))))))) := (EvOf_eq mcode _).trans rfl
set_option maxRecDepth 100000 in
set_option maxHeartbeats 4000000 in
theorem q_X10_frame (p1 : Int32) (p2 : Int32) (p3 : Int32) (p4 : Int32) (σ : mS) : e_X10_frame p1 p2 p3 p4 σ =
  let σ1 := st σ (10, 0, 0, 0) 5 (nI 0);
  bdI (e_X10_isStation p1 σ1) (fun v3 σ2 =>
  if v3 = 0 then (
    bdI (e_X10_lost σ2) (fun v5 σ4 =>
    some (some (some (.inl v5)), σ4)))
  else (
    bdI (e_X10_isRank p2 σ2) (fun v7 σ6 =>
    if v7 = 0 then (
      bdI (e_X10_lost σ6) (fun v9 σ8 =>
      some (some (some (.inl v9)), σ8)))
    else (
      bdI (e_X10_at p1 p2 σ6) (fun v11 σ10 =>
      if (nI 147) + v11 < 0 ∨ 1432 ≤ ((nI 147) + v11).toNatClampNeg then none else (
      bdI (e_X10_in p3 (nI 0) ((σ10.1 (30, 0, 0, 0) (((nI 147) + v11).toNatClampNeg)) - (nI 1)) σ10) (fun v13 σ12 =>
      if v13 = 0 then (
        bdI (e_X10_lost σ12) (fun v15 σ14 =>
        some (some (some (.inl v15)), σ14)))
      else (
        bdI (e_X10_in p4 (nI 0) (nI 3) σ12) (fun v17 σ16 =>
        if v17 = 0 then (
          bdI (e_X10_lost σ16) (fun v19 σ18 =>
          some (some (some (.inl v19)), σ18)))
        else (
          bdI (e_X10_frameAt p1 p2 p3 σ16) (fun v21 σ20 =>
          if v21 + p4 < 0 ∨ 1432 ≤ (v21 + p4).toNatClampNeg then none else (
          some (some (some (.inl (σ20.1 (30, 0, 0, 0) ((v21 + p4).toNatClampNeg)))), σ20))))))))))))) := (EvOf_eq mcode _).trans rfl
set_option maxRecDepth 100000 in
set_option maxHeartbeats 4000000 in
theorem q_X10_exchange (p1 : Int32) (p2 : Int32) (σ : mS) : e_X10_exchange p1 p2 σ =
  let σ1 := st σ (10, 0, 0, 0) 5 (nI 0);
  bdI (e_X10_isStation p1 σ1) (fun v3 σ2 =>
  if v3 = 0 then (
    some (some (some (.inl (-1))), σ2))
  else (
    bdI (e_X10_exchangeAt p1 σ2) (fun v5 σ4 =>
    if v5 + (nI 0) < 0 ∨ 1432 ≤ (v5 + (nI 0)).toNatClampNeg then none else (
    if σ4.1 (30, 0, 0, 0) ((v5 + (nI 0)).toNatClampNeg) = 0 then (
      some (some (some (.inl (-1))), σ4))
    else (
      bdI (e_X10_exchangeAt p1 σ4) (fun v7 σ6 =>
      if p2 = nI 0 then (
        if v7 + (nI 1) < 0 ∨ 1432 ≤ (v7 + (nI 1)).toNatClampNeg then none else (
        some (some (some (.inl (σ6.1 (30, 0, 0, 0) ((v7 + (nI 1)).toNatClampNeg)))), σ6)))
      else if p2 = nI 1 then (
        if v7 + (nI 2) < 0 ∨ 1432 ≤ (v7 + (nI 2)).toNatClampNeg then none else (
        some (some (some (.inl (σ6.1 (30, 0, 0, 0) ((v7 + (nI 2)).toNatClampNeg)))), σ6)))
      else if p2 = nI 2 then (
        if v7 + (nI 3) < 0 ∨ 1432 ≤ (v7 + (nI 3)).toNatClampNeg then none else (
        some (some (some (.inl (σ6.1 (30, 0, 0, 0) ((v7 + (nI 3)).toNatClampNeg)))), σ6)))
      else if p2 = nI 3 then (
        bdI (e_X10_placesOf v7 σ6) (fun v9 σ8 =>
        some (some (some (.inl v9)), σ8)))
      else if p2 = nI 4 then (
        if v7 + (nI 4) < 0 ∨ 1432 ≤ (v7 + (nI 4)).toNatClampNeg then none else (
        some (some (some (.inl (σ6.1 (30, 0, 0, 0) ((v7 + (nI 4)).toNatClampNeg)))), σ6)))
      else if p2 = nI 5 then (
        if v7 + (nI 4) < 0 ∨ 1432 ≤ (v7 + (nI 4)).toNatClampNeg then none else (
        if σ6.1 (30, 0, 0, 0) ((v7 + (nI 4)).toNatClampNeg) = nI 2 then (
          if v7 + (nI 5) < 0 ∨ 1432 ≤ (v7 + (nI 5)).toNatClampNeg then none else (
          some (some (some (.inl (σ6.1 (30, 0, 0, 0) ((v7 + (nI 5)).toNatClampNeg)))), σ6)))
        else (
          some (some (some (.inl (nI 1))), σ6))))
      else if p2 = nI 6 then (
        if v7 + (nI 6) < 0 ∨ 1432 ≤ (v7 + (nI 6)).toNatClampNeg then none else (
        some (some (some (.inl (σ6.1 (30, 0, 0, 0) ((v7 + (nI 6)).toNatClampNeg)))), σ6)))
      else (some (some (some (.inl (-1))), σ6)))))))) := (EvOf_eq mcode _).trans rfl
set_option maxRecDepth 100000 in
set_option maxHeartbeats 4000000 in
theorem q_X10_placesOf (p1 : Int32) (σ : mS) : e_X10_placesOf p1 σ =
  b_X10_placesOf_4 p1 (nI 0) (nI 0) σ := (EvOf_eq mcode _).trans rfl
set_option maxRecDepth 100000 in
set_option maxHeartbeats 4000000 in
theorem q_X10_placesOf_4 (x1 : Int32) (x2 : Int32) (x3 : Int32) (σ : mS) : b_X10_placesOf_4 x1 x2 x3 σ =
  if x1 + (nI 3) < 0 ∨ 1432 ≤ (x1 + (nI 3)).toNatClampNeg then none else (
  if x3 < σ.1 (30, 0, 0, 0) ((x1 + (nI 3)).toNatClampNeg) then (
    if (x1 + (nI 11)) + x3 < 0 ∨ 1432 ≤ ((x1 + (nI 11)) + x3).toNatClampNeg then none else (
    b_X10_placesOf_4 x1 (x2 + (σ.1 (30, 0, 0, 0) (((x1 + (nI 11)) + x3).toNatClampNeg))) (x3 + 1) σ))
  else (
    some (some (some (.inl x2)), σ))) := (EvOf_eq mcode _).trans rfl
set_option maxRecDepth 100000 in
set_option maxHeartbeats 4000000 in
theorem q_X10_sent (σ : mS) : e_X10_sent σ =
  let σ1 := st σ (10, 0, 0, 0) 5 (nI 0);
  if nI 1332 < 0 ∨ 1432 ≤ (nI 1332).toNatClampNeg then none else (
  if σ1.1 (30, 0, 0, 0) ((nI 1332).toNatClampNeg) = 0 then (
    some (some (some (.inl (-2))), σ1))
  else (
    let σ2 := st σ1 (10, 0, 0, 0) 4 (nI 0);
    if nI 1330 < 0 ∨ 1432 ≤ (nI 1330).toNatClampNeg then none else (
    bdV (e_X10_tell ((σ2.1 (30, 0, 0, 0) ((nI 1330).toNatClampNeg)).toInt64) σ2) (fun σ3 =>
    if nI 1331 < 0 ∨ 1432 ≤ (nI 1331).toNatClampNeg then none else (
    bdV (e_X10_tell ((σ3.1 (30, 0, 0, 0) ((nI 1331).toNatClampNeg)).toInt64) σ3) (fun σ4 =>
    if nI 1329 < 0 ∨ 1432 ≤ (nI 1329).toNatClampNeg then none else (
    some (some (some (.inl (σ4.1 (30, 0, 0, 0) ((nI 1329).toNatClampNeg)))), σ4)))))))) := (EvOf_eq mcode _).trans rfl
set_option maxRecDepth 100000 in
set_option maxHeartbeats 4000000 in
theorem q_X10_spanOf (p1 : Int32) (σ : mS) : e_X10_spanOf p1 σ =
  let σ1 := st σ (10, 0, 0, 0) 5 (nI 0);
  bdI (e_X10_isStation p1 σ1) (fun v3 σ2 =>
  if v3 = 0 then (
    some (some (some (.inl (-1))), σ2))
  else (
    if nI 1 < 0 ∨ 1432 ≤ (nI 1).toNatClampNeg then none else (
    if (nI 129) + p1 < 0 ∨ 1432 ≤ ((nI 129) + p1).toNatClampNeg then none else (
    if σ2.1 (30, 0, 0, 0) ((nI 1).toNatClampNeg) < σ2.1 (30, 0, 0, 0) (((nI 129) + p1).toNatClampNeg) then (
      let σ4 := st σ2 (10, 0, 0, 0) 4 (nI 0);
      if (nI 1426) + p1 < 0 ∨ 1432 ≤ ((nI 1426) + p1).toNatClampNeg then none else (
      bdV (e_X10_tell ((σ4.1 (30, 0, 0, 0) (((nI 1426) + p1).toNatClampNeg)).toInt64) σ4) (fun σ5 =>
      if (nI 129) + p1 < 0 ∨ 1432 ≤ ((nI 129) + p1).toNatClampNeg then none else (
      if nI 1 < 0 ∨ 1432 ≤ (nI 1).toNatClampNeg then none else (
      bdV (e_X10_tell (((σ5.1 (30, 0, 0, 0) (((nI 129) + p1).toNatClampNeg)) - (σ5.1 (30, 0, 0, 0) ((nI 1).toNatClampNeg))).toInt64) σ5) (fun σ6 =>
      if (nI 1420) + p1 < 0 ∨ 1432 ≤ ((nI 1420) + p1).toNatClampNeg then none else (
      some (some (some (.inl (σ6.1 (30, 0, 0, 0) (((nI 1420) + p1).toNatClampNeg)))), σ6))))))))
    else (
      some (some (some (.inl (-2))), σ2)))))) := (EvOf_eq mcode _).trans rfl
set_option maxRecDepth 100000 in
set_option maxHeartbeats 4000000 in
theorem q_X10_rate (p1 : Int32) (p2 : Int32) (σ : mS) : e_X10_rate p1 p2 σ =
  let σ1 := st σ (10, 0, 0, 0) 5 (nI 0);
  bdI (e_X10_isStation p1 σ1) (fun v3 σ2 =>
  if v3 = 0 then (
    some (some (some (.inl (-1))), σ2))
  else (
    bdI (e_X10_isStation p2 σ2) (fun v5 σ4 =>
    if v5 = 0 then (
      some (some (some (.inl (-1))), σ4))
    else (
      if p1 = p2 then (
        some (some (some (.inl (-1))), σ4))
      else (
        bdI (e_X10_hears p1 p2 σ4) (fun v7 σ6 =>
        if v7 = 0 then (
          some (some (some (.inl (-2))), σ6))
        else (
          let σ8 := st σ6 (10, 0, 0, 0) 4 (nI 0);
          if ((nI 87) + ((nI 6) * p1)) + p2 < 0 ∨ 1432 ≤ (((nI 87) + ((nI 6) * p1)) + p2).toNatClampNeg then none else (
          bdV (e_X10_tell ((σ8.1 (30, 0, 0, 0) ((((nI 87) + ((nI 6) * p1)) + p2).toNatClampNeg)).toInt64) σ8) (fun σ9 =>
          bdI (e_X10_quality p1 p2 σ9) (fun v11 σ10 =>
          bdV (e_X10_tell ((v11).toInt64) σ10) (fun σ12 =>
          if ((nI 51) + ((nI 6) * p1)) + p2 < 0 ∨ 1432 ≤ (((nI 51) + ((nI 6) * p1)) + p2).toNatClampNeg then none else (
          some (some (some (.inl (σ12.1 (30, 0, 0, 0) ((((nI 51) + ((nI 6) * p1)) + p2).toNatClampNeg)))), σ12))))))))))))) := (EvOf_eq mcode _).trans rfl
set_option maxRecDepth 100000 in
set_option maxHeartbeats 4000000 in
theorem q_X10_hidden (σ : mS) : e_X10_hidden σ =
  let σ1 := st σ (10, 0, 0, 0) 5 (nI 0);
  let σ2 := st σ1 (10, 0, 0, 0) 4 (nI 0);
  b_X10_hidden_12 (nI 0) σ2 := (EvOf_eq mcode _).trans rfl
set_option maxRecDepth 100000 in
set_option maxHeartbeats 4000000 in
theorem q_X10_hidden_12 (x1 : Int32) (σ : mS) : b_X10_hidden_12 x1 σ =
  if nI 0 < 0 ∨ 1432 ≤ (nI 0).toNatClampNeg then none else (
  if x1 < σ.1 (30, 0, 0, 0) ((nI 0).toNatClampNeg) then (
    b_X10_hidden_26 x1 (x1 + (nI 1)) σ)
  else (
    some (some (some (.inl (σ.1 (10, 0, 0, 0) 4))), σ))) := (EvOf_eq mcode _).trans rfl
set_option maxRecDepth 100000 in
set_option maxHeartbeats 4000000 in
theorem q_X10_hidden_26 (x1 : Int32) (x2 : Int32) (σ : mS) : b_X10_hidden_26 x1 x2 σ =
  if nI 0 < 0 ∨ 1432 ≤ (nI 0).toNatClampNeg then none else (
  if x2 < σ.1 (30, 0, 0, 0) ((nI 0).toNatClampNeg) then (
    bdI (e_X10_hears x1 x2 σ) (fun v2 σ1 =>
    if v2 = 0 then (
      bdI (e_X10_heardBy x1 σ1) (fun v4 σ3 =>
      bdI (e_X10_heardBy x2 σ3) (fun v6 σ5 =>
      if v4 &&& v6 = 0 then (
        b_X10_hidden_26 x1 (x2 + 1) σ5)
      else (
        bdV (e_X10_tell ((((nI 6) * x1) + x2).toInt64) σ5) (fun σ7 =>
        b_X10_hidden_26 x1 (x2 + 1) σ7)))))
    else (
      b_X10_hidden_26 x1 (x2 + 1) σ1)))
  else (
    b_X10_hidden_12 (x1 + 1) σ)) := (EvOf_eq mcode _).trans rfl
set_option maxRecDepth 100000 in
set_option maxHeartbeats 4000000 in
theorem q_X10_tally (p1 : Int32) (p2 : Int32) (σ : mS) : e_X10_tally p1 p2 σ =
  let σ1 := st σ (10, 0, 0, 0) 5 (nI 0);
  bdI (e_X10_isStation p1 σ1) (fun v3 σ2 =>
  if v3 = 0 then (
    bdI (e_X10_lost σ2) (fun v5 σ4 =>
    some (some (some (.inl v5)), σ4)))
  else (
    bdI (e_X10_in p2 (nI 0) (nI 8) σ2) (fun v7 σ6 =>
    if v7 = 0 then (
      bdI (e_X10_lost σ6) (fun v9 σ8 =>
      some (some (some (.inl v9)), σ8)))
    else (
      if ((nI 1275) + ((nI 9) * p1)) + p2 < 0 ∨ 1432 ≤ (((nI 1275) + ((nI 9) * p1)) + p2).toNatClampNeg then none else (
      some (some (some (.inl (σ6.1 (30, 0, 0, 0) ((((nI 1275) + ((nI 9) * p1)) + p2).toNatClampNeg)))), σ6)))))) := (EvOf_eq mcode _).trans rfl
set_option maxRecDepth 100000 in
set_option maxHeartbeats 4000000 in
theorem q_X10_held (p1 : Int32) (σ : mS) : e_X10_held p1 σ =
  let σ1 := st σ (10, 0, 0, 0) 5 (nI 0);
  bdI (e_X10_isStation p1 σ1) (fun v3 σ2 =>
  if v3 = 0 then (
    some (some (some (.inl (-1))), σ2))
  else (
    let σ4 := st σ2 (10, 0, 0, 0) 4 (nI 0);
    b_X10_held_24 p1 (nI 0) (nI 0) σ4)) := (EvOf_eq mcode _).trans rfl
set_option maxRecDepth 100000 in
set_option maxHeartbeats 4000000 in
theorem q_X10_held_24 (x1 : Int32) (x2 : Int32) (x3 : Int32) (σ : mS) : b_X10_held_24 x1 x2 x3 σ =
  if x3 < nI 3 then (
    if ((nI 1402) + ((nI 3) * x1)) + x3 < 0 ∨ 1432 ≤ (((nI 1402) + ((nI 3) * x1)) + x3).toNatClampNeg then none else (
    bdV (e_X10_tell ((σ.1 (30, 0, 0, 0) ((((nI 1402) + ((nI 3) * x1)) + x3).toNatClampNeg)).toInt64) σ) (fun σ1 =>
    if ((nI 1402) + ((nI 3) * x1)) + x3 < 0 ∨ 1432 ≤ (((nI 1402) + ((nI 3) * x1)) + x3).toNatClampNeg then none else (
    b_X10_held_24 x1 (x2 + (σ1.1 (30, 0, 0, 0) ((((nI 1402) + ((nI 3) * x1)) + x3).toNatClampNeg))) (x3 + 1) σ1))))
  else (
    some (some (some (.inl x2)), σ)) := (EvOf_eq mcode _).trans rfl
set_option maxRecDepth 100000 in
set_option maxHeartbeats 4000000 in
theorem q_X10_why (p1 : Int32) (σ : mS) : e_X10_why p1 σ =
  let σ1 := st σ (10, 0, 0, 0) 5 (nI 0);
  bdI (e_X10_isStation p1 σ1) (fun v3 σ2 =>
  if v3 = 0 then (
    some (some (some (.inl (-1))), σ2))
  else (
    if (nI 1342) + ((nI 3) * p1) < 0 ∨ 1432 ≤ ((nI 1342) + ((nI 3) * p1)).toNatClampNeg then none else (
    if σ2.1 (30, 0, 0, 0) (((nI 1342) + ((nI 3) * p1)).toNatClampNeg) = 0 then (
      some (some (some (.inl (-2))), σ2))
    else (
      let σ4 := st σ2 (10, 0, 0, 0) 4 (nI 0);
      if ((nI 1342) + ((nI 3) * p1)) + (nI 1) < 0 ∨ 1432 ≤ (((nI 1342) + ((nI 3) * p1)) + (nI 1)).toNatClampNeg then none else (
      bdV (e_X10_tell ((σ4.1 (30, 0, 0, 0) ((((nI 1342) + ((nI 3) * p1)) + (nI 1)).toNatClampNeg)).toInt64) σ4) (fun σ5 =>
      if ((nI 1342) + ((nI 3) * p1)) + (nI 2) < 0 ∨ 1432 ≤ (((nI 1342) + ((nI 3) * p1)) + (nI 2)).toNatClampNeg then none else (
      bdV (e_X10_tell ((σ5.1 (30, 0, 0, 0) ((((nI 1342) + ((nI 3) * p1)) + (nI 2)).toNatClampNeg)).toInt64) σ5) (fun σ6 =>
      if (nI 1342) + ((nI 3) * p1) < 0 ∨ 1432 ≤ ((nI 1342) + ((nI 3) * p1)).toNatClampNeg then none else (
      some (some (some (.inl (σ6.1 (30, 0, 0, 0) (((nI 1342) + ((nI 3) * p1)).toNatClampNeg)))), σ6)))))))))) := (EvOf_eq mcode _).trans rfl
set_option maxRecDepth 100000 in
set_option maxHeartbeats 4000000 in
theorem q_X10_spoilt (p1 : Int32) (p2 : Int32) (σ : mS) : e_X10_spoilt p1 p2 σ =
  let σ1 := st σ (10, 0, 0, 0) 5 (nI 0);
  bdI (e_X10_isStation p1 σ1) (fun v3 σ2 =>
  if v3 = 0 then (
    some (some (some (.inl (-1))), σ2))
  else (
    bdI (e_X10_isStation p2 σ2) (fun v5 σ4 =>
    if v5 = 0 then (
      some (some (some (.inl (-1))), σ4))
    else (
      if p1 = p2 then (
        some (some (some (.inl (-1))), σ4))
      else (
        let σ6 := st σ4 (10, 0, 0, 0) 4 (nI 0);
        if (nI 1396) + p1 < 0 ∨ 1432 ≤ ((nI 1396) + p1).toNatClampNeg then none else (
        bdV (e_X10_tell ((σ6.1 (30, 0, 0, 0) (((nI 1396) + p1).toNatClampNeg)).toInt64) σ6) (fun σ7 =>
        if ((nI 1360) + ((nI 6) * p1)) + p2 < 0 ∨ 1432 ≤ (((nI 1360) + ((nI 6) * p1)) + p2).toNatClampNeg then none else (
        some (some (some (.inl (σ7.1 (30, 0, 0, 0) ((((nI 1360) + ((nI 6) * p1)) + p2).toNatClampNeg)))), σ7))))))))) := (EvOf_eq mcode _).trans rfl
set_option maxRecDepth 100000 in
set_option maxHeartbeats 4000000 in
theorem q_X10_even (σ : mS) : e_X10_even σ =
  let σ1 := st σ (10, 0, 0, 0) 5 (nI 0);
  b_X10_even_12 (lN 0) (lN 0) (nI 0) σ1 := (EvOf_eq mcode _).trans rfl
set_option maxRecDepth 100000 in
set_option maxHeartbeats 4000000 in
theorem q_X10_even_12 (y1 : Int64) (y3 : Int64) (x5 : Int32) (σ : mS) : b_X10_even_12 y1 y3 x5 σ =
  if nI 0 < 0 ∨ 1432 ≤ (nI 0).toNatClampNeg then none else (
  if x5 < σ.1 (30, 0, 0, 0) ((nI 0).toNatClampNeg) then (
    if ((nI 1275) + ((nI 9) * x5)) + (nI 1) < 0 ∨ 1432 ≤ (((nI 1275) + ((nI 9) * x5)) + (nI 1)).toNatClampNeg then none else (
    b_X10_even_12 (y1 + ((σ.1 (30, 0, 0, 0) ((((nI 1275) + ((nI 9) * x5)) + (nI 1)).toNatClampNeg)).toInt64)) (y3 + (((σ.1 (30, 0, 0, 0) ((((nI 1275) + ((nI 9) * x5)) + (nI 1)).toNatClampNeg)).toInt64) * ((σ.1 (30, 0, 0, 0) ((((nI 1275) + ((nI 9) * x5)) + (nI 1)).toNatClampNeg)).toInt64))) (x5 + 1) σ))
  else (
    if lg_cmp y1 (lN 0) = 0 then (
      some (some (some (.inl (-2))), σ))
    else (
      if nI 0 < 0 ∨ 1432 ≤ (nI 0).toNatClampNeg then none else (
      bdL (e_X10_commonLong (y1 * y1) (((σ.1 (30, 0, 0, 0) ((nI 0).toNatClampNeg)).toInt64) * y3) σ) (fun v2 σ1 =>
      let σ3 := st σ1 (10, 0, 0, 0) 4 (nI 0);
      if v2 = 0 then none else (
      bdV (e_X10_tell ((y1 * y1) / v2) σ3) (fun σ4 =>
      if nI 0 < 0 ∨ 1432 ≤ (nI 0).toNatClampNeg then none else (
      if v2 = 0 then none else (
      bdV (e_X10_tell ((((σ4.1 (30, 0, 0, 0) ((nI 0).toNatClampNeg)).toInt64) * y3) / v2) σ4) (fun σ5 =>
      some (some (some (.inl (nI 0))), σ5))))))))))) := (EvOf_eq mcode _).trans rfl
set_option maxRecDepth 100000 in
set_option maxHeartbeats 4000000 in
theorem q_X10_busy (σ : mS) : e_X10_busy σ =
  let σ1 := st σ (10, 0, 0, 0) 5 (nI 0);
  let σ2 := st σ1 (10, 0, 0, 0) 4 (nI 0);
  if nI 1334 < 0 ∨ 1432 ≤ (nI 1334).toNatClampNeg then none else (
  bdV (e_X10_tell ((σ2.1 (30, 0, 0, 0) ((nI 1334).toNatClampNeg)).toInt64) σ2) (fun σ3 =>
  if nI 1335 < 0 ∨ 1432 ≤ (nI 1335).toNatClampNeg then none else (
  bdV (e_X10_tell ((σ3.1 (30, 0, 0, 0) ((nI 1335).toNatClampNeg)).toInt64) σ3) (fun σ4 =>
  if nI 1333 < 0 ∨ 1432 ≤ (nI 1333).toNatClampNeg then none else (
  some (some (some (.inl (σ4.1 (30, 0, 0, 0) ((nI 1333).toNatClampNeg)))), σ4)))))) := (EvOf_eq mcode _).trans rfl
set_option maxRecDepth 100000 in
set_option maxHeartbeats 4000000 in
theorem q_X10_power (p0 : Int32) (p1 : Int32) (σ : mS) : e_X10_power p0 p1 σ =
  b_X10_power_4 p0 p1 (nI 1) (nI 0) σ := (EvOf_eq mcode _).trans rfl
set_option maxRecDepth 100000 in
set_option maxHeartbeats 4000000 in
theorem q_X10_power_4 (x0 : Int32) (x1 : Int32) (x2 : Int32) (x3 : Int32) (σ : mS) : b_X10_power_4 x0 x1 x2 x3 σ =
  if x3 < x1 then (
    b_X10_power_4 x0 x1 (x2 * x0) (x3 + 1) σ)
  else (
    some (some (some (.inl x2)), σ)) := (EvOf_eq mcode _).trans rfl
set_option maxRecDepth 100000 in
set_option maxHeartbeats 4000000 in
theorem q_X10_waysAlone (p0 : Int32) (p1 : Int32) (σ : mS) : e_X10_waysAlone p0 p1 σ =
  b_X10_waysAlone_4 p0 p1 (nI 0) (nI 0) σ := (EvOf_eq mcode _).trans rfl
set_option maxRecDepth 100000 in
set_option maxHeartbeats 4000000 in
theorem q_X10_waysAlone_4 (x0 : Int32) (x1 : Int32) (x2 : Int32) (x3 : Int32) (σ : mS) : b_X10_waysAlone_4 x0 x1 x2 x3 σ =
  if x1 < x3 then (
    some (some (some (.inl (x0 * x2))), σ))
  else (
    bdI (e_X10_power (x1 - x3) (x0 - (nI 1)) σ) (fun v2 σ1 =>
    b_X10_waysAlone_4 x0 x1 (x2 + v2) (x3 + 1) σ1)) := (EvOf_eq mcode _).trans rfl
set_option maxRecDepth 100000 in
set_option maxHeartbeats 4000000 in
theorem q_X10_odds (p1 : Int32) (p2 : Int32) (σ : mS) : e_X10_odds p1 p2 σ =
  let σ1 := st σ (10, 0, 0, 0) 5 (nI 0);
  bdI (e_X10_in p1 (nI 1) (nI 5) σ1) (fun v3 σ2 =>
  if v3 = 0 then (
    some (some (some (.inl (-1))), σ2))
  else (
    bdI (e_X10_in p2 (nI 0) (nI 31) σ2) (fun v5 σ4 =>
    if v5 = 0 then (
      some (some (some (.inl (-1))), σ4))
    else (
      bdI (e_X10_waysAlone p1 p2 σ4) (fun v7 σ6 =>
      bdI (e_X10_power (p2 + (nI 1)) p1 σ6) (fun v9 σ8 =>
      bdI (e_X10_common v7 v9 σ8) (fun v11 σ10 =>
      let σ12 := st σ10 (10, 0, 0, 0) 4 (nI 0);
      if v11 = 0 then none else (
      bdV (e_X10_tell ((v7 / v11).toInt64) σ12) (fun σ13 =>
      if v11 = 0 then none else (
      bdV (e_X10_tell ((v9 / v11).toInt64) σ13) (fun σ14 =>
      some (some (some (.inl (nI 0))), σ14)))))))))))) := (EvOf_eq mcode _).trans rfl
set_option maxRecDepth 100000 in
set_option maxHeartbeats 4000000 in
theorem q_X10_window (p1 : Int32) (p2 : Int32) (σ : mS) : e_X10_window p1 p2 σ =
  let σ1 := st σ (10, 0, 0, 0) 5 (nI 0);
  bdI (e_X10_in p1 (nI 1) (nI 5) σ1) (fun v3 σ2 =>
  if v3 = 0 then (
    some (some (some (.inl (-1))), σ2))
  else (
    bdI (e_X10_in p2 (nI 0) (nI 100) σ2) (fun v5 σ4 =>
    if v5 = 0 then (
      some (some (some (.inl (-1))), σ4))
    else (
      b_X10_window_28 p1 p2 (nI 0) σ4)))) := (EvOf_eq mcode _).trans rfl
set_option maxRecDepth 100000 in
set_option maxHeartbeats 4000000 in
theorem q_X10_window_28 (x1 : Int32) (x2 : Int32) (x3 : Int32) (σ : mS) : b_X10_window_28 x1 x2 x3 σ =
  if nI 31 < x3 then (
    some (some (some (.inl (-2))), σ))
  else (
    bdI (e_X10_waysAlone x1 x3 σ) (fun v2 σ1 =>
    bdI (e_X10_power (x3 + (nI 1)) x1 σ1) (fun v4 σ3 =>
    if lg_cmp ((lN 100) * ((v2).toInt64)) (((x2).toInt64) * ((v4).toInt64)) < 0 then (
      b_X10_window_28 x1 x2 (x3 + 1) σ3)
    else (
      some (some (some (.inl x3)), σ3))))) := (EvOf_eq mcode _).trans rfl
set_option maxRecDepth 100000 in
set_option maxHeartbeats 4000000 in
theorem q_X10_layAside (σ : mS) : e_X10_layAside σ =
  b_X10_layAside_2 (nI 0) σ := (EvOf_eq mcode _).trans rfl
set_option maxRecDepth 100000 in
set_option maxHeartbeats 4000000 in
theorem q_X10_layAside_2 (x1 : Int32) (σ : mS) : b_X10_layAside_2 x1 σ =
  if x1 < nI 1432 then (
    if x1 < 0 ∨ 1432 ≤ x1.toNatClampNeg then none else (
    if x1 < 0 ∨ 1432 ≤ x1.toNatClampNeg then none else (
    let σ1 := st σ (36, 0, 0, 0) x1.toNatClampNeg (σ.1 (30, 0, 0, 0) x1.toNatClampNeg);
    b_X10_layAside_2 (x1 + 1) σ1)))
  else (
    some (some none, σ)) := (EvOf_eq mcode _).trans rfl
set_option maxRecDepth 100000 in
set_option maxHeartbeats 4000000 in
theorem q_X10_comesBack (σ : mS) : e_X10_comesBack σ =
  b_X10_comesBack_2 (nI 0) σ := (EvOf_eq mcode _).trans rfl
set_option maxRecDepth 100000 in
set_option maxHeartbeats 4000000 in
theorem q_X10_comesBack_2 (x1 : Int32) (σ : mS) : b_X10_comesBack_2 x1 σ =
  if x1 < nI 1432 then (
    if x1 < 0 ∨ 1432 ≤ x1.toNatClampNeg then none else (
    if x1 < 0 ∨ 1432 ≤ x1.toNatClampNeg then none else (
    let σ1 := st σ (30, 0, 0, 0) x1.toNatClampNeg (σ.1 (36, 0, 0, 0) x1.toNatClampNeg);
    b_X10_comesBack_2 (x1 + 1) σ1)))
  else (
    some (some none, σ)) := (EvOf_eq mcode _).trans rfl
set_option maxRecDepth 100000 in
set_option maxHeartbeats 4000000 in
theorem q_X10_ahead (p1 : Int32) (p2 : Int32) (σ : mS) : e_X10_ahead p1 p2 σ =
  let σ1 := st σ (10, 0, 0, 0) 5 (nI 0);
  bdI (e_X10_in p1 (nI 1) (nI 60) σ1) (fun v3 σ2 =>
  if v3 = 0 then (
    some (some (some (.inl (-1))), σ2))
  else (
    bdI (e_X10_in p2 (nI 0) (nI 4) σ2) (fun v5 σ4 =>
    if v5 = 0 then (
      some (some (some (.inl (-1))), σ4))
    else (
      bdV (e_X10_layAside σ4) (fun σ6 =>
      bdV (e_X10_goSlots p1 σ6) (fun σ7 =>
      if p2 = 0 then (
        if nI 1336 < 0 ∨ 1432 ≤ (nI 1336).toNatClampNeg then none else (
        if nI 1336 < 0 ∨ 1432 ≤ (nI 1336).toNatClampNeg then none else (
        bdV (e_X10_comesBack σ7) (fun σ8 =>
        some (some (some (.inl ((σ7.1 (30, 0, 0, 0) ((nI 1336).toNatClampNeg)) - (σ7.1 (36, 0, 0, 0) ((nI 1336).toNatClampNeg))))), σ8)))))
      else (
        if p2 = nI 1 then (
          if nI 1337 < 0 ∨ 1432 ≤ (nI 1337).toNatClampNeg then none else (
          if nI 1337 < 0 ∨ 1432 ≤ (nI 1337).toNatClampNeg then none else (
          bdV (e_X10_comesBack σ7) (fun σ9 =>
          some (some (some (.inl ((σ7.1 (30, 0, 0, 0) ((nI 1337).toNatClampNeg)) - (σ7.1 (36, 0, 0, 0) ((nI 1337).toNatClampNeg))))), σ9)))))
        else (
          if p2 = nI 2 then (
            if nI 1338 < 0 ∨ 1432 ≤ (nI 1338).toNatClampNeg then none else (
            if nI 1338 < 0 ∨ 1432 ≤ (nI 1338).toNatClampNeg then none else (
            bdV (e_X10_comesBack σ7) (fun σ10 =>
            some (some (some (.inl ((σ7.1 (30, 0, 0, 0) ((nI 1338).toNatClampNeg)) - (σ7.1 (36, 0, 0, 0) ((nI 1338).toNatClampNeg))))), σ10)))))
          else (
            if p2 = nI 3 then (
              bdI (e_X10_allWaiting σ7) (fun v12 σ11 =>
              bdV (e_X10_comesBack σ11) (fun σ13 =>
              some (some (some (.inl v12)), σ13))))
            else (
              if nI 1329 < 0 ∨ 1432 ≤ (nI 1329).toNatClampNeg then none else (
              bdV (e_X10_comesBack σ7) (fun σ14 =>
              some (some (some (.inl (σ7.1 (30, 0, 0, 0) ((nI 1329).toNatClampNeg)))), σ14))))))))))))) := (EvOf_eq mcode _).trans rfl
set_option maxRecDepth 100000 in
set_option maxHeartbeats 4000000 in
theorem q_X10_isQuiet (σ : mS) : e_X10_isQuiet σ =
  bdI (e_X10_allWaiting σ) (fun v2 σ1 =>
  if v2 = 0 then (
    bdI (e_X10_goesOn σ1) (fun v4 σ3 =>
    if v4 = 0 then (
      if nI 1 = 0 ∨ nI 1 = 1 then some (some (some (.inl (nI 1))), σ3) else none)
    else (
      if nI 0 = 0 ∨ nI 0 = 1 then some (some (some (.inl (nI 0))), σ3) else none)))
  else (
    if nI 0 = 0 ∨ nI 0 = 1 then some (some (some (.inl (nI 0))), σ1) else none)) := (EvOf_eq mcode _).trans rfl
set_option maxRecDepth 100000 in
set_option maxHeartbeats 4000000 in
theorem q_X10_quiet (σ : mS) : e_X10_quiet σ =
  let σ1 := st σ (10, 0, 0, 0) 5 (nI 0);
  bdV (e_X10_layAside σ1) (fun σ2 =>
  b_X10_quiet_11 (nI 0) σ2) := (EvOf_eq mcode _).trans rfl
set_option maxRecDepth 100000 in
set_option maxHeartbeats 4000000 in
theorem q_X10_quiet_11 (x1 : Int32) (σ : mS) : b_X10_quiet_11 x1 σ =
  if x1 < nI 99 then (
    bdI (e_X10_isQuiet σ) (fun v2 σ1 =>
    if v2 = 0 then (
      bdV (e_X10_slot σ1) (fun σ3 =>
      b_X10_quiet_11 (x1 + 1) σ3))
    else (
      bdI (e_X10_isQuiet σ1) (fun v5 σ4 =>
      if nI 1336 < 0 ∨ 1432 ≤ (nI 1336).toNatClampNeg then none else (
      if nI 1336 < 0 ∨ 1432 ≤ (nI 1336).toNatClampNeg then none else (
      bdV (e_X10_comesBack σ4) (fun σ6 =>
      if v5 = 0 then (
        some (some (some (.inl (-2))), σ6))
      else (
        let σ7 := st σ6 (10, 0, 0, 0) 4 (nI 0);
        bdV (e_X10_tell (((σ4.1 (30, 0, 0, 0) ((nI 1336).toNatClampNeg)) - (σ4.1 (36, 0, 0, 0) ((nI 1336).toNatClampNeg))).toInt64) σ7) (fun σ8 =>
        some (some (some (.inl x1)), σ8))))))))))
  else (
    bdI (e_X10_isQuiet σ) (fun v10 σ9 =>
    if nI 1336 < 0 ∨ 1432 ≤ (nI 1336).toNatClampNeg then none else (
    if nI 1336 < 0 ∨ 1432 ≤ (nI 1336).toNatClampNeg then none else (
    bdV (e_X10_comesBack σ9) (fun σ11 =>
    if v10 = 0 then (
      some (some (some (.inl (-2))), σ11))
    else (
      let σ12 := st σ11 (10, 0, 0, 0) 4 (nI 0);
      bdV (e_X10_tell (((σ9.1 (30, 0, 0, 0) ((nI 1336).toNatClampNeg)) - (σ9.1 (36, 0, 0, 0) ((nI 1336).toNatClampNeg))).toInt64) σ12) (fun σ13 =>
      some (some (some (.inl x1)), σ13)))))))) := (EvOf_eq mcode _).trans rfl
set_option maxRecDepth 100000 in
set_option maxHeartbeats 4000000 in
theorem q_X10_next (σ : mS) : e_X10_next σ =
  let σ1 := st σ (10, 0, 0, 0) 5 (nI 0);
  bdV (e_X10_layAside σ1) (fun σ2 =>
  b_X10_next_13 (nI 0) (nI 0) σ2) := (EvOf_eq mcode _).trans rfl
set_option maxRecDepth 100000 in
set_option maxHeartbeats 4000000 in
theorem q_X10_next_13 (x1 : Int32) (x2 : Int32) (σ : mS) : b_X10_next_13 x1 x2 σ =
  if x1 < nI 99 then (
    if x2 = 0 then (
      bdV (e_X10_slot σ) (fun σ1 =>
      if nI 1341 < 0 ∨ 1432 ≤ (nI 1341).toNatClampNeg then none else (
      b_X10_next_13 (x1 + 1) (σ1.1 (30, 0, 0, 0) ((nI 1341).toNatClampNeg)) σ1)))
    else (
      bdV (e_X10_comesBack σ) (fun σ2 =>
      if x2 = 0 then (
        some (some (some (.inl (-2))), σ2))
      else (
        let σ3 := st σ2 (10, 0, 0, 0) 4 (nI 0);
        bdV (e_X10_tell ((x2).toInt64) σ3) (fun σ4 =>
        some (some (some (.inl (x1 - (nI 1)))), σ4))))))
  else (
    bdV (e_X10_comesBack σ) (fun σ5 =>
    if x2 = 0 then (
      some (some (some (.inl (-2))), σ5))
    else (
      let σ6 := st σ5 (10, 0, 0, 0) 4 (nI 0);
      bdV (e_X10_tell ((x2).toInt64) σ6) (fun σ7 =>
      some (some (some (.inl (x1 - (nI 1)))), σ7))))) := (EvOf_eq mcode _).trans rfl
set_option maxRecDepth 100000 in
set_option maxHeartbeats 4000000 in
theorem q_X10_takes (p1 : Int32) (p2 : Int32) (σ : mS) : e_X10_takes p1 p2 σ =
  bdV (e_X10_layAside σ) (fun σ1 =>
  if nI 1340 < 0 ∨ 1432 ≤ (nI 1340).toNatClampNeg then none else (
  let σ2 := st σ1 (30, 0, 0, 0) ((nI 1340).toNatClampNeg) (nI 0);
  bdV (e_X10_put p1 (nI 0) p2 (nI 1) (nI 1) σ2) (fun σ3 =>
  b_X10_takes_24 (nI 0) σ3))) := (EvOf_eq mcode _).trans rfl
set_option maxRecDepth 100000 in
set_option maxHeartbeats 4000000 in
theorem q_X10_takes_24 (x3 : Int32) (σ : mS) : b_X10_takes_24 x3 σ =
  if x3 < nI 99 then (
    if nI 1340 < 0 ∨ 1432 ≤ (nI 1340).toNatClampNeg then none else (
    if σ.1 (30, 0, 0, 0) ((nI 1340).toNatClampNeg) = 0 then (
      bdV (e_X10_slot σ) (fun σ1 =>
      b_X10_takes_24 (x3 + 1) σ1))
    else (
      if nI 1340 < 0 ∨ 1432 ≤ (nI 1340).toNatClampNeg then none else (
      if σ.1 (30, 0, 0, 0) ((nI 1340).toNatClampNeg) = nI 1 then (
        bdV (e_X10_comesBack σ) (fun σ2 =>
        if nI 1 = 0 then (
          some (some (some (.inl (nI 0))), σ2))
        else (
          some (some (some (.inl x3)), σ2))))
      else (
        bdV (e_X10_comesBack σ) (fun σ3 =>
        if nI 0 = 0 then (
          some (some (some (.inl (nI 0))), σ3))
        else (
          some (some (some (.inl x3)), σ3))))))))
  else (
    if nI 1340 < 0 ∨ 1432 ≤ (nI 1340).toNatClampNeg then none else (
    if σ.1 (30, 0, 0, 0) ((nI 1340).toNatClampNeg) = nI 1 then (
      bdV (e_X10_comesBack σ) (fun σ4 =>
      if nI 1 = 0 then (
        some (some (some (.inl (nI 0))), σ4))
      else (
        some (some (some (.inl x3)), σ4))))
    else (
      bdV (e_X10_comesBack σ) (fun σ5 =>
      if nI 0 = 0 then (
        some (some (some (.inl (nI 0))), σ5))
      else (
        some (some (some (.inl x3)), σ5)))))) := (EvOf_eq mcode _).trans rfl
set_option maxRecDepth 100000 in
set_option maxHeartbeats 4000000 in
theorem q_X10_soonest (p1 : Int32) (σ : mS) : e_X10_soonest p1 σ =
  let σ1 := st σ (10, 0, 0, 0) 5 (nI 0);
  bdI (e_X10_isStation p1 σ1) (fun v3 σ2 =>
  if v3 = 0 then (
    some (some (some (.inl (-1))), σ2))
  else (
    b_X10_soonest_22 p1 (-1) (nI 0) (nI 0) σ2)) := (EvOf_eq mcode _).trans rfl
set_option maxRecDepth 100000 in
set_option maxHeartbeats 4000000 in
theorem q_X10_soonest_22 (x1 : Int32) (x2 : Int32) (x3 : Int32) (x4 : Int32) (σ : mS) : b_X10_soonest_22 x1 x2 x3 x4 σ =
  if nI 0 < 0 ∨ 1432 ≤ (nI 0).toNatClampNeg then none else (
  if x4 < σ.1 (30, 0, 0, 0) ((nI 0).toNatClampNeg) then (
    bdI (e_X10_hears x4 x1 σ) (fun v2 σ1 =>
    if v2 = 0 then (
      b_X10_soonest_22 x1 x2 x3 (x4 + 1) σ1)
    else (
      bdI (e_X10_at x4 (nI 0) σ1) (fun v4 σ3 =>
      if (nI 147) + v4 < 0 ∨ 1432 ≤ ((nI 147) + v4).toNatClampNeg then none else (
      if σ3.1 (30, 0, 0, 0) (((nI 147) + v4).toNatClampNeg) = nI 8 then (
        b_X10_soonest_22 x1 x2 x3 (x4 + 1) σ3)
      else (
        bdI (e_X10_takes x4 x1 σ3) (fun v6 σ5 =>
        if v6 = 0 then (
          b_X10_soonest_22 x1 x2 x3 (x4 + 1) σ5)
        else (
          if x2 = (-1) then (
            b_X10_soonest_22 x1 x4 v6 (x4 + 1) σ5)
          else (
            if v6 < x3 then (
              b_X10_soonest_22 x1 x4 v6 (x4 + 1) σ5)
            else (
              b_X10_soonest_22 x1 x2 x3 (x4 + 1) σ5))))))))))
  else (
    if x2 = (-1) then (
      some (some (some (.inl (-2))), σ))
    else (
      let σ7 := st σ (10, 0, 0, 0) 4 (nI 0);
      bdV (e_X10_tell ((x3).toInt64) σ7) (fun σ8 =>
      some (some (some (.inl x2)), σ8))))) := (EvOf_eq mcode _).trans rfl
set_option maxRecDepth 100000 in
set_option maxHeartbeats 4000000 in
theorem q_X10_readAct (p1 : Int32) (σ : mS) : e_X10_readAct p1 σ =
  bdI (e_X10_here σ) (fun v2 σ1 =>
  if v2 = nI 102 then (
    let σ3 := st σ1 (10, 0, 0, 0) 7 ((σ1.1 (10, 0, 0, 0) 7) + (nI 1));
    if p1 < 0 ∨ 400 ≤ p1.toNatClampNeg then none else (
    let σ4 := st σ3 (37, 0, 0, 0) p1.toNatClampNeg v2;
    if v2 = nI 115 then (
      bdI (e_X10_twoDigits σ4) (fun v6 σ5 =>
      if p1 + (nI 1) < 0 ∨ 400 ≤ (p1 + (nI 1)).toNatClampNeg then none else (
      let σ7 := st σ5 (37, 0, 0, 0) ((p1 + (nI 1)).toNatClampNeg) v6;
      b_X10_readAct_67 p1 v2 σ7)))
    else (
      b_X10_readAct_67 p1 v2 σ4)))
  else (
    if v2 = nI 115 then (
      let σ8 := st σ1 (10, 0, 0, 0) 7 ((σ1.1 (10, 0, 0, 0) 7) + (nI 1));
      if p1 < 0 ∨ 400 ≤ p1.toNatClampNeg then none else (
      let σ9 := st σ8 (37, 0, 0, 0) p1.toNatClampNeg v2;
      if v2 = nI 115 then (
        bdI (e_X10_twoDigits σ9) (fun v11 σ10 =>
        if p1 + (nI 1) < 0 ∨ 400 ≤ (p1 + (nI 1)).toNatClampNeg then none else (
        let σ12 := st σ10 (37, 0, 0, 0) ((p1 + (nI 1)).toNatClampNeg) v11;
        b_X10_readAct_67 p1 v2 σ12)))
      else (
        b_X10_readAct_67 p1 v2 σ9)))
    else (
      if v2 = nI 100 then (
        let σ13 := st σ1 (10, 0, 0, 0) 7 ((σ1.1 (10, 0, 0, 0) 7) + (nI 1));
        if p1 < 0 ∨ 400 ≤ p1.toNatClampNeg then none else (
        let σ14 := st σ13 (37, 0, 0, 0) p1.toNatClampNeg v2;
        if v2 = nI 115 then (
          bdI (e_X10_twoDigits σ14) (fun v16 σ15 =>
          if p1 + (nI 1) < 0 ∨ 400 ≤ (p1 + (nI 1)).toNatClampNeg then none else (
          let σ17 := st σ15 (37, 0, 0, 0) ((p1 + (nI 1)).toNatClampNeg) v16;
          b_X10_readAct_67 p1 v2 σ17)))
        else (
          b_X10_readAct_67 p1 v2 σ14)))
      else (
        bdV (e_X10_fault (σ1.1 (10, 0, 0, 0) 7) σ1) (fun σ18 =>
        some (some none, σ18)))))) := (EvOf_eq mcode _).trans rfl
set_option maxRecDepth 100000 in
set_option maxHeartbeats 4000000 in
theorem q_X10_readAct_67 (x1 : Int32) (x2 : Int32) (σ : mS) : b_X10_readAct_67 x1 x2 σ =
  if x2 = nI 102 then (
    bdI (e_X10_oneOf (nI 97) (nI 6) σ) (fun v2 σ1 =>
    if x1 + (nI 1) < 0 ∨ 400 ≤ (x1 + (nI 1)).toNatClampNeg then none else (
    let σ3 := st σ1 (37, 0, 0, 0) ((x1 + (nI 1)).toNatClampNeg) v2;
    bdI (e_X10_oneOf (nI 48) (nI 4) σ3) (fun v5 σ4 =>
    if x1 + (nI 2) < 0 ∨ 400 ≤ (x1 + (nI 2)).toNatClampNeg then none else (
    let σ6 := st σ4 (37, 0, 0, 0) ((x1 + (nI 2)).toNatClampNeg) v5;
    bdI (e_X10_oneOf (nI 97) (nI 6) σ6) (fun v8 σ7 =>
    if x1 + (nI 3) < 0 ∨ 400 ≤ (x1 + (nI 3)).toNatClampNeg then none else (
    let σ9 := st σ7 (37, 0, 0, 0) ((x1 + (nI 3)).toNatClampNeg) v8;
    bdI (e_X10_oneOf (nI 49) (nI 9) σ9) (fun v11 σ10 =>
    if x1 + (nI 4) < 0 ∨ 400 ≤ (x1 + (nI 4)).toNatClampNeg then none else (
    let σ12 := st σ10 (37, 0, 0, 0) ((x1 + (nI 4)).toNatClampNeg) (v11 + (nI 1));
    some (some none, σ12))))))))))
  else (
    some (some none, σ)) := (EvOf_eq mcode _).trans rfl
set_option maxRecDepth 100000 in
set_option maxHeartbeats 4000000 in
theorem q_X10_act (p1 : Int32) (σ : mS) : e_X10_act p1 σ =
  if p1 < 0 ∨ 400 ≤ p1.toNatClampNeg then none else (
  if σ.1 (37, 0, 0, 0) p1.toNatClampNeg = nI 100 then (
    bdI (e_X10_drawAll σ) (fun v2 σ1 =>
    if nI 1 = 0 ∨ nI 1 = 1 then some (some (some (.inl (nI 1))), σ1) else none))
  else (
    if p1 < 0 ∨ 400 ≤ p1.toNatClampNeg then none else (
    if σ.1 (37, 0, 0, 0) p1.toNatClampNeg = nI 115 then (
      if p1 + (nI 1) < 0 ∨ 400 ≤ (p1 + (nI 1)).toNatClampNeg then none else (
      bdI (e_X10_in (σ.1 (37, 0, 0, 0) ((p1 + (nI 1)).toNatClampNeg)) (nI 1) (nI 60) σ) (fun v4 σ3 =>
      if v4 = 0 then (
        if nI 0 = 0 ∨ nI 0 = 1 then some (some (some (.inl (nI 0))), σ3) else none)
      else (
        if p1 + (nI 1) < 0 ∨ 400 ≤ (p1 + (nI 1)).toNatClampNeg then none else (
        bdV (e_X10_goSlots (σ3.1 (37, 0, 0, 0) ((p1 + (nI 1)).toNatClampNeg)) σ3) (fun σ5 =>
        if nI 1 = 0 ∨ nI 1 = 1 then some (some (some (.inl (nI 1))), σ5) else none))))))
    else (
      if p1 + (nI 1) < 0 ∨ 400 ≤ (p1 + (nI 1)).toNatClampNeg then none else (
      if p1 + (nI 2) < 0 ∨ 400 ≤ (p1 + (nI 2)).toNatClampNeg then none else (
      if p1 + (nI 3) < 0 ∨ 400 ≤ (p1 + (nI 3)).toNatClampNeg then none else (
      if p1 + (nI 4) < 0 ∨ 400 ≤ (p1 + (nI 4)).toNatClampNeg then none else (
      bdI (e_X10_refusesOffer (σ.1 (37, 0, 0, 0) ((p1 + (nI 1)).toNatClampNeg)) (σ.1 (37, 0, 0, 0) ((p1 + (nI 2)).toNatClampNeg)) (σ.1 (37, 0, 0, 0) ((p1 + (nI 3)).toNatClampNeg)) (σ.1 (37, 0, 0, 0) ((p1 + (nI 4)).toNatClampNeg)) σ) (fun v7 σ6 =>
      if v7 < 0 then (
        if nI 0 = 0 ∨ nI 0 = 1 then some (some (some (.inl (nI 0))), σ6) else none)
      else (
        if p1 + (nI 1) < 0 ∨ 400 ≤ (p1 + (nI 1)).toNatClampNeg then none else (
        if p1 + (nI 2) < 0 ∨ 400 ≤ (p1 + (nI 2)).toNatClampNeg then none else (
        if p1 + (nI 3) < 0 ∨ 400 ≤ (p1 + (nI 3)).toNatClampNeg then none else (
        if p1 + (nI 4) < 0 ∨ 400 ≤ (p1 + (nI 4)).toNatClampNeg then none else (
        bdV (e_X10_put (σ6.1 (37, 0, 0, 0) ((p1 + (nI 1)).toNatClampNeg)) (σ6.1 (37, 0, 0, 0) ((p1 + (nI 2)).toNatClampNeg)) (σ6.1 (37, 0, 0, 0) ((p1 + (nI 3)).toNatClampNeg)) (σ6.1 (37, 0, 0, 0) ((p1 + (nI 4)).toNatClampNeg)) (nI 0) σ6) (fun σ8 =>
        if nI 1 = 0 ∨ nI 1 = 1 then some (some (some (.inl (nI 1))), σ8) else none))))))))))))))) := (EvOf_eq mcode _).trans rfl
set_option maxRecDepth 100000 in
set_option maxHeartbeats 4000000 in
theorem q_X10_day (σ : mS) : e_X10_day σ =
  let σ1 := st σ (10, 0, 0, 0) 5 (nI 0);
  bdV (e_X10_begin σ1) (fun σ2 =>
  b_X10_day_11 (nI 0) σ2) := (EvOf_eq mcode _).trans rfl
set_option maxRecDepth 100000 in
set_option maxHeartbeats 4000000 in
theorem q_X10_day_11 (x1 : Int32) (σ : mS) : b_X10_day_11 x1 σ =
  bdI (e_X10_fine σ) (fun v2 σ1 =>
  if v2 = 0 then (
    bdI (e_X10_wasRight σ1) (fun v4 σ3 =>
    if v4 = 0 then (
      some (some (some (.inl ((-1) - (σ3.1 (10, 0, 0, 0) 8)))), σ3))
    else (
      b_X10_day_58 x1 (nI 0) σ3)))
  else (
    if σ1.1 (10, 0, 0, 0) 7 < σ1.1 (10, 0, 0, 0) 6 then (
      bdV (e_X10_readAct ((nI 5) * x1) σ1) (fun σ5 =>
      b_X10_day_11 (x1 + 1) σ5))
    else (
      bdI (e_X10_wasRight σ1) (fun v7 σ6 =>
      if v7 = 0 then (
        some (some (some (.inl ((-1) - (σ6.1 (10, 0, 0, 0) 8)))), σ6))
      else (
        b_X10_day_58 x1 (nI 0) σ6))))) := (EvOf_eq mcode _).trans rfl
set_option maxRecDepth 100000 in
set_option maxHeartbeats 4000000 in
theorem q_X10_day_58 (x1 : Int32) (x2 : Int32) (σ : mS) : b_X10_day_58 x1 x2 σ =
  if x2 < nI 1432 then (
    if x2 < 0 ∨ 1432 ≤ x2.toNatClampNeg then none else (
    if x2 < 0 ∨ 1432 ≤ x2.toNatClampNeg then none else (
    let σ1 := st σ (39, 0, 0, 0) x2.toNatClampNeg (σ.1 (30, 0, 0, 0) x2.toNatClampNeg);
    b_X10_day_58 x1 (x2 + 1) σ1)))
  else (
    if nI 1336 < 0 ∨ 1432 ≤ (nI 1336).toNatClampNeg then none else (
    b_X10_day_94 x1 (σ.1 (30, 0, 0, 0) ((nI 1336).toNatClampNeg)) (nI 0) σ)) := (EvOf_eq mcode _).trans rfl
set_option maxRecDepth 100000 in
set_option maxHeartbeats 4000000 in
theorem q_X10_day_94 (x1 : Int32) (x2 : Int32) (x3 : Int32) (σ : mS) : b_X10_day_94 x1 x2 x3 σ =
  if x3 < x1 then (
    bdI (e_X10_act ((nI 5) * x3) σ) (fun v2 σ1 =>
    if v2 = 0 then (
      if 0 < x3 then (
        bdV (e_X10_note σ1) (fun σ3 =>
        let σ4 := st σ3 (10, 0, 0, 0) 4 (nI 0);
        if x3 < x1 then (
          bdV (e_X10_tell (lN 1) σ4) (fun σ5 =>
          if nI 1336 < 0 ∨ 1432 ≤ (nI 1336).toNatClampNeg then none else (
          bdV (e_X10_tell (((σ5.1 (30, 0, 0, 0) ((nI 1336).toNatClampNeg)) - x2).toInt64) σ5) (fun σ6 =>
          some (some (some (.inl x3)), σ6)))))
        else (
          bdV (e_X10_tell (lN 0) σ4) (fun σ7 =>
          if nI 1336 < 0 ∨ 1432 ≤ (nI 1336).toNatClampNeg then none else (
          bdV (e_X10_tell (((σ7.1 (30, 0, 0, 0) ((nI 1336).toNatClampNeg)) - x2).toInt64) σ7) (fun σ8 =>
          some (some (some (.inl x3)), σ8)))))))
      else (
        let σ9 := st σ1 (10, 0, 0, 0) 4 (nI 0);
        if x3 < x1 then (
          bdV (e_X10_tell (lN 1) σ9) (fun σ10 =>
          if nI 1336 < 0 ∨ 1432 ≤ (nI 1336).toNatClampNeg then none else (
          bdV (e_X10_tell (((σ10.1 (30, 0, 0, 0) ((nI 1336).toNatClampNeg)) - x2).toInt64) σ10) (fun σ11 =>
          some (some (some (.inl x3)), σ11)))))
        else (
          bdV (e_X10_tell (lN 0) σ9) (fun σ12 =>
          if nI 1336 < 0 ∨ 1432 ≤ (nI 1336).toNatClampNeg then none else (
          bdV (e_X10_tell (((σ12.1 (30, 0, 0, 0) ((nI 1336).toNatClampNeg)) - x2).toInt64) σ12) (fun σ13 =>
          some (some (some (.inl x3)), σ13)))))))
    else (
      b_X10_day_94 x1 x2 (x3 + 1) σ1)))
  else (
    if 0 < x3 then (
      bdV (e_X10_note σ) (fun σ14 =>
      let σ15 := st σ14 (10, 0, 0, 0) 4 (nI 0);
      if x3 < x1 then (
        bdV (e_X10_tell (lN 1) σ15) (fun σ16 =>
        if nI 1336 < 0 ∨ 1432 ≤ (nI 1336).toNatClampNeg then none else (
        bdV (e_X10_tell (((σ16.1 (30, 0, 0, 0) ((nI 1336).toNatClampNeg)) - x2).toInt64) σ16) (fun σ17 =>
        some (some (some (.inl x3)), σ17)))))
      else (
        bdV (e_X10_tell (lN 0) σ15) (fun σ18 =>
        if nI 1336 < 0 ∨ 1432 ≤ (nI 1336).toNatClampNeg then none else (
        bdV (e_X10_tell (((σ18.1 (30, 0, 0, 0) ((nI 1336).toNatClampNeg)) - x2).toInt64) σ18) (fun σ19 =>
        some (some (some (.inl x3)), σ19)))))))
    else (
      let σ20 := st σ (10, 0, 0, 0) 4 (nI 0);
      if x3 < x1 then (
        bdV (e_X10_tell (lN 1) σ20) (fun σ21 =>
        if nI 1336 < 0 ∨ 1432 ≤ (nI 1336).toNatClampNeg then none else (
        bdV (e_X10_tell (((σ21.1 (30, 0, 0, 0) ((nI 1336).toNatClampNeg)) - x2).toInt64) σ21) (fun σ22 =>
        some (some (some (.inl x3)), σ22)))))
      else (
        bdV (e_X10_tell (lN 0) σ20) (fun σ23 =>
        if nI 1336 < 0 ∨ 1432 ≤ (nI 1336).toNatClampNeg then none else (
        bdV (e_X10_tell (((σ23.1 (30, 0, 0, 0) ((nI 1336).toNatClampNeg)) - x2).toInt64) σ23) (fun σ24 =>
        some (some (some (.inl x3)), σ24))))))) := (EvOf_eq mcode _).trans rfl
set_option maxRecDepth 100000 in
set_option maxHeartbeats 4000000 in
theorem q_X10_change (σ : mS) : e_X10_change σ =
  b_X10_change_2 (nI 0) σ := (EvOf_eq mcode _).trans rfl
set_option maxRecDepth 100000 in
set_option maxHeartbeats 4000000 in
theorem q_X10_change_2 (x1 : Int32) (σ : mS) : b_X10_change_2 x1 σ =
  if x1 < nI 1432 then (
    if x1 < 0 ∨ 1432 ≤ x1.toNatClampNeg then none else (
    if x1 < 0 ∨ 1432 ≤ x1.toNatClampNeg then none else (
    let σ1 := st σ (39, 0, 0, 0) x1.toNatClampNeg (σ.1 (30, 0, 0, 0) x1.toNatClampNeg);
    b_X10_change_2 (x1 + 1) σ1)))
  else (
    bdV (e_X10_note σ) (fun σ2 =>
    some (some none, σ2))) := (EvOf_eq mcode _).trans rfl
set_option maxRecDepth 100000 in
set_option maxHeartbeats 4000000 in
theorem q_X10_note (σ : mS) : e_X10_note σ =
  if σ.1 (10, 0, 0, 0) 17 = nI 6 then (
    b_X10_note_11 (nI 0) σ)
  else (
    b_X10_note_52 (nI 0) σ) := (EvOf_eq mcode _).trans rfl
set_option maxRecDepth 100000 in
set_option maxHeartbeats 4000000 in
theorem q_X10_note_11 (x1 : Int32) (σ : mS) : b_X10_note_11 x1 σ =
  if x1 < nI 7160 then (
    if x1 + (nI 1432) < 0 ∨ 8592 ≤ (x1 + (nI 1432)).toNatClampNeg then none else (
    if x1 < 0 ∨ 8592 ≤ x1.toNatClampNeg then none else (
    let σ1 := st σ (38, 0, 0, 0) x1.toNatClampNeg (σ.1 (38, 0, 0, 0) ((x1 + (nI 1432)).toNatClampNeg));
    b_X10_note_11 (x1 + 1) σ1)))
  else (
    let σ2 := st σ (10, 0, 0, 0) 17 ((σ.1 (10, 0, 0, 0) 17) - (nI 1));
    b_X10_note_52 (nI 0) σ2) := (EvOf_eq mcode _).trans rfl
set_option maxRecDepth 100000 in
set_option maxHeartbeats 4000000 in
theorem q_X10_note_52 (x1 : Int32) (σ : mS) : b_X10_note_52 x1 σ =
  if x1 < nI 1432 then (
    if x1 < 0 ∨ 1432 ≤ x1.toNatClampNeg then none else (
    if ((nI 1432) * (σ.1 (10, 0, 0, 0) 17)) + x1 < 0 ∨ 8592 ≤ (((nI 1432) * (σ.1 (10, 0, 0, 0) 17)) + x1).toNatClampNeg then none else (
    let σ1 := st σ (38, 0, 0, 0) ((((nI 1432) * (σ.1 (10, 0, 0, 0) 17)) + x1).toNatClampNeg) (σ.1 (39, 0, 0, 0) x1.toNatClampNeg);
    b_X10_note_52 (x1 + 1) σ1)))
  else (
    let σ2 := st σ (10, 0, 0, 0) 17 ((σ.1 (10, 0, 0, 0) 17) + (nI 1));
    some (some none, σ2)) := (EvOf_eq mcode _).trans rfl
set_option maxRecDepth 100000 in
set_option maxHeartbeats 4000000 in
theorem q_X10_undo (σ : mS) : e_X10_undo σ =
  let σ1 := st σ (10, 0, 0, 0) 5 (nI 0);
  if σ1.1 (10, 0, 0, 0) 17 = 0 then (
    some (some (some (.inl (-1))), σ1))
  else (
    let σ2 := st σ1 (10, 0, 0, 0) 17 ((σ1.1 (10, 0, 0, 0) 17) - (nI 1));
    b_X10_undo_26 (nI 0) σ2) := (EvOf_eq mcode _).trans rfl
set_option maxRecDepth 100000 in
set_option maxHeartbeats 4000000 in
theorem q_X10_undo_26 (x1 : Int32) (σ : mS) : b_X10_undo_26 x1 σ =
  if x1 < nI 1432 then (
    if ((nI 1432) * (σ.1 (10, 0, 0, 0) 17)) + x1 < 0 ∨ 8592 ≤ (((nI 1432) * (σ.1 (10, 0, 0, 0) 17)) + x1).toNatClampNeg then none else (
    if x1 < 0 ∨ 1432 ≤ x1.toNatClampNeg then none else (
    let σ1 := st σ (30, 0, 0, 0) x1.toNatClampNeg (σ.1 (38, 0, 0, 0) ((((nI 1432) * (σ.1 (10, 0, 0, 0) 17)) + x1).toNatClampNeg));
    b_X10_undo_26 (x1 + 1) σ1)))
  else (
    some (some (some (.inl (σ.1 (10, 0, 0, 0) 17))), σ)) := (EvOf_eq mcode _).trans rfl
set_option maxRecDepth 100000 in
set_option maxHeartbeats 4000000 in
theorem q_X10_drawBeside (p1 : Int32) (σ : mS) : e_X10_drawBeside p1 σ =
  let σ1 := st σ (10, 0, 0, 0) 18 (((σ.1 (10, 0, 0, 0) 18) * (nI 1103515245)) + (nI 12345));
  if p1 = 0 then none else (
  some (some (some (.inl ((iushr (σ1.1 (10, 0, 0, 0) 18) (nI 16)) - (iushr (σ1.1 (10, 0, 0, 0) 18) (nI 16)) / p1 * p1))), σ1)) := (EvOf_eq mcode _).trans rfl
set_option maxRecDepth 100000 in
set_option maxHeartbeats 4000000 in
theorem q_X10_years (p1 : Int32) (p2 : Int32) (σ : mS) : e_X10_years p1 p2 σ =
  let σ1 := st σ (10, 0, 0, 0) 5 (nI 0);
  bdI (e_X10_in p2 (nI 1) (nI 40) σ1) (fun v3 σ2 =>
  if v3 = 0 then (
    some (some (some (.inl (-1))), σ2))
  else (
    let σ4 := st σ2 (10, 0, 0, 0) 18 p1;
    bdV (e_X10_layAside σ4) (fun σ5 =>
    b_X10_years_28 p2 (nI 0) σ5))) := (EvOf_eq mcode _).trans rfl
set_option maxRecDepth 100000 in
set_option maxHeartbeats 4000000 in
theorem q_X10_years_28 (x2 : Int32) (x3 : Int32) (σ : mS) : b_X10_years_28 x2 x3 σ =
  if x3 < x2 then (
    bdI (e_X10_drawBeside (nI 3) σ) (fun v2 σ1 =>
    if v2 = nI 2 then (
      bdI (e_X10_drawBeside (nI 8) σ1) (fun v4 σ3 =>
      bdV (e_X10_goSlots (v4 + (nI 1)) σ3) (fun σ5 =>
      b_X10_years_28 x2 (x3 + 1) σ5)))
    else (
      bdI (e_X10_drawBeside (nI 6) σ1) (fun v7 σ6 =>
      bdI (e_X10_drawBeside (nI 4) σ6) (fun v9 σ8 =>
      bdI (e_X10_drawBeside (nI 6) σ8) (fun v11 σ10 =>
      bdI (e_X10_drawBeside (nI 9) σ10) (fun v13 σ12 =>
      bdI (e_X10_refusesOffer v7 v9 v11 (v13 + (nI 1)) σ12) (fun v15 σ14 =>
      if v15 = 0 then (
        bdV (e_X10_put v7 v9 v11 (v13 + (nI 1)) (nI 0) σ14) (fun σ16 =>
        b_X10_years_28 x2 (x3 + 1) σ16))
      else (
        b_X10_years_28 x2 (x3 + 1) σ14)))))))))
  else (
    if nI 1336 < 0 ∨ 1432 ≤ (nI 1336).toNatClampNeg then none else (
    if nI 1336 < 0 ∨ 1432 ≤ (nI 1336).toNatClampNeg then none else (
    if nI 1337 < 0 ∨ 1432 ≤ (nI 1337).toNatClampNeg then none else (
    if nI 1337 < 0 ∨ 1432 ≤ (nI 1337).toNatClampNeg then none else (
    bdI (e_X10_allWaiting σ) (fun v18 σ17 =>
    if nI 1 < 0 ∨ 1432 ≤ (nI 1).toNatClampNeg then none else (
    if nI 1 < 0 ∨ 1432 ≤ (nI 1).toNatClampNeg then none else (
    bdV (e_X10_comesBack σ17) (fun σ19 =>
    let σ20 := st σ19 (10, 0, 0, 0) 4 (nI 0);
    bdV (e_X10_tell (((σ.1 (30, 0, 0, 0) ((nI 1337).toNatClampNeg)) - (σ.1 (36, 0, 0, 0) ((nI 1337).toNatClampNeg))).toInt64) σ20) (fun σ21 =>
    bdV (e_X10_tell ((v18).toInt64) σ21) (fun σ22 =>
    bdV (e_X10_tell (((σ17.1 (30, 0, 0, 0) ((nI 1).toNatClampNeg)) - (σ17.1 (36, 0, 0, 0) ((nI 1).toNatClampNeg))).toInt64) σ22) (fun σ23 =>
    some (some (some (.inl ((σ.1 (30, 0, 0, 0) ((nI 1336).toNatClampNeg)) - (σ.1 (36, 0, 0, 0) ((nI 1336).toNatClampNeg))))), σ23))))))))))))) := (EvOf_eq mcode _).trans rfl
set_option maxRecDepth 100000 in
set_option maxHeartbeats 4000000 in
theorem q_X10_keep (p1 : Int32) (σ : mS) : e_X10_keep p1 σ =
  let σ1 := st σ (10, 0, 0, 0) 5 (nI 0);
  bdI (e_X10_in p1 (nI 0) (nI 1) σ1) (fun v3 σ2 =>
  if v3 = 0 then (
    if nI 0 = 0 ∨ nI 0 = 1 then some (some (some (.inl (nI 0))), σ2) else none)
  else (
    if p1 < 0 ∨ 2 ≤ p1.toNatClampNeg then none else (
    if nI 1 = 0 ∨ nI 1 = 1 then (
    let σ4 := st σ2 (41, 0, 0, 0) p1.toNatClampNeg (nI 1);
    b_X10_keep_25 p1 (nI 0) σ4) else none))) := (EvOf_eq mcode _).trans rfl
set_option maxRecDepth 100000 in
set_option maxHeartbeats 4000000 in
theorem q_X10_keep_25 (x1 : Int32) (x2 : Int32) (σ : mS) : b_X10_keep_25 x1 x2 σ =
  if x2 < nI 1432 then (
    if x2 < 0 ∨ 1432 ≤ x2.toNatClampNeg then none else (
    if ((nI 1432) * x1) + x2 < 0 ∨ 2864 ≤ (((nI 1432) * x1) + x2).toNatClampNeg then none else (
    let σ1 := st σ (40, 0, 0, 0) ((((nI 1432) * x1) + x2).toNatClampNeg) (σ.1 (30, 0, 0, 0) x2.toNatClampNeg);
    b_X10_keep_25 x1 (x2 + 1) σ1)))
  else (
    if nI 1 = 0 ∨ nI 1 = 1 then some (some (some (.inl (nI 1))), σ) else none) := (EvOf_eq mcode _).trans rfl
set_option maxRecDepth 100000 in
set_option maxHeartbeats 4000000 in
theorem q_X10_again (p1 : Int32) (σ : mS) : e_X10_again p1 σ =
  let σ1 := st σ (10, 0, 0, 0) 5 (nI 0);
  bdI (e_X10_in p1 (nI 0) (nI 1) σ1) (fun v3 σ2 =>
  if v3 = 0 then (
    if nI 0 = 0 ∨ nI 0 = 1 then some (some (some (.inl (nI 0))), σ2) else none)
  else (
    if p1 < 0 ∨ 2 ≤ p1.toNatClampNeg then none else (
    if σ2.1 (41, 0, 0, 0) p1.toNatClampNeg = 0 then (
      if nI 0 = 0 ∨ nI 0 = 1 then some (some (some (.inl (nI 0))), σ2) else none)
    else (
      b_X10_again_27 p1 (nI 0) σ2)))) := (EvOf_eq mcode _).trans rfl
set_option maxRecDepth 100000 in
set_option maxHeartbeats 4000000 in
theorem q_X10_again_27 (x1 : Int32) (x2 : Int32) (σ : mS) : b_X10_again_27 x1 x2 σ =
  if x2 < nI 1432 then (
    if ((nI 1432) * x1) + x2 < 0 ∨ 2864 ≤ (((nI 1432) * x1) + x2).toNatClampNeg then none else (
    if x2 < 0 ∨ 1432 ≤ x2.toNatClampNeg then none else (
    let σ1 := st σ (30, 0, 0, 0) x2.toNatClampNeg (σ.1 (40, 0, 0, 0) ((((nI 1432) * x1) + x2).toNatClampNeg));
    b_X10_again_27 x1 (x2 + 1) σ1)))
  else (
    let σ2 := st σ (10, 0, 0, 0) 17 (nI 0);
    if nI 1 = 0 ∨ nI 1 = 1 then some (some (some (.inl (nI 1))), σ2) else none) := (EvOf_eq mcode _).trans rfl
set_option maxRecDepth 100000 in
set_option maxHeartbeats 4000000 in
theorem q_X10_exchanges (σ : mS) : e_X10_exchanges σ =
  b_X10_exchanges_4 (nI 0) (nI 0) σ := (EvOf_eq mcode _).trans rfl
set_option maxRecDepth 100000 in
set_option maxHeartbeats 4000000 in
theorem q_X10_exchanges_4 (x1 : Int32) (x2 : Int32) (σ : mS) : b_X10_exchanges_4 x1 x2 σ =
  if nI 0 < 0 ∨ 1432 ≤ (nI 0).toNatClampNeg then none else (
  if x2 < σ.1 (30, 0, 0, 0) ((nI 0).toNatClampNeg) then (
    bdI (e_X10_exchangeAt x2 σ) (fun v2 σ1 =>
    if v2 + (nI 0) < 0 ∨ 1432 ≤ (v2 + (nI 0)).toNatClampNeg then none else (
    b_X10_exchanges_4 (x1 + (σ1.1 (30, 0, 0, 0) ((v2 + (nI 0)).toNatClampNeg))) (x2 + 1) σ1)))
  else (
    some (some (some (.inl x1)), σ))) := (EvOf_eq mcode _).trans rfl
set_option maxRecDepth 100000 in
set_option maxHeartbeats 4000000 in
theorem q_X10_count (p1 : Int32) (σ : mS) : e_X10_count p1 σ =
  let σ1 := st σ (10, 0, 0, 0) 5 (nI 0);
  if p1 = nI 0 then (
    if nI 0 < 0 ∨ 1432 ≤ (nI 0).toNatClampNeg then none else (
    some (some (some (.inl (σ1.1 (30, 0, 0, 0) ((nI 0).toNatClampNeg)))), σ1)))
  else if p1 = nI 1 then (
    if nI 1 < 0 ∨ 1432 ≤ (nI 1).toNatClampNeg then none else (
    some (some (some (.inl (σ1.1 (30, 0, 0, 0) ((nI 1).toNatClampNeg)))), σ1)))
  else if p1 = nI 2 then (
    bdI (e_X10_allWaiting σ1) (fun v3 σ2 =>
    some (some (some (.inl v3)), σ2)))
  else if p1 = nI 3 then (
    bdI (e_X10_exchanges σ1) (fun v5 σ4 =>
    some (some (some (.inl v5)), σ4)))
  else if p1 = nI 4 then (
    some (some (some (.inl (σ1.1 (10, 0, 0, 0) 17))), σ1))
  else if p1 = nI 5 then (
    some (some (some (.inl (σ1.1 (10, 0, 0, 0) 4))), σ1))
  else if p1 = nI 6 then (
    some (some (some (.inl (σ1.1 (10, 0, 0, 0) 2))), σ1))
  else if p1 = nI 7 then (
    if nI 1336 < 0 ∨ 1432 ≤ (nI 1336).toNatClampNeg then none else (
    some (some (some (.inl (σ1.1 (30, 0, 0, 0) ((nI 1336).toNatClampNeg)))), σ1)))
  else (some (some (some (.inl (-1))), σ1)) := (EvOf_eq mcode _).trans rfl
set_option maxRecDepth 100000 in
set_option maxHeartbeats 4000000 in
theorem q_X10_row (p1 : Int32) (σ : mS) : e_X10_row p1 σ =
  let σ1 := st σ (10, 0, 0, 0) 5 (nI 0);
  bdI (e_X10_in p1 (nI 0) ((σ1.1 (10, 0, 0, 0) 4) - (nI 1)) σ1) (fun v3 σ2 =>
  if v3 = 0 then (
    bdI (e_X10_lost σ2) (fun v5 σ4 =>
    some (some (some (.inr (.inl ((v5).toInt64)))), σ4)))
  else (
    if p1 < 0 ∨ 40 ≤ p1.toNatClampNeg then none else (
    some (some (some (.inr (.inl (σ2.2 (32, 0, 0, 0) p1.toNatClampNeg)))), σ2)))) := (EvOf_eq mcode _).trans rfl

/-! What each block comes to (by program out of the mini-code) -/
set_option maxRecDepth 100000 in
set_option maxHeartbeats 4000000 in
theorem q_X9_sign (p1 : Int32) (σ : mS) : e_X9_sign p1 σ =
  bdI (e_X7_addFour p1 σ) (fun v2 σ1 =>
  if v2 = 0 then (
    some (some (some (.inl (-1))), σ1))
  else (
    some (some (some (.inl (σ1.1 (7, 0, 0, 0) 1))), σ1))) := (EvOf_eq mcode _).trans rfl
set_option maxRecDepth 100000 in
set_option maxHeartbeats 4000000 in
theorem q_X9_end (p1 : Int32) (σ : mS) : e_X9_end p1 σ =
  bdI (e_X7_cutTo p1 σ) (fun v2 σ1 =>
  if v2 = 0 ∨ v2 = 1 then some (some (some (.inl v2)), σ1) else none) := (EvOf_eq mcode _).trans rfl
set_option maxRecDepth 100000 in
set_option maxHeartbeats 4000000 in
theorem q_X9_net (σ : mS) : e_X9_net σ =
  bdI (e_X7_digitAt (nI 0) (nI 1) (nI 6) σ) (fun v2 σ1 =>
  if v2 < 0 then (
    if nI 0 < 0 then (
      if nI 3 = 0 then none else (
      let σ3 := st σ1 (7, 0, 0, 0) 1 (nI 0);
      bdV (e_X5_push 0 σ3) (fun σ4 =>
      bdV (e_X0_startAnew 0 v2 σ4) (fun σ5 =>
      some (some (some (.inl (((σ1.1 (7, 0, 0, 0) 1) - (nI 1)) / (nI 3)))), σ5)))))
    else (
      let σ6 := st σ1 (7, 0, 0, 0) 1 (nI 0);
      some (some (some (.inl ((-1) - (nI 0)))), σ6)))
  else (
    bdI (e_X9_readPairs v2 σ1) (fun v8 σ7 =>
    if v8 < 0 then (
      if nI 3 = 0 then none else (
      let σ9 := st σ7 (7, 0, 0, 0) 1 (nI 0);
      bdV (e_X5_push 0 σ9) (fun σ10 =>
      bdV (e_X0_startAnew 0 v2 σ10) (fun σ11 =>
      some (some (some (.inl (((σ7.1 (7, 0, 0, 0) 1) - (nI 1)) / (nI 3)))), σ11)))))
    else (
      let σ12 := st σ7 (7, 0, 0, 0) 1 (nI 0);
      some (some (some (.inl ((-1) - v8))), σ12))))) := (EvOf_eq mcode _).trans rfl
set_option maxRecDepth 100000 in
set_option maxHeartbeats 4000000 in
theorem q_X9_sets (p1 : Int32) (p2 : Int32) (σ : mS) : e_X9_sets p1 p2 σ =
  if p1 < 0 then (
    some (some (some (.inl (-1))), σ))
  else (
    if nI 12 < p1 then (
      some (some (some (.inl (-1))), σ))
    else (
      if p1 = nI 12 then (
        bdV (e_X5_push 0 σ) (fun σ1 =>
        let σ2 := st σ1 (1, 0, 0, 0) 0 p2;
        some (some (some (.inl (nI 100))), σ2)))
      else (
        if p2 < nI 1 then (
          some (some (some (.inl (-1))), σ))
        else (
          if p1 < 0 ∨ 12 ≤ p1.toNatClampNeg then none else (
          if σ.1 (51, 0, 0, 0) p1.toNatClampNeg < p2 then (
            some (some (some (.inl (-1))), σ))
          else (
            if p1 < 0 ∨ 12 ≤ p1.toNatClampNeg then none else (
            if σ.1 (11, 0, 0, 0) p1.toNatClampNeg = p2 then (
              some (some (some (.inl (-2))), σ))
            else (
              bdV (e_X5_push 0 σ) (fun σ3 =>
              if p1 < 0 ∨ 12 ≤ p1.toNatClampNeg then none else (
              let σ4 := st σ3 (11, 0, 0, 0) p1.toNatClampNeg p2;
              some (some (some (.inl ((nI 100) + (σ.1 (11, 0, 0, 0) p1.toNatClampNeg)))), σ4))))))))))) := (EvOf_eq mcode _).trans rfl
set_option maxRecDepth 100000 in
set_option maxHeartbeats 4000000 in
theorem q_X9_setting (p1 : Int32) (σ : mS) : e_X9_setting p1 σ =
  if p1 < 0 then (
    some (none, σ))
  else (
    if nI 12 < p1 then (
      some (none, σ))
    else (
      if p1 = nI 12 then (
        some (some (some (.inl (σ.1 (1, 0, 0, 0) 0))), σ))
      else (
        if p1 < 0 ∨ 12 ≤ p1.toNatClampNeg then none else (
        some (some (some (.inl (σ.1 (11, 0, 0, 0) p1.toNatClampNeg))), σ))))) := (EvOf_eq mcode _).trans rfl
set_option maxRecDepth 100000 in
set_option maxHeartbeats 4000000 in
theorem q_X9_sheet (p1 : Int32) (p2 : Int32) (p3 : Int32) (p4 : Int32) (p5 : Int32) (σ : mS) : e_X9_sheet p1 p2 p3 p4 p5 σ =
  bdI (e_X9_isRank p1 σ) (fun v2 σ1 =>
  if v2 = 0 then (
    some (some (some (.inl (-1))), σ1))
  else (
    if p2 < 0 then (
      some (some (some (.inl (-1))), σ1))
    else (
      if nI 3 < p2 then (
        some (some (some (.inl (-1))), σ1))
      else (
        if nI 6 < p3 then (
          some (some (some (.inl (-1))), σ1))
        else (
          bdI (e_X0_exchangesOn 0 σ1) (fun v4 σ3 =>
          if 0 < v4 then (
            some (some (some (.inl (-4))), σ3))
          else (
            if p2 = nI 3 then (
              bdV (e_X0_emptyQueues 0 p1 σ3) (fun σ5 =>
              if p2 = nI 3 then (
                some (some (some (.inl (-3))), σ5))
              else (
                b_X9_sheet_71 p1 p2 p3 p4 p5 (nI 0) (nI 0) σ5)))
            else (
              if p3 < 0 then (
                some (some (some (.inl (-2))), σ3))
              else (
                bdV (e_X0_emptyQueues 0 p1 σ3) (fun σ6 =>
                if p2 = nI 3 then (
                  some (some (some (.inl (-3))), σ6))
                else (
                  b_X9_sheet_71 p1 p2 p3 p4 p5 (nI 0) (nI 0) σ6))))))))))) := (EvOf_eq mcode _).trans rfl
set_option maxRecDepth 100000 in
set_option maxHeartbeats 4000000 in
theorem q_X9_sheet_71 (x1 : Int32) (x2 : Int32) (x3 : Int32) (x4 : Int32) (x5 : Int32) (x6 : Int32) (x7 : Int32) (σ : mS) : b_X9_sheet_71 x1 x2 x3 x4 x5 x6 x7 σ =
  if x7 < x3 then (
    if x7 < σ.1 (0, 0, 0, 0) 3 then (
      bdI (e_X9_entryOf x2 (x4 + (x7 * x5)) σ) (fun v2 σ1 =>
      bdI (e_X9_comesFromEntry x7 x1 v2 σ1) (fun v4 σ3 =>
      if v4 = 0 then (
        b_X9_sheet_71 x1 x2 x3 x4 x5 x6 (x7 + 1) σ3)
      else (
        b_X9_sheet_71 x1 x2 x3 x4 x5 (x6 + 1) (x7 + 1) σ3))))
    else (
      some (some (some (.inl x6)), σ)))
  else (
    some (some (some (.inl x6)), σ)) := (EvOf_eq mcode _).trans rfl
set_option maxRecDepth 100000 in
set_option maxHeartbeats 4000000 in
theorem q_X9_offers (p1 : Int32) (p2 : Int32) (p3 : Int32) (p4 : Int32) (σ : mS) : e_X9_offers p1 p2 p3 p4 σ =
  bdI (e_X0_whyNotOffer 0 p1 p2 p3 p4 σ) (fun v2 σ1 =>
  if v2 < 0 then (
    some (some (some (.inl v2)), σ1))
  else (
    bdV (e_X5_push 0 σ1) (fun σ3 =>
    bdI (e_X0_takeFrame 0 p1 p2 p3 p4 σ3) (fun v5 σ4 =>
    some (some (some (.inl v5)), σ4))))) := (EvOf_eq mcode _).trans rfl
set_option maxRecDepth 100000 in
set_option maxHeartbeats 4000000 in
theorem q_X9_slots (p1 : Int32) (σ : mS) : e_X9_slots p1 σ =
  if p1 < nI 1 then (
    some (some (some (.inl (-1))), σ))
  else (
    if nI 60 < p1 then (
      some (some (some (.inl (-1))), σ))
    else (
      bdV (e_X5_push 0 σ) (fun σ1 =>
      bdI (e_X0_sumOf 0 (nI 0) σ1) (fun v3 σ2 =>
      bdI (e_X0_sumOf 0 (nI 2) σ2) (fun v5 σ4 =>
      bdI (e_X0_sumOf 0 (nI 4) σ4) (fun v7 σ6 =>
      bdI (e_X0_sumOf 0 (nI 6) σ6) (fun v9 σ8 =>
      b_X9_slots_66 p1 v3 v5 v7 v9 (nI 0) σ8))))))) := (EvOf_eq mcode _).trans rfl
set_option maxRecDepth 100000 in
set_option maxHeartbeats 4000000 in
theorem q_X9_slots_66 (x1 : Int32) (x2 : Int32) (x3 : Int32) (x4 : Int32) (x5 : Int32) (x6 : Int32) (σ : mS) : b_X9_slots_66 x1 x2 x3 x4 x5 x6 σ =
  if x6 < x1 then (
    bdV (e_X0_passSlot 0 σ) (fun σ1 =>
    b_X9_slots_66 x1 x2 x3 x4 x5 (x6 + 1) σ1))
  else (
    bdI (e_X0_sumOf 0 (nI 2) σ) (fun v3 σ2 =>
    bdI (e_X0_sumOf 0 (nI 4) σ2) (fun v5 σ4 =>
    bdI (e_X0_sumOf 0 (nI 6) σ4) (fun v7 σ6 =>
    bdV (e_X4_tellThree ((v3 - x3).toInt64) ((v5 - x4).toInt64) ((v7 - x5).toInt64) σ6) (fun σ8 =>
    bdI (e_X0_sumOf 0 (nI 0) σ8) (fun v10 σ9 =>
    some (some (some (.inl (v10 - x2))), σ9))))))) := (EvOf_eq mcode _).trans rfl
set_option maxRecDepth 100000 in
set_option maxHeartbeats 4000000 in
theorem q_X9_draws (σ : mS) : e_X9_draws σ =
  bdV (e_X5_push 0 σ) (fun σ1 =>
  bdI (e_X0_drawAll 0 σ1) (fun v3 σ2 =>
  some (some (some (.inl v3)), σ2))) := (EvOf_eq mcode _).trans rfl
set_option maxRecDepth 100000 in
set_option maxHeartbeats 4000000 in
theorem q_X9_station (p1 : Int32) (p2 : Int32) (σ : mS) : e_X9_station p1 p2 σ =
  bdI (e_X9_isStation p1 σ) (fun v2 σ1 =>
  if v2 = 0 then (
    some (none, σ1))
  else (
    if p2 < 0 then (
      some (none, σ1))
    else (
      if nI 6 < p2 then (
        some (none, σ1))
      else (
        if p1 < 0 ∨ 6 ≤ p1.toNatClampNeg then none else (
        if p2 = nI 0 then (
          some (some (some (.inl (σ1.1 (8, 0, p1.toNatClampNeg, 0) 7))), σ1))
        else if p2 = nI 1 then (
          some (some (some (.inl (σ1.1 (8, 0, p1.toNatClampNeg, 0) 8))), σ1))
        else if p2 = nI 2 then (
          bdI (e_X8_isFree 0 p1.toNatClampNeg σ1) (fun v4 σ3 =>
          if v4 = 0 then (
            some (some (some (.inl (nI 0))), σ3))
          else (
            some (some (some (.inl (nI 1))), σ3))))
        else if p2 = nI 3 then (
          some (some (some (.inl (σ1.1 (8, 0, p1.toNatClampNeg, 0) 11))), σ1))
        else if p2 = nI 4 then (
          some (some (some (.inl (σ1.1 (8, 0, p1.toNatClampNeg, 0) 12))), σ1))
        else if p2 = nI 5 then (
          some (some (some (.inl (σ1.1 (8, 0, p1.toNatClampNeg, 0) 6))), σ1))
        else (bdI (e_X8_waiting 0 p1.toNatClampNeg σ1) (fun v6 σ5 =>
          some (some (some (.inl v6)), σ5)))))))) := (EvOf_eq mcode _).trans rfl
set_option maxRecDepth 100000 in
set_option maxHeartbeats 4000000 in
theorem q_X9_rank (p1 : Int32) (p2 : Int32) (p3 : Int32) (σ : mS) : e_X9_rank p1 p2 p3 σ =
  bdI (e_X9_isStation p1 σ) (fun v2 σ1 =>
  if v2 = 0 then (
    some (none, σ1))
  else (
    bdI (e_X9_isRank p2 σ1) (fun v4 σ3 =>
    if v4 = 0 then (
      some (none, σ3))
    else (
      if p3 < 0 then (
        some (none, σ3))
      else (
        if nI 3 < p3 then (
          some (none, σ3))
        else (
          if p1 < 0 ∨ 6 ≤ p1.toNatClampNeg then none else (
          if p2 < 0 ∨ 4 ≤ p2.toNatClampNeg then none else (
          if p3 = nI 0 then (
            some (some (some (.inl (σ3.1 (6, 0, p1.toNatClampNeg, p2.toNatClampNeg) 1))), σ3))
          else if p3 = nI 1 then (
            some (some (some (.inl (σ3.1 (6, 0, p1.toNatClampNeg, p2.toNatClampNeg) 3))), σ3))
          else if p3 = nI 2 then (
            some (some (some (.inl (σ3.1 (6, 0, p1.toNatClampNeg, p2.toNatClampNeg) 2))), σ3))
          else (bdI (e_X0_isReady 0 p1 p2 σ3) (fun v6 σ5 =>
            if v6 = 0 then (
              some (some (some (.inl (nI 0))), σ5))
            else (
              some (some (some (.inl (nI 1))), σ5)))))))))))) := (EvOf_eq mcode _).trans rfl
set_option maxRecDepth 100000 in
set_option maxHeartbeats 4000000 in
theorem q_X9_frame (p1 : Int32) (p2 : Int32) (p3 : Int32) (p4 : Int32) (σ : mS) : e_X9_frame p1 p2 p3 p4 σ =
  bdI (e_X9_isStation p1 σ) (fun v2 σ1 =>
  if v2 = 0 then (
    some (none, σ1))
  else (
    bdI (e_X9_isRank p2 σ1) (fun v4 σ3 =>
    if v4 = 0 then (
      some (none, σ3))
    else (
      if p4 < 0 then (
        some (none, σ3))
      else (
        if nI 3 < p4 then (
          some (none, σ3))
        else (
          if p1 < 0 ∨ 6 ≤ p1.toNatClampNeg then none else (
          if p2 < 0 ∨ 4 ≤ p2.toNatClampNeg then none else (
          if p3 < 0 then (
            some (none, σ3))
          else (
            if p3 < σ3.1 (6, 0, p1.toNatClampNeg, p2.toNatClampNeg) 1 then (
              if (p3 * (nI 5)) + p4 < 0 ∨ 40 ≤ ((p3 * (nI 5)) + p4).toNatClampNeg then none else (
              some (some (some (.inl (σ3.1 (14, 0, p1.toNatClampNeg, p2.toNatClampNeg) (((p3 * (nI 5)) + p4).toNatClampNeg)))), σ3)))
            else (
              some (none, σ3))))))))))) := (EvOf_eq mcode _).trans rfl
set_option maxRecDepth 100000 in
set_option maxHeartbeats 4000000 in
theorem q_X9_exchange (p1 : Int32) (p2 : Int32) (σ : mS) : e_X9_exchange p1 p2 σ =
  bdI (e_X9_isStation p1 σ) (fun v2 σ1 =>
  if v2 = 0 then (
    some (some (some (.inl (-1))), σ1))
  else (
    if p1 < 0 ∨ 6 ≤ p1.toNatClampNeg then none else (
    if σ1.1 (2, 0, p1.toNatClampNeg, 0) 0 = 0 then (
      some (some (some (.inl (-1))), σ1))
    else (
      if p2 = nI 0 then (
        some (some (some (.inl (σ1.1 (2, 0, p1.toNatClampNeg, 0) 1))), σ1))
      else if p2 = nI 1 then (
        some (some (some (.inl (σ1.1 (2, 0, p1.toNatClampNeg, 0) 2))), σ1))
      else if p2 = nI 2 then (
        some (some (some (.inl (σ1.1 (2, 0, p1.toNatClampNeg, 0) 3))), σ1))
      else if p2 = nI 3 then (
        some (some (some (.inl (σ1.1 (2, 0, p1.toNatClampNeg, 0) 4))), σ1))
      else if p2 = nI 4 then (
        some (some (some (.inl (σ1.1 (2, 0, p1.toNatClampNeg, 0) 5))), σ1))
      else if p2 = nI 5 then (
        if σ1.1 (2, 0, p1.toNatClampNeg, 0) 5 = nI 2 then (
          some (some (some (.inl (σ1.1 (2, 0, p1.toNatClampNeg, 0) 6))), σ1))
        else (
          some (some (some (.inl (nI 1))), σ1)))
      else if p2 = nI 6 then (
        some (some (some (.inl (σ1.1 (2, 0, p1.toNatClampNeg, 0) 7))), σ1))
      else (some (some (some (.inl (-1))), σ1)))))) := (EvOf_eq mcode _).trans rfl
set_option maxRecDepth 100000 in
set_option maxHeartbeats 4000000 in
theorem q_X9_sent (σ : mS) : e_X9_sent σ =
  if σ.1 (0, 0, 0, 0) 4 = 0 then (
    some (some (some (.inl (-2))), σ))
  else (
    bdV (e_X4_tellTwo ((σ.1 (0, 0, 0, 0) 6).toInt64) ((σ.1 (0, 0, 0, 0) 7).toInt64) σ) (fun σ1 =>
    some (some (some (.inl (σ1.1 (0, 0, 0, 0) 5))), σ1))) := (EvOf_eq mcode _).trans rfl
set_option maxRecDepth 100000 in
set_option maxHeartbeats 4000000 in
theorem q_X9_spanOf (p1 : Int32) (σ : mS) : e_X9_spanOf p1 σ =
  bdI (e_X9_isStation p1 σ) (fun v2 σ1 =>
  if v2 = 0 then (
    some (some (some (.inl (-1))), σ1))
  else (
    if p1 < 0 ∨ 6 ≤ p1.toNatClampNeg then none else (
    if σ1.1 (0, 0, 0, 0) 4 < σ1.1 (8, 0, p1.toNatClampNeg, 0) 8 then (
      bdV (e_X4_tellTwo ((σ1.1 (8, 0, p1.toNatClampNeg, 0) 10).toInt64) (((σ1.1 (8, 0, p1.toNatClampNeg, 0) 8) - (σ1.1 (0, 0, 0, 0) 4)).toInt64) σ1) (fun σ3 =>
      some (some (some (.inl (σ3.1 (8, 0, p1.toNatClampNeg, 0) 9))), σ3)))
    else (
      some (some (some (.inl (-2))), σ1))))) := (EvOf_eq mcode _).trans rfl
set_option maxRecDepth 100000 in
set_option maxHeartbeats 4000000 in
theorem q_X9_rate (p1 : Int32) (p2 : Int32) (σ : mS) : e_X9_rate p1 p2 σ =
  bdI (e_X9_isStation p1 σ) (fun v2 σ1 =>
  if v2 = 0 then (
    some (some (some (.inl (-1))), σ1))
  else (
    bdI (e_X9_isStation p2 σ1) (fun v4 σ3 =>
    if v4 = 0 then (
      some (some (some (.inl (-1))), σ3))
    else (
      if p1 = p2 then (
        some (some (some (.inl (-1))), σ3))
      else (
        bdI (e_X0_hear 0 p1 p2 σ3) (fun v6 σ5 =>
        if v6 = 0 then (
          some (some (some (.inl (-2))), σ5))
        else (
          if p1 < 0 ∨ 6 ≤ p1.toNatClampNeg then none else (
          if p2 < 0 ∨ 6 ≤ p2.toNatClampNeg then none else (
          if p2 < 0 ∨ 6 ≤ p2.toNatClampNeg then none else (
          bdV (e_X4_tellTwo ((σ5.1 (19, 0, p1.toNatClampNeg, 0) p2.toNatClampNeg).toInt64) ((σ5.1 (17, 0, p1.toNatClampNeg, 0) p2.toNatClampNeg).toInt64) σ5) (fun σ7 =>
          if p2 < 0 ∨ 6 ≤ p2.toNatClampNeg then none else (
          some (some (some (.inl (σ7.1 (18, 0, p1.toNatClampNeg, 0) p2.toNatClampNeg))), σ7))))))))))))) := (EvOf_eq mcode _).trans rfl
set_option maxRecDepth 100000 in
set_option maxHeartbeats 4000000 in
theorem q_X9_hidden (σ : mS) : e_X9_hidden σ =
  bdV (e_X4_forget σ) (fun σ1 =>
  b_X9_hidden_9 (nI 0) σ1) := (EvOf_eq mcode _).trans rfl
set_option maxRecDepth 100000 in
set_option maxHeartbeats 4000000 in
theorem q_X9_hidden_9 (x1 : Int32) (σ : mS) : b_X9_hidden_9 x1 σ =
  if x1 < σ.1 (0, 0, 0, 0) 3 then (
    b_X9_hidden_24 x1 (x1 + (nI 1)) σ)
  else (
    some (some (some (.inl (σ.1 (4, 0, 0, 0) 1))), σ)) := (EvOf_eq mcode _).trans rfl
set_option maxRecDepth 100000 in
set_option maxHeartbeats 4000000 in
theorem q_X9_hidden_24 (x1 : Int32) (x2 : Int32) (σ : mS) : b_X9_hidden_24 x1 x2 σ =
  if x2 < σ.1 (0, 0, 0, 0) 3 then (
    if x1 < 0 ∨ 6 ≤ x1.toNatClampNeg then none else (
    if x2 < 0 ∨ 6 ≤ x2.toNatClampNeg then none else (
    if (σ.1 (8, 0, x1.toNatClampNeg, 0) 6) &&& (σ.1 (8, 0, x2.toNatClampNeg, 0) 6) = 0 then (
      if nI 0 = 0 then (
        b_X9_hidden_24 x1 (x2 + 1) σ)
      else (
        bdI (e_X0_hear 0 x1 x2 σ) (fun v2 σ1 =>
        if v2 = 0 then (
          bdV (e_X4_add (((lN 6) * ((x1).toInt64)) + ((x2).toInt64)) σ1) (fun σ3 =>
          b_X9_hidden_24 x1 (x2 + 1) σ3))
        else (
          b_X9_hidden_24 x1 (x2 + 1) σ1))))
    else (
      if nI 1 = 0 then (
        b_X9_hidden_24 x1 (x2 + 1) σ)
      else (
        bdI (e_X0_hear 0 x1 x2 σ) (fun v5 σ4 =>
        if v5 = 0 then (
          bdV (e_X4_add (((lN 6) * ((x1).toInt64)) + ((x2).toInt64)) σ4) (fun σ6 =>
          b_X9_hidden_24 x1 (x2 + 1) σ6))
        else (
          b_X9_hidden_24 x1 (x2 + 1) σ4)))))))
  else (
    b_X9_hidden_9 (x1 + 1) σ) := (EvOf_eq mcode _).trans rfl
set_option maxRecDepth 100000 in
set_option maxHeartbeats 4000000 in
theorem q_X9_tally (p1 : Int32) (p2 : Int32) (σ : mS) : e_X9_tally p1 p2 σ =
  bdI (e_X9_isStation p1 σ) (fun v2 σ1 =>
  if v2 = 0 then (
    some (none, σ1))
  else (
    if p2 < 0 then (
      some (none, σ1))
    else (
      if p2 < nI 9 then (
        if p1 < 0 ∨ 6 ≤ p1.toNatClampNeg then none else (
        if p2 < 0 ∨ 9 ≤ p2.toNatClampNeg then none else (
        some (some (some (.inl (σ1.1 (15, 0, p1.toNatClampNeg, 0) p2.toNatClampNeg))), σ1))))
      else (
        some (none, σ1))))) := (EvOf_eq mcode _).trans rfl
set_option maxRecDepth 100000 in
set_option maxHeartbeats 4000000 in
theorem q_X9_why (p1 : Int32) (σ : mS) : e_X9_why p1 σ =
  bdI (e_X9_isStation p1 σ) (fun v2 σ1 =>
  if v2 = 0 then (
    some (some (some (.inl (-1))), σ1))
  else (
    if p1 < 0 ∨ 6 ≤ p1.toNatClampNeg then none else (
    if σ1.1 (3, 0, p1.toNatClampNeg, 0) 3 = 0 then (
      some (some (some (.inl (-2))), σ1))
    else (
      bdV (e_X4_tellTwo ((σ1.1 (3, 0, p1.toNatClampNeg, 0) 4).toInt64) ((σ1.1 (3, 0, p1.toNatClampNeg, 0) 5).toInt64) σ1) (fun σ3 =>
      some (some (some (.inl (σ3.1 (3, 0, p1.toNatClampNeg, 0) 3))), σ3)))))) := (EvOf_eq mcode _).trans rfl
set_option maxRecDepth 100000 in
set_option maxHeartbeats 4000000 in
theorem q_X9_spoilt (p1 : Int32) (p2 : Int32) (σ : mS) : e_X9_spoilt p1 p2 σ =
  bdI (e_X9_isStation p1 σ) (fun v2 σ1 =>
  if v2 = 0 then (
    some (some (some (.inl (-1))), σ1))
  else (
    bdI (e_X9_isStation p2 σ1) (fun v4 σ3 =>
    if v4 = 0 then (
      some (some (some (.inl (-1))), σ3))
    else (
      if p1 = p2 then (
        some (some (some (.inl (-1))), σ3))
      else (
        if p1 < 0 ∨ 6 ≤ p1.toNatClampNeg then none else (
        bdV (e_X4_tellOne ((σ3.1 (3, 0, p1.toNatClampNeg, 0) 2).toInt64) σ3) (fun σ5 =>
        if p2 < 0 ∨ 6 ≤ p2.toNatClampNeg then none else (
        some (some (some (.inl (σ5.1 (16, 0, p1.toNatClampNeg, 0) p2.toNatClampNeg))), σ5))))))))) := (EvOf_eq mcode _).trans rfl
set_option maxRecDepth 100000 in
set_option maxHeartbeats 4000000 in
theorem q_X9_held (p1 : Int32) (σ : mS) : e_X9_held p1 σ =
  bdI (e_X9_isStation p1 σ) (fun v2 σ1 =>
  if v2 = 0 then (
    some (some (some (.inl (-1))), σ1))
  else (
    if p1 < 0 ∨ 6 ≤ p1.toNatClampNeg then none else (
    bdV (e_X4_tellThree ((σ1.1 (3, 0, p1.toNatClampNeg, 0) 6).toInt64) ((σ1.1 (3, 0, p1.toNatClampNeg, 0) 7).toInt64) ((σ1.1 (3, 0, p1.toNatClampNeg, 0) 8).toInt64) σ1) (fun σ3 =>
    some (some (some (.inl (((σ3.1 (3, 0, p1.toNatClampNeg, 0) 6) + (σ3.1 (3, 0, p1.toNatClampNeg, 0) 7)) + (σ3.1 (3, 0, p1.toNatClampNeg, 0) 8)))), σ3))))) := (EvOf_eq mcode _).trans rfl
set_option maxRecDepth 100000 in
set_option maxHeartbeats 4000000 in
theorem q_X9_even (σ : mS) : e_X9_even σ =
  b_X9_even_7 (lN 0) (lN 0) (nI 0) σ := (EvOf_eq mcode _).trans rfl
set_option maxRecDepth 100000 in
set_option maxHeartbeats 4000000 in
theorem q_X9_even_7 (y1 : Int64) (y3 : Int64) (x5 : Int32) (σ : mS) : b_X9_even_7 y1 y3 x5 σ =
  if x5 < σ.1 (0, 0, 0, 0) 3 then (
    if x5 < 0 ∨ 6 ≤ x5.toNatClampNeg then none else (
    if nI 1 < 0 ∨ 9 ≤ (nI 1).toNatClampNeg then none else (
    b_X9_even_7 (y1 + ((σ.1 (15, 0, x5.toNatClampNeg, 0) ((nI 1).toNatClampNeg)).toInt64)) (y3 + (((σ.1 (15, 0, x5.toNatClampNeg, 0) ((nI 1).toNatClampNeg)).toInt64) * ((σ.1 (15, 0, x5.toNatClampNeg, 0) ((nI 1).toNatClampNeg)).toInt64))) (x5 + 1) σ)))
  else (
    if lg_cmp y1 (lN 0) = 0 then (
      some (some (some (.inl (-2))), σ))
    else (
      bdV (e_X4_tellPart (y1 * y1) (((σ.1 (0, 0, 0, 0) 3).toInt64) * y3) σ) (fun σ1 =>
      some (some (some (.inl (nI 0))), σ1)))) := (EvOf_eq mcode _).trans rfl
set_option maxRecDepth 100000 in
set_option maxHeartbeats 4000000 in
theorem q_X9_busy (σ : mS) : e_X9_busy σ =
  bdV (e_X4_tellTwo ((σ.1 (0, 0, 0, 0) 10).toInt64) ((σ.1 (0, 0, 0, 0) 11).toInt64) σ) (fun σ1 =>
  some (some (some (.inl (σ1.1 (0, 0, 0, 0) 9))), σ1)) := (EvOf_eq mcode _).trans rfl
set_option maxRecDepth 100000 in
set_option maxHeartbeats 4000000 in
theorem q_X9_odds (p1 : Int32) (p2 : Int32) (σ : mS) : e_X9_odds p1 p2 σ =
  if p1 < nI 1 then (
    some (some (some (.inl (-1))), σ))
  else (
    if nI 5 < p1 then (
      some (some (some (.inl (-1))), σ))
    else (
      if p2 < 0 then (
        some (some (some (.inl (-1))), σ))
      else (
        if nI 31 < p2 then (
          some (some (some (.inl (-1))), σ))
        else (
          bdL (e_X9_waysAlone p1 p2 σ) (fun v2 σ1 =>
          bdL (e_X9_power (p2 + (nI 1)) p1 σ1) (fun v4 σ3 =>
          bdV (e_X4_tellPart v2 v4 σ3) (fun σ5 =>
          some (some (some (.inl (nI 0))), σ5)))))))) := (EvOf_eq mcode _).trans rfl
set_option maxRecDepth 100000 in
set_option maxHeartbeats 4000000 in
theorem q_X9_window (p1 : Int32) (p2 : Int32) (σ : mS) : e_X9_window p1 p2 σ =
  if p1 < nI 1 then (
    some (some (some (.inl (-1))), σ))
  else (
    if nI 5 < p1 then (
      some (some (some (.inl (-1))), σ))
    else (
      if p2 < 0 then (
        some (some (some (.inl (-1))), σ))
      else (
        if nI 100 < p2 then (
          some (some (some (.inl (-1))), σ))
        else (
          b_X9_window_24 p1 p2 (nI 0) σ)))) := (EvOf_eq mcode _).trans rfl
set_option maxRecDepth 100000 in
set_option maxHeartbeats 4000000 in
theorem q_X9_window_24 (x1 : Int32) (x2 : Int32) (x3 : Int32) (σ : mS) : b_X9_window_24 x1 x2 x3 σ =
  if nI 31 < x3 then (
    some (some (some (.inl (-2))), σ))
  else (
    bdL (e_X9_waysAlone x1 x3 σ) (fun v2 σ1 =>
    bdL (e_X9_power (x3 + (nI 1)) x1 σ1) (fun v4 σ3 =>
    if lg_cmp ((lN 100) * v2) (((x2).toInt64) * v4) < 0 then (
      b_X9_window_24 x1 x2 (x3 + 1) σ3)
    else (
      some (some (some (.inl x3)), σ3))))) := (EvOf_eq mcode _).trans rfl
set_option maxRecDepth 100000 in
set_option maxHeartbeats 4000000 in
theorem q_X9_ahead (p1 : Int32) (p2 : Int32) (σ : mS) : e_X9_ahead p1 p2 σ =
  if p1 < nI 1 then (
    some (some (some (.inl (-1))), σ))
  else (
    if nI 60 < p1 then (
      some (some (some (.inl (-1))), σ))
    else (
      if p2 < 0 then (
        some (some (some (.inl (-1))), σ))
      else (
        if nI 4 < p2 then (
          some (some (some (.inl (-1))), σ))
        else (
          bdV (e_X0_become 1 0 σ) (fun σ1 =>
          b_X9_ahead_35 p1 p2 (nI 0) σ1))))) := (EvOf_eq mcode _).trans rfl
set_option maxRecDepth 100000 in
set_option maxHeartbeats 4000000 in
theorem q_X9_ahead_35 (x1 : Int32) (x2 : Int32) (x3 : Int32) (σ : mS) : b_X9_ahead_35 x1 x2 x3 σ =
  if x3 < x1 then (
    bdV (e_X0_passSlot 1 σ) (fun σ1 =>
    b_X9_ahead_35 x1 x2 (x3 + 1) σ1))
  else (
    if x2 = nI 0 then (
      bdI (e_X0_sumOf 1 (nI 0) σ) (fun v3 σ2 =>
      bdI (e_X0_sumOf 0 (nI 0) σ2) (fun v5 σ4 =>
      some (some (some (.inl (v3 - v5))), σ4))))
    else if x2 = nI 1 then (
      bdI (e_X0_sumOf 1 (nI 2) σ) (fun v7 σ6 =>
      bdI (e_X0_sumOf 0 (nI 2) σ6) (fun v9 σ8 =>
      some (some (some (.inl (v7 - v9))), σ8))))
    else if x2 = nI 2 then (
      bdI (e_X0_sumOf 1 (nI 4) σ) (fun v11 σ10 =>
      bdI (e_X0_sumOf 0 (nI 4) σ10) (fun v13 σ12 =>
      some (some (some (.inl (v11 - v13))), σ12))))
    else if x2 = nI 3 then (
      bdI (e_X0_waiting 1 σ) (fun v15 σ14 =>
      some (some (some (.inl v15)), σ14)))
    else (some (some (some (.inl (σ.1 (0, 1, 0, 0) 5))), σ))) := (EvOf_eq mcode _).trans rfl
set_option maxRecDepth 100000 in
set_option maxHeartbeats 4000000 in
theorem q_X9_quiet (σ : mS) : e_X9_quiet σ =
  bdV (e_X0_become 1 0 σ) (fun σ1 =>
  b_X9_quiet_13 (nI 0) σ1) := (EvOf_eq mcode _).trans rfl
set_option maxRecDepth 100000 in
set_option maxHeartbeats 4000000 in
theorem q_X9_quiet_13 (x1 : Int32) (σ : mS) : b_X9_quiet_13 x1 σ =
  if x1 < nI 99 then (
    bdI (e_X0_isQuiet 1 σ) (fun v2 σ1 =>
    if v2 = 0 then (
      bdV (e_X0_passSlot 1 σ1) (fun σ3 =>
      b_X9_quiet_13 (x1 + 1) σ3))
    else (
      bdI (e_X0_isQuiet 1 σ1) (fun v5 σ4 =>
      if v5 = 0 then (
        some (some (some (.inl (-2))), σ4))
      else (
        bdI (e_X0_sumOf 1 (nI 0) σ4) (fun v7 σ6 =>
        bdI (e_X0_sumOf 0 (nI 0) σ6) (fun v9 σ8 =>
        bdV (e_X4_tellOne ((v7 - v9).toInt64) σ8) (fun σ10 =>
        some (some (some (.inl ((σ10.1 (0, 1, 0, 0) 4) - (σ10.1 (0, 0, 0, 0) 4)))), σ10)))))))))
  else (
    bdI (e_X0_isQuiet 1 σ) (fun v12 σ11 =>
    if v12 = 0 then (
      some (some (some (.inl (-2))), σ11))
    else (
      bdI (e_X0_sumOf 1 (nI 0) σ11) (fun v14 σ13 =>
      bdI (e_X0_sumOf 0 (nI 0) σ13) (fun v16 σ15 =>
      bdV (e_X4_tellOne ((v14 - v16).toInt64) σ15) (fun σ17 =>
      some (some (some (.inl ((σ17.1 (0, 1, 0, 0) 4) - (σ17.1 (0, 0, 0, 0) 4)))), σ17))))))) := (EvOf_eq mcode _).trans rfl
set_option maxRecDepth 100000 in
set_option maxHeartbeats 4000000 in
theorem q_X9_next (σ : mS) : e_X9_next σ =
  bdV (e_X0_become 1 0 σ) (fun σ1 =>
  b_X9_next_13 (nI 0) σ1) := (EvOf_eq mcode _).trans rfl
set_option maxRecDepth 100000 in
set_option maxHeartbeats 4000000 in
theorem q_X9_next_13 (x1 : Int32) (σ : mS) : b_X9_next_13 x1 σ =
  if x1 < nI 99 then (
    bdV (e_X0_passSlot 1 σ) (fun σ1 =>
    if σ1.1 (0, 1, 0, 0) 8 = 0 then (
      b_X9_next_13 (x1 + 1) σ1)
    else (
      bdV (e_X4_tellOne ((σ1.1 (0, 1, 0, 0) 8).toInt64) σ1) (fun σ2 =>
      some (some (some (.inl x1)), σ2)))))
  else (
    some (some (some (.inl (-2))), σ)) := (EvOf_eq mcode _).trans rfl
set_option maxRecDepth 100000 in
set_option maxHeartbeats 4000000 in
theorem q_X9_soonest (p1 : Int32) (σ : mS) : e_X9_soonest p1 σ =
  bdI (e_X9_isStation p1 σ) (fun v2 σ1 =>
  if v2 = 0 then (
    some (some (some (.inl (-1))), σ1))
  else (
    b_X9_soonest_19 p1 (-2) (nI 100) (nI 0) σ1)) := (EvOf_eq mcode _).trans rfl
set_option maxRecDepth 100000 in
set_option maxHeartbeats 4000000 in
theorem q_X9_soonest_19 (x1 : Int32) (x2 : Int32) (x3 : Int32) (x4 : Int32) (σ : mS) : b_X9_soonest_19 x1 x2 x3 x4 σ =
  if x4 < σ.1 (0, 0, 0, 0) 3 then (
    bdI (e_X0_whyNotOffer 0 x4 (nI 0) x1 (nI 1) σ) (fun v2 σ1 =>
    if v2 = 0 then (
      bdI (e_X9_slotsTillDelivered x4 x1 σ1) (fun v4 σ3 =>
      if v4 < x3 then (
        b_X9_soonest_19 x1 x4 v4 (x4 + 1) σ3)
      else (
        b_X9_soonest_19 x1 x2 x3 (x4 + 1) σ3)))
    else (
      b_X9_soonest_19 x1 x2 x3 (x4 + 1) σ1)))
  else (
    if x2 < 0 then (
      some (some (some (.inl x2)), σ))
    else (
      bdV (e_X4_tellOne ((x3).toInt64) σ) (fun σ5 =>
      some (some (some (.inl x2)), σ5)))) := (EvOf_eq mcode _).trans rfl
set_option maxRecDepth 100000 in
set_option maxHeartbeats 4000000 in
theorem q_X9_day (σ : mS) : e_X9_day σ =
  bdI (e_X9_faultInDay σ) (fun v2 σ1 =>
  if v2 < 0 then (
    bdV (e_X0_become 1 0 σ1) (fun σ3 =>
    b_X9_day_42 (nI 0) (nI 0) (nI 0) (nI 0) σ3))
  else (
    let σ4 := st σ1 (7, 0, 0, 0) 1 (nI 0);
    some (some (some (.inl ((-1) - v2))), σ4))) := (EvOf_eq mcode _).trans rfl
set_option maxRecDepth 100000 in
set_option maxHeartbeats 4000000 in
theorem q_X9_day_42 (x2 : Int32) (x3 : Int32) (x4 : Int32) (x5 : Int32) (σ : mS) : b_X9_day_42 x2 x3 x4 x5 σ =
  if x5 < nI 80 then (
    if x4 < σ.1 (7, 0, 0, 0) 1 then (
      if x3 = 0 then (
        bdI (e_X9_doAct x4 σ) (fun v2 σ1 =>
        if v2 = 0 then (
          if nI 1 = 0 then (
            bdI (e_X9_actLength x4 σ1) (fun v4 σ3 =>
            b_X9_day_42 (x2 + (nI 1)) (nI 1) (x4 + v4) (x5 + 1) σ3))
          else (
            bdI (e_X9_actLength x4 σ1) (fun v6 σ5 =>
            b_X9_day_42 (x2 + (nI 0)) (nI 1) (x4 + v6) (x5 + 1) σ5)))
        else (
          if nI 0 = 0 then (
            bdI (e_X9_actLength x4 σ1) (fun v8 σ7 =>
            b_X9_day_42 (x2 + (nI 1)) (nI 0) (x4 + v8) (x5 + 1) σ7))
          else (
            bdI (e_X9_actLength x4 σ1) (fun v10 σ9 =>
            b_X9_day_42 (x2 + (nI 0)) (nI 0) (x4 + v10) (x5 + 1) σ9)))))
      else (
        b_X9_day_109 x2 x3 σ))
    else (
      b_X9_day_109 x2 x3 σ))
  else (
    b_X9_day_109 x2 x3 σ) := (EvOf_eq mcode _).trans rfl
set_option maxRecDepth 100000 in
set_option maxHeartbeats 4000000 in
theorem q_X9_day_109 (x2 : Int32) (x3 : Int32) (σ : mS) : b_X9_day_109 x2 x3 σ =
  let σ1 := st σ (7, 0, 0, 0) 1 (nI 0);
  if x3 = 0 then (
    bdI (e_X0_sumOf 0 (nI 0) σ1) (fun v3 σ2 =>
    bdI (e_X0_sumOf 1 (nI 0) σ2) (fun v5 σ4 =>
    bdV (e_X4_tellTwo (lN 0) ((v3 - v5).toInt64) σ4) (fun σ6 =>
    if 0 < x2 then (
      bdV (e_X5_push 1 σ6) (fun σ7 =>
      some (some (some (.inl x2)), σ7)))
    else (
      some (some (some (.inl x2)), σ6))))))
  else (
    bdI (e_X0_sumOf 0 (nI 0) σ1) (fun v9 σ8 =>
    bdI (e_X0_sumOf 1 (nI 0) σ8) (fun v11 σ10 =>
    bdV (e_X4_tellTwo (lN 1) ((v9 - v11).toInt64) σ10) (fun σ12 =>
    if 0 < x2 then (
      bdV (e_X5_push 1 σ12) (fun σ13 =>
      some (some (some (.inl x2)), σ13)))
    else (
      some (some (some (.inl x2)), σ12)))))) := (EvOf_eq mcode _).trans rfl
set_option maxRecDepth 100000 in
set_option maxHeartbeats 4000000 in
theorem q_X9_undo (σ : mS) : e_X9_undo σ =
  bdI (e_X5_popInto 0 σ) (fun v2 σ1 =>
  if v2 = 0 then (
    some (some (some (.inl (-1))), σ1))
  else (
    some (some (some (.inl (σ1.1 (5, 0, 0, 0) 1))), σ1))) := (EvOf_eq mcode _).trans rfl
set_option maxRecDepth 100000 in
set_option maxHeartbeats 4000000 in
theorem q_X9_years (p1 : Int32) (p2 : Int32) (σ : mS) : e_X9_years p1 p2 σ =
  if p2 < nI 1 then (
    some (some (some (.inl (-1))), σ))
  else (
    if nI 40 < p2 then (
      some (some (some (.inl (-1))), σ))
    else (
      bdV (e_X0_become 1 0 σ) (fun σ1 =>
      let σ2 := st σ1 (1, 10, 0, 0) 0 p1;
      b_X9_years_34 p2 (nI 0) σ2))) := (EvOf_eq mcode _).trans rfl
set_option maxRecDepth 100000 in
set_option maxHeartbeats 4000000 in
theorem q_X9_years_34 (x2 : Int32) (x3 : Int32) (σ : mS) : b_X9_years_34 x2 x3 σ =
  if x3 < x2 then (
    bdI (e_X1_draw 10 (nI 3) σ) (fun v2 σ1 =>
    if v2 < nI 2 then (
      bdV (e_X9_offerDrawn σ1) (fun σ3 =>
      b_X9_years_34 x2 (x3 + 1) σ3))
    else (
      bdI (e_X1_draw 10 (nI 8) σ1) (fun v5 σ4 =>
      b_X9_years_74 x2 x3 (v5 + (nI 1)) (nI 0) σ4))))
  else (
    bdI (e_X0_sumOf 1 (nI 2) σ) (fun v7 σ6 =>
    bdI (e_X0_sumOf 0 (nI 2) σ6) (fun v9 σ8 =>
    bdI (e_X0_waiting 1 σ8) (fun v11 σ10 =>
    bdV (e_X4_tellThree ((v7 - v9).toInt64) ((v11).toInt64) (((σ10.1 (0, 1, 0, 0) 4) - (σ10.1 (0, 0, 0, 0) 4)).toInt64) σ10) (fun σ12 =>
    bdI (e_X0_sumOf 1 (nI 0) σ12) (fun v14 σ13 =>
    bdI (e_X0_sumOf 0 (nI 0) σ13) (fun v16 σ15 =>
    some (some (some (.inl (v14 - v16))), σ15)))))))) := (EvOf_eq mcode _).trans rfl
set_option maxRecDepth 100000 in
set_option maxHeartbeats 4000000 in
theorem q_X9_years_74 (x2 : Int32) (x3 : Int32) (x4 : Int32) (x5 : Int32) (σ : mS) : b_X9_years_74 x2 x3 x4 x5 σ =
  if x5 < x4 then (
    bdV (e_X0_passSlot 1 σ) (fun σ1 =>
    b_X9_years_74 x2 x3 x4 (x5 + 1) σ1))
  else (
    b_X9_years_34 x2 (x3 + 1) σ) := (EvOf_eq mcode _).trans rfl
set_option maxRecDepth 100000 in
set_option maxHeartbeats 4000000 in
theorem q_X9_keep (p1 : Int32) (σ : mS) : e_X9_keep p1 σ =
  if p1 < 0 then (
    if nI 0 = 0 ∨ nI 0 = 1 then some (some (some (.inl (nI 0))), σ) else none)
  else (
    if p1 < nI 2 then (
      if p1 < 0 ∨ 2 ≤ p1.toNatClampNeg then none else (
      bdV (e_X0_become (2 + p1.toNatClampNeg) 0 σ) (fun σ1 =>
      if p1 < 0 ∨ 2 ≤ p1.toNatClampNeg then none else (
      if nI 1 = 0 ∨ nI 1 = 1 then (
      let σ2 := st σ1 (22, 0, 0, 0) p1.toNatClampNeg (nI 1);
      if nI 1 = 0 ∨ nI 1 = 1 then some (some (some (.inl (nI 1))), σ2) else none) else none))))
    else (
      if nI 0 = 0 ∨ nI 0 = 1 then some (some (some (.inl (nI 0))), σ) else none)) := (EvOf_eq mcode _).trans rfl
set_option maxRecDepth 100000 in
set_option maxHeartbeats 4000000 in
theorem q_X9_again (p1 : Int32) (σ : mS) : e_X9_again p1 σ =
  if p1 < 0 then (
    if nI 0 = 0 ∨ nI 0 = 1 then some (some (some (.inl (nI 0))), σ) else none)
  else (
    if p1 < nI 2 then (
      if p1 < 0 ∨ 2 ≤ p1.toNatClampNeg then none else (
      if σ.1 (22, 0, 0, 0) p1.toNatClampNeg = 0 then (
        if nI 0 = 0 ∨ nI 0 = 1 then some (some (some (.inl (nI 0))), σ) else none)
      else (
        if p1 < 0 ∨ 2 ≤ p1.toNatClampNeg then none else (
        bdV (e_X0_become 0 (2 + p1.toNatClampNeg) σ) (fun σ1 =>
        let σ2 := st σ1 (5, 0, 0, 0) 1 (nI 0);
        if nI 1 = 0 ∨ nI 1 = 1 then some (some (some (.inl (nI 1))), σ2) else none)))))
    else (
      if nI 0 = 0 ∨ nI 0 = 1 then some (some (some (.inl (nI 0))), σ) else none)) := (EvOf_eq mcode _).trans rfl
set_option maxRecDepth 100000 in
set_option maxHeartbeats 4000000 in
theorem q_X9_count (p1 : Int32) (σ : mS) : e_X9_count p1 σ =
  if p1 = nI 0 then (
    some (some (some (.inl (σ.1 (0, 0, 0, 0) 3))), σ))
  else if p1 = nI 1 then (
    some (some (some (.inl (σ.1 (0, 0, 0, 0) 4))), σ))
  else if p1 = nI 2 then (
    bdI (e_X0_waiting 0 σ) (fun v2 σ1 =>
    some (some (some (.inl v2)), σ1)))
  else if p1 = nI 3 then (
    bdI (e_X0_exchangesOn 0 σ) (fun v4 σ3 =>
    some (some (some (.inl v4)), σ3)))
  else if p1 = nI 4 then (
    some (some (some (.inl (σ.1 (5, 0, 0, 0) 1))), σ))
  else if p1 = nI 5 then (
    some (some (some (.inl (σ.1 (4, 0, 0, 0) 1))), σ))
  else if p1 = nI 6 then (
    some (some (some (.inl (σ.1 (7, 0, 0, 0) 1))), σ))
  else if p1 = nI 7 then (
    bdI (e_X0_sumOf 0 (nI 0) σ) (fun v6 σ5 =>
    some (some (some (.inl v6)), σ5)))
  else (some (some (some (.inl (-1))), σ)) := (EvOf_eq mcode _).trans rfl
set_option maxRecDepth 100000 in
set_option maxHeartbeats 4000000 in
theorem q_X9_row (p1 : Int32) (σ : mS) : e_X9_row p1 σ =
  if p1 < 0 then (
    some (none, σ))
  else (
    if p1 < σ.1 (4, 0, 0, 0) 1 then (
      if p1 < 0 ∨ 16 ≤ p1.toNatClampNeg then none else (
      some (some (some (.inr (.inl (σ.2 (24, 0, 0, 0) p1.toNatClampNeg)))), σ)))
    else (
      some (none, σ))) := (EvOf_eq mcode _).trans rfl
set_option maxRecDepth 100000 in
set_option maxHeartbeats 4000000 in
theorem q_X9_isStation (p1 : Int32) (σ : mS) : e_X9_isStation p1 σ =
  if p1 < 0 then (
    if nI 0 = 0 ∨ nI 0 = 1 then some (some (some (.inl (nI 0))), σ) else none)
  else (
    if p1 < σ.1 (0, 0, 0, 0) 3 then (
      if nI 1 = 0 ∨ nI 1 = 1 then some (some (some (.inl (nI 1))), σ) else none)
    else (
      if nI 0 = 0 ∨ nI 0 = 1 then some (some (some (.inl (nI 0))), σ) else none)) := (EvOf_eq mcode _).trans rfl
set_option maxRecDepth 100000 in
set_option maxHeartbeats 4000000 in
theorem q_X9_isRank (p0 : Int32) (σ : mS) : e_X9_isRank p0 σ =
  if p0 < 0 then (
    if nI 0 = 0 ∨ nI 0 = 1 then some (some (some (.inl (nI 0))), σ) else none)
  else (
    if p0 < nI 4 then (
      if nI 1 = 0 ∨ nI 1 = 1 then some (some (some (.inl (nI 1))), σ) else none)
    else (
      if nI 0 = 0 ∨ nI 0 = 1 then some (some (some (.inl (nI 0))), σ) else none)) := (EvOf_eq mcode _).trans rfl
set_option maxRecDepth 100000 in
set_option maxHeartbeats 4000000 in
theorem q_X9_readPairs (p1 : Int32) (σ : mS) : e_X9_readPairs p1 σ =
  b_X9_readPairs_2 p1 (nI 0) σ := (EvOf_eq mcode _).trans rfl
set_option maxRecDepth 100000 in
set_option maxHeartbeats 4000000 in
theorem q_X9_readPairs_2 (x1 : Int32) (x2 : Int32) (σ : mS) : b_X9_readPairs_2 x1 x2 σ =
  if x2 < nI 36 then (
    if x2 < 0 ∨ 36 ≤ x2.toNatClampNeg then none else (
    let σ1 := st σ (25, 0, 0, 0) x2.toNatClampNeg (nI 0);
    b_X9_readPairs_2 x1 (x2 + 1) σ1))
  else (
    b_X9_readPairs_26 x1 (nI 1) σ) := (EvOf_eq mcode _).trans rfl
set_option maxRecDepth 100000 in
set_option maxHeartbeats 4000000 in
theorem q_X9_readPairs_26 (x1 : Int32) (x2 : Int32) (σ : mS) : b_X9_readPairs_26 x1 x2 σ =
  if x2 < σ.1 (7, 0, 0, 0) 1 then (
    bdI (e_X7_letterAt x2 x1 σ) (fun v2 σ1 =>
    if v2 < 0 then (
      some (some (some (.inl x2)), σ1))
    else (
      bdI (e_X7_letterAt (x2 + (nI 1)) x1 σ1) (fun v4 σ3 =>
      if v4 < 0 then (
        some (some (some (.inl (x2 + (nI 1)))), σ3))
      else (
        if v4 = v2 then (
          some (some (some (.inl (x2 + (nI 1)))), σ3))
        else (
          if (v2 * (nI 6)) + v4 < 0 ∨ 36 ≤ ((v2 * (nI 6)) + v4).toNatClampNeg then none else (
          if σ3.1 (25, 0, 0, 0) (((v2 * (nI 6)) + v4).toNatClampNeg) = 0 then (
            bdI (e_X7_digitAt (x2 + (nI 2)) (nI 1) (nI 3) σ3) (fun v6 σ5 =>
            if v6 < 0 then (
              some (some (some (.inl (x2 + (nI 2)))), σ5))
            else (
              if (v2 * (nI 6)) + v4 < 0 ∨ 36 ≤ ((v2 * (nI 6)) + v4).toNatClampNeg then none else (
              let σ7 := st σ5 (25, 0, 0, 0) (((v2 * (nI 6)) + v4).toNatClampNeg) v6;
              if (v4 * (nI 6)) + v2 < 0 ∨ 36 ≤ ((v4 * (nI 6)) + v2).toNatClampNeg then none else (
              let σ8 := st σ7 (25, 0, 0, 0) (((v4 * (nI 6)) + v2).toNatClampNeg) v6;
              b_X9_readPairs_26 x1 (x2 + 3) σ8)))))
          else (
            some (some (some (.inl (x2 + (nI 1)))), σ3)))))))))
  else (
    some (some (some (.inl (-1))), σ)) := (EvOf_eq mcode _).trans rfl
set_option maxRecDepth 100000 in
set_option maxHeartbeats 4000000 in
theorem q_X9_entryOf (p0 : Int32) (p1 : Int32) (σ : mS) : e_X9_entryOf p0 p1 σ =
  if p0 = 0 then (
    some (some (some (.inl ((p1).toInt8.toInt32))), σ))
  else (
    if p0 = nI 1 then (
      some (some (some (.inl ((p1).toInt16.toInt32))), σ))
    else (
      some (some (some (.inl p1)), σ))) := (EvOf_eq mcode _).trans rfl
set_option maxRecDepth 100000 in
set_option maxHeartbeats 4000000 in
theorem q_X9_comesFromEntry (p1 : Int32) (p2 : Int32) (p3 : Int32) (σ : mS) : e_X9_comesFromEntry p1 p2 p3 σ =
  if p1 + (nI 1) < σ.1 (0, 0, 0, 0) 3 then (
    if 0 < p3 then (
      bdI (e_X0_hear 0 p1 (p1 + (nI 1)) σ) (fun v2 σ1 =>
      if v2 = 0 then (
        if nI 0 = 0 ∨ nI 0 = 1 then some (some (some (.inl (nI 0))), σ1) else none)
      else (
        if nI 9 = 0 then none else (
        bdI (e_X0_takeFrame 0 p1 p2 (p1 + (nI 1)) ((p3 - p3 / (nI 9) * (nI 9)) + (nI 1)) σ1) (fun v4 σ3 =>
        if nI 1 = 0 ∨ nI 1 = 1 then some (some (some (.inl (nI 1))), σ3) else none)))))
    else (
      if nI 0 = 0 ∨ nI 0 = 1 then some (some (some (.inl (nI 0))), σ) else none))
  else (
    if 0 < p3 then (
      bdI (e_X0_hear 0 p1 (nI 0) σ) (fun v6 σ5 =>
      if v6 = 0 then (
        if nI 0 = 0 ∨ nI 0 = 1 then some (some (some (.inl (nI 0))), σ5) else none)
      else (
        if nI 9 = 0 then none else (
        bdI (e_X0_takeFrame 0 p1 p2 (nI 0) ((p3 - p3 / (nI 9) * (nI 9)) + (nI 1)) σ5) (fun v8 σ7 =>
        if nI 1 = 0 ∨ nI 1 = 1 then some (some (some (.inl (nI 1))), σ7) else none)))))
    else (
      if nI 0 = 0 ∨ nI 0 = 1 then some (some (some (.inl (nI 0))), σ) else none)) := (EvOf_eq mcode _).trans rfl
set_option maxRecDepth 100000 in
set_option maxHeartbeats 4000000 in
theorem q_X9_waysAlone (p0 : Int32) (p1 : Int32) (σ : mS) : e_X9_waysAlone p0 p1 σ =
  b_X9_waysAlone_5 p0 p1 (lN 0) (nI 0) σ := (EvOf_eq mcode _).trans rfl
set_option maxRecDepth 100000 in
set_option maxHeartbeats 4000000 in
theorem q_X9_waysAlone_5 (x0 : Int32) (x1 : Int32) (y2 : Int64) (x4 : Int32) (σ : mS) : b_X9_waysAlone_5 x0 x1 y2 x4 σ =
  if x1 < x4 then (
    some (some (some (.inr (.inl (((x0).toInt64) * y2)))), σ))
  else (
    bdL (e_X9_power x4 (x0 - (nI 1)) σ) (fun v2 σ1 =>
    b_X9_waysAlone_5 x0 x1 (y2 + v2) (x4 + 1) σ1)) := (EvOf_eq mcode _).trans rfl
set_option maxRecDepth 100000 in
set_option maxHeartbeats 4000000 in
theorem q_X9_power (p0 : Int32) (p1 : Int32) (σ : mS) : e_X9_power p0 p1 σ =
  b_X9_power_5 p0 p1 (lN 1) (nI 0) σ := (EvOf_eq mcode _).trans rfl
set_option maxRecDepth 100000 in
set_option maxHeartbeats 4000000 in
theorem q_X9_power_5 (x0 : Int32) (x1 : Int32) (y2 : Int64) (x4 : Int32) (σ : mS) : b_X9_power_5 x0 x1 y2 x4 σ =
  if x4 < x1 then (
    b_X9_power_5 x0 x1 (y2 * ((x0).toInt64)) (x4 + 1) σ)
  else (
    some (some (some (.inr (.inl y2))), σ)) := (EvOf_eq mcode _).trans rfl
set_option maxRecDepth 100000 in
set_option maxHeartbeats 4000000 in
theorem q_X9_slotsTillDelivered (p1 : Int32) (p2 : Int32) (σ : mS) : e_X9_slotsTillDelivered p1 p2 σ =
  bdV (e_X0_become 1 0 σ) (fun σ1 =>
  bdI (e_X0_takeFrame 1 p1 (nI 0) p2 (nI 1) σ1) (fun v3 σ2 =>
  bdV (e_X0_markLast 1 p1 (nI 0) σ2) (fun σ4 =>
  b_X9_slotsTillDelivered_34 (nI 1) σ4))) := (EvOf_eq mcode _).trans rfl
set_option maxRecDepth 100000 in
set_option maxHeartbeats 4000000 in
theorem q_X9_slotsTillDelivered_34 (x3 : Int32) (σ : mS) : b_X9_slotsTillDelivered_34 x3 σ =
  if nI 99 < x3 then (
    some (some (some (.inl (nI 100))), σ))
  else (
    bdV (e_X0_passSlot 1 σ) (fun σ1 =>
    if σ1.1 (0, 1, 0, 0) 12 = 0 then (
      b_X9_slotsTillDelivered_34 (x3 + 1) σ1)
    else (
      some (some (some (.inl x3)), σ1)))) := (EvOf_eq mcode _).trans rfl
set_option maxRecDepth 100000 in
set_option maxHeartbeats 4000000 in
theorem q_X9_actLength (p1 : Int32) (σ : mS) : e_X9_actLength p1 σ =
  bdI (e_X7_at p1 σ) (fun v2 σ1 =>
  if v2 = nI 102 then (
    some (some (some (.inl (nI 5))), σ1))
  else (
    if v2 = nI 115 then (
      some (some (some (.inl (nI 3))), σ1))
    else (
      some (some (some (.inl (nI 1))), σ1)))) := (EvOf_eq mcode _).trans rfl
set_option maxRecDepth 100000 in
set_option maxHeartbeats 4000000 in
theorem q_X9_faultInDay (σ : mS) : e_X9_faultInDay σ =
  b_X9_faultInDay_4 (nI 0) (nI 0) σ := (EvOf_eq mcode _).trans rfl
set_option maxRecDepth 100000 in
set_option maxHeartbeats 4000000 in
theorem q_X9_faultInDay_4 (x1 : Int32) (x2 : Int32) (σ : mS) : b_X9_faultInDay_4 x1 x2 σ =
  if x2 < nI 80 then (
    if x1 < σ.1 (7, 0, 0, 0) 1 then (
      bdI (e_X9_faultInAct x1 σ) (fun v2 σ1 =>
      if v2 < 0 then (
        bdI (e_X9_actLength x1 σ1) (fun v4 σ3 =>
        b_X9_faultInDay_4 (x1 + v4) (x2 + 1) σ3))
      else (
        some (some (some (.inl v2)), σ1))))
    else (
      some (some (some (.inl (-1))), σ)))
  else (
    some (some (some (.inl (-1))), σ)) := (EvOf_eq mcode _).trans rfl
set_option maxRecDepth 100000 in
set_option maxHeartbeats 4000000 in
theorem q_X9_faultInAct (p1 : Int32) (σ : mS) : e_X9_faultInAct p1 σ =
  bdI (e_X7_at p1 σ) (fun v2 σ1 =>
  if v2 = nI 100 then (
    some (some (some (.inl (-1))), σ1))
  else (
    if v2 = nI 115 then (
      bdI (e_X7_digitAt (p1 + (nI 1)) (nI 0) (nI 9) σ1) (fun v4 σ3 =>
      if v4 < 0 then (
        some (some (some (.inl (p1 + (nI 1)))), σ3))
      else (
        bdI (e_X7_digitAt (p1 + (nI 2)) (nI 0) (nI 9) σ3) (fun v6 σ5 =>
        if v6 < 0 then (
          some (some (some (.inl (p1 + (nI 2)))), σ5))
        else (
          some (some (some (.inl (-1))), σ5))))))
    else (
      if v2 = nI 102 then (
        bdI (e_X7_letterAt (p1 + (nI 1)) (nI 6) σ1) (fun v8 σ7 =>
        if v8 < 0 then (
          some (some (some (.inl (p1 + (nI 1)))), σ7))
        else (
          bdI (e_X7_digitAt (p1 + (nI 2)) (nI 0) (nI 3) σ7) (fun v10 σ9 =>
          if v10 < 0 then (
            some (some (some (.inl (p1 + (nI 2)))), σ9))
          else (
            bdI (e_X7_letterAt (p1 + (nI 3)) (nI 6) σ9) (fun v12 σ11 =>
            if v12 < 0 then (
              some (some (some (.inl (p1 + (nI 3)))), σ11))
            else (
              bdI (e_X7_digitAt (p1 + (nI 4)) (nI 1) (nI 9) σ11) (fun v14 σ13 =>
              if v14 < 0 then (
                some (some (some (.inl (p1 + (nI 4)))), σ13))
              else (
                some (some (some (.inl (-1))), σ13))))))))))
      else (
        some (some (some (.inl p1)), σ1))))) := (EvOf_eq mcode _).trans rfl
set_option maxRecDepth 100000 in
set_option maxHeartbeats 4000000 in
theorem q_X9_doAct (p1 : Int32) (σ : mS) : e_X9_doAct p1 σ =
  bdI (e_X7_at p1 σ) (fun v2 σ1 =>
  if v2 = nI 100 then (
    bdI (e_X0_drawAll 0 σ1) (fun v4 σ3 =>
    if nI 1 = 0 ∨ nI 1 = 1 then some (some (some (.inl (nI 1))), σ3) else none))
  else (
    if v2 = nI 115 then (
      bdI (e_X7_digitAt (p1 + (nI 1)) (nI 0) (nI 9) σ1) (fun v6 σ5 =>
      bdI (e_X7_digitAt (p1 + (nI 2)) (nI 0) (nI 9) σ5) (fun v8 σ7 =>
      if ((nI 10) * v6) + v8 < nI 1 then (
        if nI 0 = 0 ∨ nI 0 = 1 then some (some (some (.inl (nI 0))), σ7) else none)
      else (
        if nI 60 < ((nI 10) * v6) + v8 then (
          if nI 0 = 0 ∨ nI 0 = 1 then some (some (some (.inl (nI 0))), σ7) else none)
        else (
          b_X9_doAct_78 (((nI 10) * v6) + v8) (nI 0) σ7)))))
    else (
      bdI (e_X7_letterAt (p1 + (nI 1)) (nI 6) σ1) (fun v10 σ9 =>
      bdI (e_X7_digitAt (p1 + (nI 2)) (nI 0) (nI 3) σ9) (fun v12 σ11 =>
      bdI (e_X7_letterAt (p1 + (nI 3)) (nI 6) σ11) (fun v14 σ13 =>
      bdI (e_X7_digitAt (p1 + (nI 4)) (nI 1) (nI 9) σ13) (fun v16 σ15 =>
      bdI (e_X0_whyNotOffer 0 v10 v12 v14 v16 σ15) (fun v18 σ17 =>
      if v18 < 0 then (
        if nI 0 = 0 ∨ nI 0 = 1 then some (some (some (.inl (nI 0))), σ17) else none)
      else (
        bdI (e_X0_takeFrame 0 v10 v12 v14 v16 σ17) (fun v20 σ19 =>
        if nI 1 = 0 ∨ nI 1 = 1 then some (some (some (.inl (nI 1))), σ19) else none)))))))))) := (EvOf_eq mcode _).trans rfl
set_option maxRecDepth 100000 in
set_option maxHeartbeats 4000000 in
theorem q_X9_doAct_78 (x3 : Int32) (x4 : Int32) (σ : mS) : b_X9_doAct_78 x3 x4 σ =
  if x4 < x3 then (
    bdV (e_X0_passSlot 0 σ) (fun σ1 =>
    b_X9_doAct_78 x3 (x4 + 1) σ1))
  else (
    if nI 1 = 0 ∨ nI 1 = 1 then some (some (some (.inl (nI 1))), σ) else none) := (EvOf_eq mcode _).trans rfl
set_option maxRecDepth 100000 in
set_option maxHeartbeats 4000000 in
theorem q_X9_offerDrawn (σ : mS) : e_X9_offerDrawn σ =
  bdI (e_X1_draw 10 (nI 6) σ) (fun v2 σ1 =>
  bdI (e_X1_draw 10 (nI 4) σ1) (fun v4 σ3 =>
  bdI (e_X1_draw 10 (nI 6) σ3) (fun v6 σ5 =>
  bdI (e_X1_draw 10 (nI 9) σ5) (fun v8 σ7 =>
  bdI (e_X0_whyNotOffer 1 v2 v4 v6 (v8 + (nI 1)) σ7) (fun v10 σ9 =>
  if v10 = 0 then (
    bdI (e_X0_takeFrame 1 v2 v4 v6 (v8 + (nI 1)) σ9) (fun v12 σ11 =>
    some (some none, σ11)))
  else (
    some (some none, σ9))))))) := (EvOf_eq mcode _).trans rfl

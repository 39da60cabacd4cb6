def F_X0_isMember (a1 : Int32) (M : MM) : Bool :=
  if a1 < (0 : Int32) then
    false
  else
    if gI M 1 4 ≤ a1 then
      false
    else
      true
def F_X0_isRank (a1 : Int32) (M : MM) : Bool :=
  if a1 < (0 : Int32) then
    false
  else
    if gI M 1 5 ≤ a1 then
      false
    else
      true
def F_X0_isShare (a1 : Int32) (M : MM) : Bool :=
  if a1 < (0 : Int32) then
    false
  else
    if gI M 1 6 ≤ a1 then
      false
    else
      true
def F_X0_canBeLives (N : Nat) (a1 : Int32) (a2 : Int32) (a3 : Int32) (M : MM) : Option Bool :=
  if bI (F_X0_isMember a1 M) = (0 : Int32) then
    some false
  else
    gd (ib a1 24) (
    if bo (gI M (7 + (ix a1)) 5) = (0 : Int32) then
      if a3 = (0 : Int32) then
        some true
      else
        if bI (F_X0_isMember a2 M) = (0 : Int32) then
          some false
        else
          if a2 = a1 then
            some false
          else
            gd (ib a2 24) (
            if bo (gI M (7 + (ix a2)) 5) = (0 : Int32) then
              some true
            else
              some false
            )
    else
      some false
    )
def F_X0_isProved (N : Nat) (a1 : Int32) (M : MM) : Option Bool :=
  if bI (F_X0_isMember a1 M) = (0 : Int32) then
    some false
  else
    gd (ib a1 24) (
    if bo (gI M (7 + (ix a1)) 4) = (0 : Int32) then
      some false
    else
      some true
    )
def F_X0_isDead (N : Nat) (a1 : Int32) (M : MM) : Option Bool :=
  if bI (F_X0_isMember a1 M) = (0 : Int32) then
    some false
  else
    gd (ib a1 24) (
    if bo (gI M (7 + (ix a1)) 5) = (0 : Int32) then
      some false
    else
      some true
    )
def F_X0_isAllDead (N : Nat) (c1 : Nat) (M : MM) : Option Bool :=
  bn1 (F_X0_isDead N (gI M c1 1) M) (fun x1 =>
  if bI x1 = (0 : Int32) then
    some false
  else
    if gI M c1 2 = (-1 : Int32) then
      some true
    else
      bn1 (F_X0_isDead N (gI M c1 2) M) (fun x4 =>
      if bI x4 = (0 : Int32) then
        some false
      else
        some true
      )
  )
def F_X0_howItIs (N : Nat) (c1 : Nat) (M : MM) : Option Int32 :=
  bn1 (F_X0_isProved N (gI M c1 1) M) (fun x1 =>
  if bI x1 = (0 : Int32) then
    bn1 (F_X0_isProved N (gI M c1 2) M) (fun x3 =>
    if bI x3 = (0 : Int32) then
      if gI M c1 9 ≤ gI M 1 7 then
        bn1 (F_X0_isAllDead N c1 M) (fun x6 =>
        if bI x6 = (0 : Int32) then
          if gI M 1 8 ≤ gI M c1 10 then
            some (2 : Int32)
          else
            some (1 : Int32)
        else
          some (3 : Int32)
        )
      else
        some (0 : Int32)
    else
      some (0 : Int32)
    )
  else
    some (0 : Int32)
  )
def F_X0_isDrawing (N : Nat) (c1 : Nat) (M : MM) : Option Bool :=
  bn1 (F_X0_howItIs N c1 M) (fun x1 =>
  if x1 = (0 : Int32) then
    some true
  else
    if x1 = (1 : Int32) then
      some true
    else
      some false
  )
def F_X0_endOf (N : Nat) (c1 : Nat) (M : MM) : Option Int32 :=
  gd (ib (gI M c1 1) 24) (
  bnd (gI M (7 + (ix (gI M c1 1))) 6) (fun x2 =>
  if bI (F_X0_isMember (gI M c1 2) M) = (0 : Int32) then
    some x2
  else
    gd (ib (gI M c1 2) 24) (
    some (mxI x2 (gI M (7 + (ix (gI M c1 2))) 6))
    )
  ))
def F_X0_beginNextYear_12 (N : Nat)  : Nat → Int32 → MM → Option MM
  | 0, _, _ => none
  | fu + 1, v1, M =>
    if gI M 1 4 ≤ v1 then
      some M
    else
      gd (ib v1 24) (
      bnd (sI M (7 + (ix v1)) 4 (0 : Int32)) (fun M4 =>
      F_X0_beginNextYear_12 N  fu (v1 + (1 : Int32)) M4
      ))
def F_X0_beginNextYear (N : Nat)  (M : MM) : Option MM :=
  bnd (sI M 1 7 ((gI M 1 7) + (1 : Int32))) (fun M1 =>
  F_X0_beginNextYear_12 N  N (0 : Int32) M1
  )
def F_X0_giveBackOf (N : Nat) (c1 : Nat) (M : MM) : Option MM :=
  gd (ib (gI M c1 4) 6) (
  bnd (mnL (mxL ((gL M c1 6) - (gL M c1 7)) (0 : Int64)) (gL M (31 + (ix (gI M c1 4))) 3)) (fun x2 =>
  gd (ib (gI M c1 1) 24) (
  bnd (gI M (7 + (ix (gI M c1 1))) 3) (fun x4 =>
  bnd (sL M (31 + (ix (gI M c1 4))) 3 ((gL M (31 + (ix (gI M c1 4))) 3) - x2)) (fun M5 =>
  if bI (F_X0_isMember x4 M5) = (0 : Int32) then
    gd (ib (gI M5 c1 0) 24) (
    bnd (sL M5 (7 + (ix (gI M5 c1 0))) 1 ((gL M5 (7 + (ix (gI M5 c1 0))) 1) + x2)) (fun M8 =>
    some M8
    ))
  else
    gd (ib x4 24) (
    bnd (sL M5 (7 + (ix x4)) 1 ((gL M5 (7 + (ix x4)) 1) + x2)) (fun M10 =>
    some M10
    ))
  )))))
def F_X0_drawingUnits_5 (N : Nat) (a1 : Int32) : Nat → Int64 → Int32 → MM → Option Int64
  | 0, _, _, _ => none
  | fu + 1, v2, v4, M =>
    if gI M 1 6 ≤ v4 then
      some v2
    else
      gd (ib v4 40) (
      if gI M (37 + (ix v4)) 4 = a1 then
        bn1 (F_X0_isDrawing N (37 + (ix v4)) M) (fun x4 =>
        if bI x4 = (0 : Int32) then
          F_X0_drawingUnits_5 N a1 fu v2 (v4 + (1 : Int32)) M
        else
          bnd (v2 + ((gI M (37 + (ix v4)) 3).toInt64)) (fun x6 =>
          F_X0_drawingUnits_5 N a1 fu x6 (v4 + (1 : Int32)) M
          )
        )
      else
        F_X0_drawingUnits_5 N a1 fu v2 (v4 + (1 : Int32)) M
      )
def F_X0_drawingUnits (N : Nat) (a1 : Int32) (M : MM) : Option Int64 :=
  F_X0_drawingUnits_5 N a1 N (0 : Int64) (0 : Int32) M
def F_X0_sharesIn_5 (N : Nat) (a1 : Int32) : Nat → Int64 → Int32 → MM → Option Int64
  | 0, _, _, _ => none
  | fu + 1, v2, v4, M =>
    if gI M 1 6 ≤ v4 then
      some v2
    else
      gd (ib v4 40) (
      if gI M (37 + (ix v4)) 4 = a1 then
        bnd (v2 + (1 : Int64)) (fun x4 =>
        F_X0_sharesIn_5 N a1 fu x4 (v4 + (1 : Int32)) M
        )
      else
        F_X0_sharesIn_5 N a1 fu v2 (v4 + (1 : Int32)) M
      )
def F_X0_sharesIn (N : Nat) (a1 : Int32) (M : MM) : Option Int64 :=
  F_X0_sharesIn_5 N a1 N (0 : Int64) (0 : Int32) M
def F_X0_allPurses_4 (N : Nat)  : Nat → Int64 → Int32 → MM → Option Int64
  | 0, _, _, _ => none
  | fu + 1, v1, v3, M =>
    if gI M 1 4 ≤ v3 then
      some v1
    else
      gd (ib v3 24) (
      bnd (v1 + (gL M (7 + (ix v3)) 1)) (fun x3 =>
      F_X0_allPurses_4 N  fu x3 (v3 + (1 : Int32)) M
      ))
def F_X0_allPurses (N : Nat)  (M : MM) : Option Int64 :=
  F_X0_allPurses_4 N  N (0 : Int64) (0 : Int32) M
def F_X0_allStocks_4 (N : Nat)  : Nat → Int64 → Int32 → MM → Option Int64
  | 0, _, _, _ => none
  | fu + 1, v1, v3, M =>
    if gI M 1 5 ≤ v3 then
      some v1
    else
      gd (ib v3 6) (
      bnd (v1 + (gL M (31 + (ix v3)) 3)) (fun x3 =>
      F_X0_allStocks_4 N  fu x3 (v3 + (1 : Int32)) M
      ))
def F_X0_allStocks (N : Nat)  (M : MM) : Option Int64 :=
  F_X0_allStocks_4 N  N (0 : Int64) (0 : Int32) M
def F_X0_allDebts_4 (N : Nat)  : Nat → Int64 → Int32 → MM → Option Int64
  | 0, _, _, _ => none
  | fu + 1, v1, v3, M =>
    if gI M 1 4 ≤ v3 then
      some v1
    else
      gd (ib v3 24) (
      bnd (v1 + (gL M (7 + (ix v3)) 2)) (fun x3 =>
      F_X0_allDebts_4 N  fu x3 (v3 + (1 : Int32)) M
      ))
def F_X0_allDebts (N : Nat)  (M : MM) : Option Int64 :=
  F_X0_allDebts_4 N  N (0 : Int64) (0 : Int32) M
def F_X1_begin (N : Nat) (c0 : Nat) (a1 : Int32) (M : MM) : Option MM :=
  bnd (sI M c0 0 a1) (fun M1 =>
  bnd (sL M1 c0 1 (0 : Int64)) (fun M2 =>
  bnd (sL M2 c0 2 (0 : Int64)) (fun M3 =>
  bnd (sI M3 c0 3 (-1 : Int32)) (fun M4 =>
  bnd (sI M4 c0 4 (0 : Int32)) (fun M5 =>
  bnd (sI M5 c0 5 (0 : Int32)) (fun M6 =>
  bnd (sI M6 c0 6 (0 : Int32)) (fun M7 =>
  some M7
  )))))))
def F_X1_copyFrom (N : Nat) (c0 : Nat) (c1 : Nat) (M : MM) : Option MM :=
  bnd (sI M c0 0 (gI M c1 0)) (fun M1 =>
  bnd (sL M1 c0 1 (gL M1 c1 1)) (fun M2 =>
  bnd (sL M2 c0 2 (gL M2 c1 2)) (fun M3 =>
  bnd (sI M3 c0 3 (gI M3 c1 3)) (fun M4 =>
  bnd (sI M4 c0 4 (bo (gI M4 c1 4))) (fun M5 =>
  bnd (sI M5 c0 5 (bo (gI M5 c1 5))) (fun M6 =>
  bnd (sI M6 c0 6 (gI M6 c1 6)) (fun M7 =>
  some M7
  )))))))
def F_X2_begin (N : Nat) (c0 : Nat) (a1 : Int32) (a2 : Int32) (a3 : Int32) (M : MM) : Option MM :=
  bnd (sI M c0 0 a1) (fun M1 =>
  bnd (sI M1 c0 1 a2) (fun M2 =>
  bnd (sI M2 c0 2 a3) (fun M3 =>
  bnd (sL M3 c0 3 (0 : Int64)) (fun M4 =>
  bnd (sL M4 c0 4 (0 : Int64)) (fun M5 =>
  bnd (sL M5 c0 5 (0 : Int64)) (fun M6 =>
  some M6
  ))))))
def F_X2_copyFrom (N : Nat) (c0 : Nat) (c1 : Nat) (M : MM) : Option MM :=
  bnd (sI M c0 0 (gI M c1 0)) (fun M1 =>
  bnd (sI M1 c0 1 (gI M1 c1 1)) (fun M2 =>
  bnd (sI M2 c0 2 (gI M2 c1 2)) (fun M3 =>
  bnd (sL M3 c0 3 (gL M3 c1 3)) (fun M4 =>
  bnd (sL M4 c0 4 (gL M4 c1 4)) (fun M5 =>
  bnd (sL M5 c0 5 (gL M5 c1 5)) (fun M6 =>
  some M6
  ))))))
def F_X3_hasLife (c0 : Nat) (a1 : Int32) (M : MM) : Bool :=
  if gI M c0 1 = a1 then
    true
  else
    if gI M c0 2 = a1 then
      true
    else
      false
def F_X3_drewIn_9 (N : Nat) (c0 : Nat) (a1 : Int32) (a2 : Int32) : Nat → Int64 → Int32 → MM → Option Int64
  | 0, _, _, _ => none
  | fu + 1, v3, v5, M =>
    if a2 ≤ v5 then
      some v3
    else
      if (60 : Int32) ≤ v5 then
        some v3
      else
        gd (ib v5 60) (
        bnd (v3 + (gL M (c0 + 40) (ix v5))) (fun x5 =>
        F_X3_drewIn_9 N c0 a1 a2 fu x5 (v5 + (1 : Int32)) M
        ))
def F_X3_drewIn (N : Nat) (c0 : Nat) (a1 : Int32) (a2 : Int32) (M : MM) : Option Int64 :=
  bnd (mxI a1 (0 : Int32)) (fun x1 =>
  F_X3_drewIn_9 N c0 a1 a2 N (0 : Int64) x1 M
  )
def F_X3_heldAt (N : Nat) (c0 : Nat) (a1 : Int32) (M : MM) : Option Int64 :=
  bn1 (F_X3_drewIn N c0 (gI M c0 14) a1 M) (fun x1 =>
  some x1
  )
def F_X3_release (N : Nat) (c0 : Nat) (a1 : Int32) (M : MM) : Option (Int64 × MM) :=
  bn1 (F_X3_heldAt N c0 a1 M) (fun x1 =>
  bnd (sI M c0 14 a1) (fun M2 =>
  some (x1, M2)
  ))
theorem hd_X0_isMember : yX0_isMember.cls ≠ "java/lang/invoke/MethodHandle" ∧ yX0_isMember.cls ≠ "java/lang/invoke/VarHandle" ∧ (parseMethodDescriptor yX0_isMember.desc).map (fun d => d.parameters.length) = some 1 := by decide +kernel
set_option maxHeartbeats 4000000 in
set_option maxRecDepth 100000 in
theorem K_X0_isMember (l : Launch) (E : EE) (ad : Nat → Nat) (n : Nat) (hI : ad_I ad n) (hn : 117 ≤ n) (sz : Nat) (a1 : Int32)  (M : MM) (r : Bool) (hf : F_X0_isMember a1 M = r) : CtI l yX0_isMember cX0_isMember 2 0 0 .boolean E (entC E ad n M) (entC E ad n M) ad n sz [.ref (ad 1), .int a1] (bI r) := by
  unfold CtI
  refine body_of (by decide) "SurvivorPurse$Book" rfl (Nat.le_of_ble_eq_true rfl) ?_
  intro p e s m below meth c hsz S hr hlk hP hK hN ls hl
  subst hsz
  have hS : va_S (AA ad n s.heap.size) s.heap s.heap [] := va_S.rf
  have hl : lv_has ls 2 [(0, .ref (ad 1)), (1, .int a1)] := hl
  rw [F_X0_isMember] at hf
  refine lv_iload_n S.1 S.2.1 dX0_isMember_0 rfl (lv_at hl 1 rfl) ?_
  refine lv_if_lt (tgt := 16) S.1 S.2.1 dX0_isMember_1 (by decide) (fun h1 => ?_) (fun h1 => ?_)
  · replace hf := ift h1 hf
    refine lv_iconst (v := (0 : Int32)) S.1 S.2.1 dX0_isMember_16 (by decide) ?_
    subst hf
    exact r_z S hr hlk hP hS dX0_isMember_17
  · replace hf := iff_ h1 hf
    refine lv_iload_n S.1 S.2.1 dX0_isMember_4 rfl (lv_at hl 1 rfl) ?_
    refine lv_aload_n S.1 S.2.1 dX0_isMember_5 rfl (lv_at hl 0 rfl) ?_
    refine x_get (v := .int (gI M 1 4)) S hK hP w_lay_X0 (ci := 0) rfl 1 (ok_lt (ok_b1 hn)) (e0 (ok_b1 hn).1) 4 (by decide) w_fl_X0_47 rfl rfl dX0_isMember_6 ?_
    refine lv_icmp_ge (tgt := 16) S.1 S.2.1 dX0_isMember_9 (by decide) (fun h2 => ?_) (fun h2 => ?_)
    · replace hf := ift h2 hf
      refine lv_iconst (v := (0 : Int32)) S.1 S.2.1 dX0_isMember_16 (by decide) ?_
      subst hf
      exact r_z S hr hlk hP hS dX0_isMember_17
    · replace hf := iff_ h2 hf
      refine lv_iconst (v := (1 : Int32)) S.1 S.2.1 dX0_isMember_12 (by decide) ?_
      refine lv_goto (tgt := 17) S.1 S.2.1 dX0_isMember_13 (by decide) ?_
      subst hf
      exact r_z S hr hlk hP hS dX0_isMember_17
theorem hd_X0_isRank : yX0_isRank.cls ≠ "java/lang/invoke/MethodHandle" ∧ yX0_isRank.cls ≠ "java/lang/invoke/VarHandle" ∧ (parseMethodDescriptor yX0_isRank.desc).map (fun d => d.parameters.length) = some 1 := by decide +kernel
set_option maxHeartbeats 4000000 in
set_option maxRecDepth 100000 in
theorem K_X0_isRank (l : Launch) (E : EE) (ad : Nat → Nat) (n : Nat) (hI : ad_I ad n) (hn : 117 ≤ n) (sz : Nat) (a1 : Int32)  (M : MM) (r : Bool) (hf : F_X0_isRank a1 M = r) : CtI l yX0_isRank cX0_isRank 2 0 0 .boolean E (entC E ad n M) (entC E ad n M) ad n sz [.ref (ad 1), .int a1] (bI r) := by
  unfold CtI
  refine body_of (by decide) "SurvivorPurse$Book" rfl (Nat.le_of_ble_eq_true rfl) ?_
  intro p e s m below meth c hsz S hr hlk hP hK hN ls hl
  subst hsz
  have hS : va_S (AA ad n s.heap.size) s.heap s.heap [] := va_S.rf
  have hl : lv_has ls 2 [(0, .ref (ad 1)), (1, .int a1)] := hl
  rw [F_X0_isRank] at hf
  refine lv_iload_n S.1 S.2.1 dX0_isRank_0 rfl (lv_at hl 1 rfl) ?_
  refine lv_if_lt (tgt := 16) S.1 S.2.1 dX0_isRank_1 (by decide) (fun h1 => ?_) (fun h1 => ?_)
  · replace hf := ift h1 hf
    refine lv_iconst (v := (0 : Int32)) S.1 S.2.1 dX0_isRank_16 (by decide) ?_
    subst hf
    exact r_z S hr hlk hP hS dX0_isRank_17
  · replace hf := iff_ h1 hf
    refine lv_iload_n S.1 S.2.1 dX0_isRank_4 rfl (lv_at hl 1 rfl) ?_
    refine lv_aload_n S.1 S.2.1 dX0_isRank_5 rfl (lv_at hl 0 rfl) ?_
    refine x_get (v := .int (gI M 1 5)) S hK hP w_lay_X0 (ci := 0) rfl 1 (ok_lt (ok_b1 hn)) (e0 (ok_b1 hn).1) 5 (by decide) w_fl_X0_50 rfl rfl dX0_isRank_6 ?_
    refine lv_icmp_ge (tgt := 16) S.1 S.2.1 dX0_isRank_9 (by decide) (fun h2 => ?_) (fun h2 => ?_)
    · replace hf := ift h2 hf
      refine lv_iconst (v := (0 : Int32)) S.1 S.2.1 dX0_isRank_16 (by decide) ?_
      subst hf
      exact r_z S hr hlk hP hS dX0_isRank_17
    · replace hf := iff_ h2 hf
      refine lv_iconst (v := (1 : Int32)) S.1 S.2.1 dX0_isRank_12 (by decide) ?_
      refine lv_goto (tgt := 17) S.1 S.2.1 dX0_isRank_13 (by decide) ?_
      subst hf
      exact r_z S hr hlk hP hS dX0_isRank_17
theorem hd_X0_isShare : yX0_isShare.cls ≠ "java/lang/invoke/MethodHandle" ∧ yX0_isShare.cls ≠ "java/lang/invoke/VarHandle" ∧ (parseMethodDescriptor yX0_isShare.desc).map (fun d => d.parameters.length) = some 1 := by decide +kernel
set_option maxHeartbeats 4000000 in
set_option maxRecDepth 100000 in
theorem K_X0_isShare (l : Launch) (E : EE) (ad : Nat → Nat) (n : Nat) (hI : ad_I ad n) (hn : 117 ≤ n) (sz : Nat) (a1 : Int32)  (M : MM) (r : Bool) (hf : F_X0_isShare a1 M = r) : CtI l yX0_isShare cX0_isShare 2 0 0 .boolean E (entC E ad n M) (entC E ad n M) ad n sz [.ref (ad 1), .int a1] (bI r) := by
  unfold CtI
  refine body_of (by decide) "SurvivorPurse$Book" rfl (Nat.le_of_ble_eq_true rfl) ?_
  intro p e s m below meth c hsz S hr hlk hP hK hN ls hl
  subst hsz
  have hS : va_S (AA ad n s.heap.size) s.heap s.heap [] := va_S.rf
  have hl : lv_has ls 2 [(0, .ref (ad 1)), (1, .int a1)] := hl
  rw [F_X0_isShare] at hf
  refine lv_iload_n S.1 S.2.1 dX0_isShare_0 rfl (lv_at hl 1 rfl) ?_
  refine lv_if_lt (tgt := 16) S.1 S.2.1 dX0_isShare_1 (by decide) (fun h1 => ?_) (fun h1 => ?_)
  · replace hf := ift h1 hf
    refine lv_iconst (v := (0 : Int32)) S.1 S.2.1 dX0_isShare_16 (by decide) ?_
    subst hf
    exact r_z S hr hlk hP hS dX0_isShare_17
  · replace hf := iff_ h1 hf
    refine lv_iload_n S.1 S.2.1 dX0_isShare_4 rfl (lv_at hl 1 rfl) ?_
    refine lv_aload_n S.1 S.2.1 dX0_isShare_5 rfl (lv_at hl 0 rfl) ?_
    refine x_get (v := .int (gI M 1 6)) S hK hP w_lay_X0 (ci := 0) rfl 1 (ok_lt (ok_b1 hn)) (e0 (ok_b1 hn).1) 6 (by decide) w_fl_X0_53 rfl rfl dX0_isShare_6 ?_
    refine lv_icmp_ge (tgt := 16) S.1 S.2.1 dX0_isShare_9 (by decide) (fun h2 => ?_) (fun h2 => ?_)
    · replace hf := ift h2 hf
      refine lv_iconst (v := (0 : Int32)) S.1 S.2.1 dX0_isShare_16 (by decide) ?_
      subst hf
      exact r_z S hr hlk hP hS dX0_isShare_17
    · replace hf := iff_ h2 hf
      refine lv_iconst (v := (1 : Int32)) S.1 S.2.1 dX0_isShare_12 (by decide) ?_
      refine lv_goto (tgt := 17) S.1 S.2.1 dX0_isShare_13 (by decide) ?_
      subst hf
      exact r_z S hr hlk hP hS dX0_isShare_17
theorem hd_X0_canBeLives : yX0_canBeLives.cls ≠ "java/lang/invoke/MethodHandle" ∧ yX0_canBeLives.cls ≠ "java/lang/invoke/VarHandle" ∧ (parseMethodDescriptor yX0_canBeLives.desc).map (fun d => d.parameters.length) = some 3 := by decide +kernel
set_option maxHeartbeats 4000000 in
set_option maxRecDepth 100000 in
theorem K_X0_canBeLives (l : Launch) (E : EE) (ad : Nat → Nat) (n : Nat) (hI : ad_I ad n) (hn : 117 ≤ n) (sz : Nat) (N : Nat) (a1 : Int32) (a2 : Int32) (a3 : Int32)  (M : MM) (r : Bool) (hf : F_X0_canBeLives N a1 a2 a3 M = some r) : CtI l yX0_canBeLives cX0_canBeLives 4 1 21 .boolean E (entC E ad n M) (entC E ad n M) ad n sz [.ref (ad 1), .int a1, .int a2, .int a3] (bI r) := by
  unfold CtI
  refine body_of (by decide) "SurvivorPurse$Book" rfl (Nat.le_of_ble_eq_true rfl) ?_
  intro p e s m below meth c hsz S hr hlk hP hK hN ls hl
  subst hsz
  have hS : va_S (AA ad n s.heap.size) s.heap s.heap [] := va_S.rf
  have hl : lv_has ls 4 [(0, .ref (ad 1)), (1, .int a1), (2, .int a2), (3, .int a3)] := hl
  rw [F_X0_canBeLives] at hf
  refine lv_aload_n S.1 S.2.1 dX0_canBeLives_0 rfl (lv_at hl 0 rfl) ?_
  refine lv_iload_n S.1 S.2.1 dX0_canBeLives_1 rfl (lv_at hl 1 rfl) ?_
  refine y_Vi (As := [.int a1]) S hK hN hP hS rfl (ok_lt (ok_b1 hn)) (e0 (ok_b1 hn).1) rfl (K_X0_isMember l E ad n hI hn _ a1  M _ rfl) (cV 1 S w_co_yX0_isMember w_in_X0 w_ml_X0_119 w_im_yX0_isMember w_se_yX0_isMember hd_X0_isMember ⟨Nat.le_of_ble_eq_true rfl, Nat.le_of_ble_eq_true rfl⟩) hl.1 rfl rfl (Nat.le_of_ble_eq_true rfl) dX0_canBeLives_2 ⟨Nat.zero_le _, Nat.zero_le _⟩ (fun H locs hP hS => ?_)
  refine lv_if_eq (tgt := 20) S.1 S.2.1 dX0_canBeLives_5 (by decide) (fun h1 => ?_) (fun h1 => ?_)
  · replace hf := ift h1 hf
    refine lv_iconst (v := (0 : Int32)) S.1 S.2.1 dX0_canBeLives_20 (by decide) ?_
    cases hf
    exact r_z S hr hlk hP hS dX0_canBeLives_21
  · replace hf := iff_ h1 hf
    refine lv_aload_n S.1 S.2.1 dX0_canBeLives_8 rfl (lv_at hl 0 rfl) ?_
    refine x_get (v := .ref (ad 4)) S hK hP w_lay_X0 (ci := 0) rfl 1 (ok_lt (ok_b1 hn)) (e0 (ok_b1 hn).1) 1 (by decide) w_fl_X0_20 rfl rfl dX0_canBeLives_9 ?_
    refine lv_iload_n S.1 S.2.1 dX0_canBeLives_12 rfl (lv_at hl 1 rfl) ?_
    obtain ⟨h2, hf⟩ := gd_some hf
    refine x_aald S hK hP 4 (ok_lt (ok_ma1 hn)) e9_1 2 rfl h2 dX0_canBeLives_13 ?_
    refine x_get (v := .int (bo (gI M (7 + (ix a1)) 5))) S hK hP w_lay_X1 (ci := 1) rfl (7 + (ix a1)) (ok_lt (ok_m1 hn (ib_lt h2))) (e1 (ok_m1 hn (ib_lt h2)).1) 5 (by decide) w_fl_X0_123 rfl rfl dX0_canBeLives_14 ?_
    refine lv_if_eq (tgt := 22) S.1 S.2.1 dX0_canBeLives_17 (by decide) (fun h3 => ?_) (fun h3 => ?_)
    · replace hf := ift h3 hf
      refine lv_iload_n S.1 S.2.1 dX0_canBeLives_22 rfl (lv_at hl 3 rfl) ?_
      refine lv_if_eq (tgt := 51) S.1 S.2.1 dX0_canBeLives_23 (by decide) (fun h4 => ?_) (fun h4 => ?_)
      · replace hf := ift h4 hf
        refine lv_iconst (v := (1 : Int32)) S.1 S.2.1 dX0_canBeLives_51 (by decide) ?_
        refine lv_goto (tgt := 56) S.1 S.2.1 dX0_canBeLives_52 (by decide) ?_
        cases hf
        exact r_z S hr hlk hP hS dX0_canBeLives_56
      · replace hf := iff_ h4 hf
        refine lv_aload_n S.1 S.2.1 dX0_canBeLives_26 rfl (lv_at hl 0 rfl) ?_
        refine lv_iload_n S.1 S.2.1 dX0_canBeLives_27 rfl (lv_at hl 2 rfl) ?_
        refine y_Vi (As := [.int a2]) S hK hN hP hS rfl (ok_lt (ok_b1 hn)) (e0 (ok_b1 hn).1) rfl (K_X0_isMember l E ad n hI hn _ a2  M _ rfl) (cV 1 S w_co_yX0_isMember w_in_X0 w_ml_X0_119 w_im_yX0_isMember w_se_yX0_isMember hd_X0_isMember ⟨Nat.le_of_ble_eq_true rfl, Nat.le_of_ble_eq_true rfl⟩) hl.1 rfl rfl (Nat.le_of_ble_eq_true rfl) dX0_canBeLives_28 ⟨Nat.zero_le _, Nat.zero_le _⟩ (fun H locs hP hS => ?_)
        refine lv_if_eq (tgt := 55) S.1 S.2.1 dX0_canBeLives_31 (by decide) (fun h5 => ?_) (fun h5 => ?_)
        · replace hf := ift h5 hf
          refine lv_iconst (v := (0 : Int32)) S.1 S.2.1 dX0_canBeLives_55 (by decide) ?_
          cases hf
          exact r_z S hr hlk hP hS dX0_canBeLives_56
        · replace hf := iff_ h5 hf
          refine lv_iload_n S.1 S.2.1 dX0_canBeLives_34 rfl (lv_at hl 2 rfl) ?_
          refine lv_iload_n S.1 S.2.1 dX0_canBeLives_35 rfl (lv_at hl 1 rfl) ?_
          refine lv_icmp_eq (tgt := 55) S.1 S.2.1 dX0_canBeLives_36 (by decide) (fun h6 => ?_) (fun h6 => ?_)
          · replace hf := ift h6 hf
            refine lv_iconst (v := (0 : Int32)) S.1 S.2.1 dX0_canBeLives_55 (by decide) ?_
            cases hf
            exact r_z S hr hlk hP hS dX0_canBeLives_56
          · replace hf := iff_ h6 hf
            refine lv_aload_n S.1 S.2.1 dX0_canBeLives_39 rfl (lv_at hl 0 rfl) ?_
            refine x_get (v := .ref (ad 4)) S hK hP w_lay_X0 (ci := 0) rfl 1 (ok_lt (ok_b1 hn)) (e0 (ok_b1 hn).1) 1 (by decide) w_fl_X0_20 rfl rfl dX0_canBeLives_40 ?_
            refine lv_iload_n S.1 S.2.1 dX0_canBeLives_43 rfl (lv_at hl 2 rfl) ?_
            obtain ⟨h7, hf⟩ := gd_some hf
            refine x_aald S hK hP 4 (ok_lt (ok_ma1 hn)) e9_1 2 rfl h7 dX0_canBeLives_44 ?_
            refine x_get (v := .int (bo (gI M (7 + (ix a2)) 5))) S hK hP w_lay_X1 (ci := 1) rfl (7 + (ix a2)) (ok_lt (ok_m1 hn (ib_lt h7))) (e1 (ok_m1 hn (ib_lt h7)).1) 5 (by decide) w_fl_X0_123 rfl rfl dX0_canBeLives_45 ?_
            refine lv_if_ne (tgt := 55) S.1 S.2.1 dX0_canBeLives_48 (by decide) (fun h8 => ?_) (fun h8 => ?_)
            · replace hf := iff_ h8 hf
              refine lv_iconst (v := (0 : Int32)) S.1 S.2.1 dX0_canBeLives_55 (by decide) ?_
              cases hf
              exact r_z S hr hlk hP hS dX0_canBeLives_56
            · replace hf := ift h8 hf
              refine lv_iconst (v := (1 : Int32)) S.1 S.2.1 dX0_canBeLives_51 (by decide) ?_
              refine lv_goto (tgt := 56) S.1 S.2.1 dX0_canBeLives_52 (by decide) ?_
              cases hf
              exact r_z S hr hlk hP hS dX0_canBeLives_56
    · replace hf := iff_ h3 hf
      refine lv_iconst (v := (0 : Int32)) S.1 S.2.1 dX0_canBeLives_20 (by decide) ?_
      cases hf
      exact r_z S hr hlk hP hS dX0_canBeLives_21
theorem hd_X0_isProved : yX0_isProved.cls ≠ "java/lang/invoke/MethodHandle" ∧ yX0_isProved.cls ≠ "java/lang/invoke/VarHandle" ∧ (parseMethodDescriptor yX0_isProved.desc).map (fun d => d.parameters.length) = some 1 := by decide +kernel
set_option maxHeartbeats 4000000 in
set_option maxRecDepth 100000 in
theorem K_X0_isProved (l : Launch) (E : EE) (ad : Nat → Nat) (n : Nat) (hI : ad_I ad n) (hn : 117 ≤ n) (sz : Nat) (N : Nat) (a1 : Int32)  (M : MM) (r : Bool) (hf : F_X0_isProved N a1 M = some r) : CtI l yX0_isProved cX0_isProved 2 1 21 .boolean E (entC E ad n M) (entC E ad n M) ad n sz [.ref (ad 1), .int a1] (bI r) := by
  unfold CtI
  refine body_of (by decide) "SurvivorPurse$Book" rfl (Nat.le_of_ble_eq_true rfl) ?_
  intro p e s m below meth c hsz S hr hlk hP hK hN ls hl
  subst hsz
  have hS : va_S (AA ad n s.heap.size) s.heap s.heap [] := va_S.rf
  have hl : lv_has ls 2 [(0, .ref (ad 1)), (1, .int a1)] := hl
  rw [F_X0_isProved] at hf
  refine lv_aload_n S.1 S.2.1 dX0_isProved_0 rfl (lv_at hl 0 rfl) ?_
  refine lv_iload_n S.1 S.2.1 dX0_isProved_1 rfl (lv_at hl 1 rfl) ?_
  refine y_Vi (As := [.int a1]) S hK hN hP hS rfl (ok_lt (ok_b1 hn)) (e0 (ok_b1 hn).1) rfl (K_X0_isMember l E ad n hI hn _ a1  M _ rfl) (cV 1 S w_co_yX0_isMember w_in_X0 w_ml_X0_119 w_im_yX0_isMember w_se_yX0_isMember hd_X0_isMember ⟨Nat.le_of_ble_eq_true rfl, Nat.le_of_ble_eq_true rfl⟩) hl.1 rfl rfl (Nat.le_of_ble_eq_true rfl) dX0_isProved_2 ⟨Nat.zero_le _, Nat.zero_le _⟩ (fun H locs hP hS => ?_)
  refine lv_if_eq (tgt := 24) S.1 S.2.1 dX0_isProved_5 (by decide) (fun h1 => ?_) (fun h1 => ?_)
  · replace hf := ift h1 hf
    refine lv_iconst (v := (0 : Int32)) S.1 S.2.1 dX0_isProved_24 (by decide) ?_
    cases hf
    exact r_z S hr hlk hP hS dX0_isProved_25
  · replace hf := iff_ h1 hf
    refine lv_aload_n S.1 S.2.1 dX0_isProved_8 rfl (lv_at hl 0 rfl) ?_
    refine x_get (v := .ref (ad 4)) S hK hP w_lay_X0 (ci := 0) rfl 1 (ok_lt (ok_b1 hn)) (e0 (ok_b1 hn).1) 1 (by decide) w_fl_X0_20 rfl rfl dX0_isProved_9 ?_
    refine lv_iload_n S.1 S.2.1 dX0_isProved_12 rfl (lv_at hl 1 rfl) ?_
    obtain ⟨h2, hf⟩ := gd_some hf
    refine x_aald S hK hP 4 (ok_lt (ok_ma1 hn)) e9_1 2 rfl h2 dX0_isProved_13 ?_
    refine x_get (v := .int (bo (gI M (7 + (ix a1)) 4))) S hK hP w_lay_X1 (ci := 1) rfl (7 + (ix a1)) (ok_lt (ok_m1 hn (ib_lt h2))) (e1 (ok_m1 hn (ib_lt h2)).1) 4 (by decide) w_fl_X0_146 rfl rfl dX0_isProved_14 ?_
    refine lv_if_eq (tgt := 24) S.1 S.2.1 dX0_isProved_17 (by decide) (fun h3 => ?_) (fun h3 => ?_)
    · replace hf := ift h3 hf
      refine lv_iconst (v := (0 : Int32)) S.1 S.2.1 dX0_isProved_24 (by decide) ?_
      cases hf
      exact r_z S hr hlk hP hS dX0_isProved_25
    · replace hf := iff_ h3 hf
      refine lv_iconst (v := (1 : Int32)) S.1 S.2.1 dX0_isProved_20 (by decide) ?_
      refine lv_goto (tgt := 25) S.1 S.2.1 dX0_isProved_21 (by decide) ?_
      cases hf
      exact r_z S hr hlk hP hS dX0_isProved_25
theorem hd_X0_isDead : yX0_isDead.cls ≠ "java/lang/invoke/MethodHandle" ∧ yX0_isDead.cls ≠ "java/lang/invoke/VarHandle" ∧ (parseMethodDescriptor yX0_isDead.desc).map (fun d => d.parameters.length) = some 1 := by decide +kernel
set_option maxHeartbeats 4000000 in
set_option maxRecDepth 100000 in
theorem K_X0_isDead (l : Launch) (E : EE) (ad : Nat → Nat) (n : Nat) (hI : ad_I ad n) (hn : 117 ≤ n) (sz : Nat) (N : Nat) (a1 : Int32)  (M : MM) (r : Bool) (hf : F_X0_isDead N a1 M = some r) : CtI l yX0_isDead cX0_isDead 2 1 21 .boolean E (entC E ad n M) (entC E ad n M) ad n sz [.ref (ad 1), .int a1] (bI r) := by
  unfold CtI
  refine body_of (by decide) "SurvivorPurse$Book" rfl (Nat.le_of_ble_eq_true rfl) ?_
  intro p e s m below meth c hsz S hr hlk hP hK hN ls hl
  subst hsz
  have hS : va_S (AA ad n s.heap.size) s.heap s.heap [] := va_S.rf
  have hl : lv_has ls 2 [(0, .ref (ad 1)), (1, .int a1)] := hl
  rw [F_X0_isDead] at hf
  refine lv_aload_n S.1 S.2.1 dX0_isDead_0 rfl (lv_at hl 0 rfl) ?_
  refine lv_iload_n S.1 S.2.1 dX0_isDead_1 rfl (lv_at hl 1 rfl) ?_
  refine y_Vi (As := [.int a1]) S hK hN hP hS rfl (ok_lt (ok_b1 hn)) (e0 (ok_b1 hn).1) rfl (K_X0_isMember l E ad n hI hn _ a1  M _ rfl) (cV 1 S w_co_yX0_isMember w_in_X0 w_ml_X0_119 w_im_yX0_isMember w_se_yX0_isMember hd_X0_isMember ⟨Nat.le_of_ble_eq_true rfl, Nat.le_of_ble_eq_true rfl⟩) hl.1 rfl rfl (Nat.le_of_ble_eq_true rfl) dX0_isDead_2 ⟨Nat.zero_le _, Nat.zero_le _⟩ (fun H locs hP hS => ?_)
  refine lv_if_eq (tgt := 24) S.1 S.2.1 dX0_isDead_5 (by decide) (fun h1 => ?_) (fun h1 => ?_)
  · replace hf := ift h1 hf
    refine lv_iconst (v := (0 : Int32)) S.1 S.2.1 dX0_isDead_24 (by decide) ?_
    cases hf
    exact r_z S hr hlk hP hS dX0_isDead_25
  · replace hf := iff_ h1 hf
    refine lv_aload_n S.1 S.2.1 dX0_isDead_8 rfl (lv_at hl 0 rfl) ?_
    refine x_get (v := .ref (ad 4)) S hK hP w_lay_X0 (ci := 0) rfl 1 (ok_lt (ok_b1 hn)) (e0 (ok_b1 hn).1) 1 (by decide) w_fl_X0_20 rfl rfl dX0_isDead_9 ?_
    refine lv_iload_n S.1 S.2.1 dX0_isDead_12 rfl (lv_at hl 1 rfl) ?_
    obtain ⟨h2, hf⟩ := gd_some hf
    refine x_aald S hK hP 4 (ok_lt (ok_ma1 hn)) e9_1 2 rfl h2 dX0_isDead_13 ?_
    refine x_get (v := .int (bo (gI M (7 + (ix a1)) 5))) S hK hP w_lay_X1 (ci := 1) rfl (7 + (ix a1)) (ok_lt (ok_m1 hn (ib_lt h2))) (e1 (ok_m1 hn (ib_lt h2)).1) 5 (by decide) w_fl_X0_123 rfl rfl dX0_isDead_14 ?_
    refine lv_if_eq (tgt := 24) S.1 S.2.1 dX0_isDead_17 (by decide) (fun h3 => ?_) (fun h3 => ?_)
    · replace hf := ift h3 hf
      refine lv_iconst (v := (0 : Int32)) S.1 S.2.1 dX0_isDead_24 (by decide) ?_
      cases hf
      exact r_z S hr hlk hP hS dX0_isDead_25
    · replace hf := iff_ h3 hf
      refine lv_iconst (v := (1 : Int32)) S.1 S.2.1 dX0_isDead_20 (by decide) ?_
      refine lv_goto (tgt := 25) S.1 S.2.1 dX0_isDead_21 (by decide) ?_
      cases hf
      exact r_z S hr hlk hP hS dX0_isDead_25
theorem hd_X0_isAllDead : yX0_isAllDead.cls ≠ "java/lang/invoke/MethodHandle" ∧ yX0_isAllDead.cls ≠ "java/lang/invoke/VarHandle" ∧ (parseMethodDescriptor yX0_isAllDead.desc).map (fun d => d.parameters.length) = some 1 := by decide +kernel
set_option maxHeartbeats 4000000 in
set_option maxRecDepth 100000 in
theorem K_X0_isAllDead (l : Launch) (E : EE) (ad : Nat → Nat) (n : Nat) (hI : ad_I ad n) (hn : 117 ≤ n) (sz : Nat) (N : Nat) (c1 : Nat) (P1 : ok 3 n c1) (M : MM) (r : Bool) (hf : F_X0_isAllDead N c1 M = some r) : CtI l yX0_isAllDead cX0_isAllDead 2 2 42 .boolean E (entC E ad n M) (entC E ad n M) ad n sz [.ref (ad 1), .ref (ad c1)] (bI r) := by
  unfold CtI
  refine body_of (by decide) "SurvivorPurse$Book" rfl (Nat.le_of_ble_eq_true rfl) ?_
  intro p e s m below meth c hsz S hr hlk hP hK hN ls hl
  subst hsz
  have hS : va_S (AA ad n s.heap.size) s.heap s.heap [] := va_S.rf
  have hl : lv_has ls 2 [(0, .ref (ad 1)), (1, .ref (ad c1))] := hl
  rw [F_X0_isAllDead] at hf
  refine lv_aload_n S.1 S.2.1 dX0_isAllDead_0 rfl (lv_at hl 0 rfl) ?_
  refine lv_aload_n S.1 S.2.1 dX0_isAllDead_1 rfl (lv_at hl 1 rfl) ?_
  refine x_get (v := .int (gI M c1 1)) S hK hP w_lay_X3 (ci := 3) rfl c1 (ok_lt P1) (e3 P1.1) 1 (by decide) w_fl_X0_92 rfl rfl dX0_isAllDead_2 ?_
  obtain ⟨x1, gx1, hf⟩ := bn1_some hf
  refine y_Vi (As := [.int (gI M c1 1)]) S hK hN hP hS rfl (ok_lt (ok_b1 hn)) (e0 (ok_b1 hn).1) rfl (K_X0_isDead l E ad n hI hn _ N (gI M c1 1)  M x1 gx1) (cV 1 S w_co_yX0_isDead w_in_X0 w_ml_X0_149 w_im_yX0_isDead w_se_yX0_isDead hd_X0_isDead ⟨Nat.le_of_ble_eq_true rfl, Nat.le_of_ble_eq_true rfl⟩) hl.1 rfl rfl (Nat.le_of_ble_eq_true rfl) dX0_isAllDead_5 ⟨Nat.zero_le _, Nat.zero_le _⟩ (fun H locs hP hS => ?_)
  refine lv_if_eq (tgt := 34) S.1 S.2.1 dX0_isAllDead_8 (by decide) (fun h2 => ?_) (fun h2 => ?_)
  · replace hf := ift h2 hf
    refine lv_iconst (v := (0 : Int32)) S.1 S.2.1 dX0_isAllDead_34 (by decide) ?_
    cases hf
    exact r_z S hr hlk hP hS dX0_isAllDead_35
  · replace hf := iff_ h2 hf
    refine lv_aload_n S.1 S.2.1 dX0_isAllDead_11 rfl (lv_at hl 1 rfl) ?_
    refine x_get (v := .int (gI M c1 2)) S hK hP w_lay_X3 (ci := 3) rfl c1 (ok_lt P1) (e3 P1.1) 2 (by decide) w_fl_X0_95 rfl rfl dX0_isAllDead_12 ?_
    refine lv_iconst (v := (-1 : Int32)) S.1 S.2.1 dX0_isAllDead_15 (by decide) ?_
    refine lv_icmp_eq (tgt := 30) S.1 S.2.1 dX0_isAllDead_16 (by decide) (fun h3 => ?_) (fun h3 => ?_)
    · replace hf := ift h3 hf
      refine lv_iconst (v := (1 : Int32)) S.1 S.2.1 dX0_isAllDead_30 (by decide) ?_
      refine lv_goto (tgt := 35) S.1 S.2.1 dX0_isAllDead_31 (by decide) ?_
      cases hf
      exact r_z S hr hlk hP hS dX0_isAllDead_35
    · replace hf := iff_ h3 hf
      refine lv_aload_n S.1 S.2.1 dX0_isAllDead_19 rfl (lv_at hl 0 rfl) ?_
      refine lv_aload_n S.1 S.2.1 dX0_isAllDead_20 rfl (lv_at hl 1 rfl) ?_
      refine x_get (v := .int (gI M c1 2)) S hK hP w_lay_X3 (ci := 3) rfl c1 (ok_lt P1) (e3 P1.1) 2 (by decide) w_fl_X0_95 rfl rfl dX0_isAllDead_21 ?_
      obtain ⟨x4, gx4, hf⟩ := bn1_some hf
      refine y_Vi (As := [.int (gI M c1 2)]) S hK hN hP hS rfl (ok_lt (ok_b1 hn)) (e0 (ok_b1 hn).1) rfl (K_X0_isDead l E ad n hI hn _ N (gI M c1 2)  M x4 gx4) (cV 1 S w_co_yX0_isDead w_in_X0 w_ml_X0_149 w_im_yX0_isDead w_se_yX0_isDead hd_X0_isDead ⟨Nat.le_of_ble_eq_true rfl, Nat.le_of_ble_eq_true rfl⟩) hl.1 rfl rfl (Nat.le_of_ble_eq_true rfl) dX0_isAllDead_24 ⟨Nat.zero_le _, Nat.zero_le _⟩ (fun H locs hP hS => ?_)
      refine lv_if_eq (tgt := 34) S.1 S.2.1 dX0_isAllDead_27 (by decide) (fun h5 => ?_) (fun h5 => ?_)
      · replace hf := ift h5 hf
        refine lv_iconst (v := (0 : Int32)) S.1 S.2.1 dX0_isAllDead_34 (by decide) ?_
        cases hf
        exact r_z S hr hlk hP hS dX0_isAllDead_35
      · replace hf := iff_ h5 hf
        refine lv_iconst (v := (1 : Int32)) S.1 S.2.1 dX0_isAllDead_30 (by decide) ?_
        refine lv_goto (tgt := 35) S.1 S.2.1 dX0_isAllDead_31 (by decide) ?_
        cases hf
        exact r_z S hr hlk hP hS dX0_isAllDead_35
theorem hd_X0_howItIs : yX0_howItIs.cls ≠ "java/lang/invoke/MethodHandle" ∧ yX0_howItIs.cls ≠ "java/lang/invoke/VarHandle" ∧ (parseMethodDescriptor yX0_howItIs.desc).map (fun d => d.parameters.length) = some 1 := by decide +kernel
set_option maxHeartbeats 4000000 in
set_option maxRecDepth 100000 in
theorem K_X0_howItIs (l : Launch) (E : EE) (ad : Nat → Nat) (n : Nat) (hI : ad_I ad n) (hn : 117 ≤ n) (sz : Nat) (N : Nat) (c1 : Nat) (P1 : ok 3 n c1) (M : MM) (r : Int32) (hf : F_X0_howItIs N c1 M = some r) : CtI l yX0_howItIs cX0_howItIs 2 3 63 .int E (entC E ad n M) (entC E ad n M) ad n sz [.ref (ad 1), .ref (ad c1)] (r) := by
  unfold CtI
  refine body_of (by decide) "SurvivorPurse$Book" rfl (Nat.le_of_ble_eq_true rfl) ?_
  intro p e s m below meth c hsz S hr hlk hP hK hN ls hl
  subst hsz
  have hS : va_S (AA ad n s.heap.size) s.heap s.heap [] := va_S.rf
  have hl : lv_has ls 2 [(0, .ref (ad 1)), (1, .ref (ad c1))] := hl
  rw [F_X0_howItIs] at hf
  refine lv_aload_n S.1 S.2.1 dX0_howItIs_0 rfl (lv_at hl 0 rfl) ?_
  refine lv_aload_n S.1 S.2.1 dX0_howItIs_1 rfl (lv_at hl 1 rfl) ?_
  refine x_get (v := .int (gI M c1 1)) S hK hP w_lay_X3 (ci := 3) rfl c1 (ok_lt P1) (e3 P1.1) 1 (by decide) w_fl_X0_92 rfl rfl dX0_howItIs_2 ?_
  obtain ⟨x1, gx1, hf⟩ := bn1_some hf
  refine y_Vi (As := [.int (gI M c1 1)]) S hK hN hP hS rfl (ok_lt (ok_b1 hn)) (e0 (ok_b1 hn).1) rfl (K_X0_isProved l E ad n hI hn _ N (gI M c1 1)  M x1 gx1) (cV 1 S w_co_yX0_isProved w_in_X0 w_ml_X0_152 w_im_yX0_isProved w_se_yX0_isProved hd_X0_isProved ⟨Nat.le_of_ble_eq_true rfl, Nat.le_of_ble_eq_true rfl⟩) hl.1 rfl rfl (Nat.le_of_ble_eq_true rfl) dX0_howItIs_5 ⟨Nat.zero_le _, Nat.zero_le _⟩ (fun H locs hP hS => ?_)
  refine lv_if_ne (tgt := 33) S.1 S.2.1 dX0_howItIs_8 (by decide) (fun h2 => ?_) (fun h2 => ?_)
  · replace hf := iff_ h2 hf
    refine lv_iconst (v := (0 : Int32)) S.1 S.2.1 dX0_howItIs_33 (by decide) ?_
    cases hf
    exact r_i S hr hlk hP hS dX0_howItIs_34
  · replace hf := ift h2 hf
    refine lv_aload_n S.1 S.2.1 dX0_howItIs_11 rfl (lv_at hl 0 rfl) ?_
    refine lv_aload_n S.1 S.2.1 dX0_howItIs_12 rfl (lv_at hl 1 rfl) ?_
    refine x_get (v := .int (gI M c1 2)) S hK hP w_lay_X3 (ci := 3) rfl c1 (ok_lt P1) (e3 P1.1) 2 (by decide) w_fl_X0_95 rfl rfl dX0_howItIs_13 ?_
    obtain ⟨x3, gx3, hf⟩ := bn1_some hf
    refine y_Vi (As := [.int (gI M c1 2)]) S hK hN hP hS rfl (ok_lt (ok_b1 hn)) (e0 (ok_b1 hn).1) rfl (K_X0_isProved l E ad n hI hn _ N (gI M c1 2)  M x3 gx3) (cV 1 S w_co_yX0_isProved w_in_X0 w_ml_X0_152 w_im_yX0_isProved w_se_yX0_isProved hd_X0_isProved ⟨Nat.le_of_ble_eq_true rfl, Nat.le_of_ble_eq_true rfl⟩) hl.1 rfl rfl (Nat.le_of_ble_eq_true rfl) dX0_howItIs_16 ⟨Nat.zero_le _, Nat.zero_le _⟩ (fun H locs hP hS => ?_)
    refine lv_if_ne (tgt := 33) S.1 S.2.1 dX0_howItIs_19 (by decide) (fun h4 => ?_) (fun h4 => ?_)
    · replace hf := iff_ h4 hf
      refine lv_iconst (v := (0 : Int32)) S.1 S.2.1 dX0_howItIs_33 (by decide) ?_
      cases hf
      exact r_i S hr hlk hP hS dX0_howItIs_34
    · replace hf := ift h4 hf
      refine lv_aload_n S.1 S.2.1 dX0_howItIs_22 rfl (lv_at hl 0 rfl) ?_
      refine x_get (v := .int (gI M 1 7)) S hK hP w_lay_X0 (ci := 0) rfl 1 (ok_lt (ok_b1 hn)) (e0 (ok_b1 hn).1) 7 (by decide) w_fl_X0_56 rfl rfl dX0_howItIs_23 ?_
      refine lv_aload_n S.1 S.2.1 dX0_howItIs_26 rfl (lv_at hl 1 rfl) ?_
      refine x_get (v := .int (gI M c1 9)) S hK hP w_lay_X3 (ci := 3) rfl c1 (ok_lt P1) (e3 P1.1) 9 (by decide) w_fl_X0_155 rfl rfl dX0_howItIs_27 ?_
      refine lv_icmp_ge (tgt := 35) S.1 S.2.1 dX0_howItIs_30 (by decide) (fun h5 => ?_) (fun h5 => ?_)
      · replace hf := ift h5 hf
        refine lv_aload_n S.1 S.2.1 dX0_howItIs_35 rfl (lv_at hl 0 rfl) ?_
        refine lv_aload_n S.1 S.2.1 dX0_howItIs_36 rfl (lv_at hl 1 rfl) ?_
        obtain ⟨x6, gx6, hf⟩ := bn1_some hf
        refine y_Vi (As := [.ref (ad c1)]) S hK hN hP hS rfl (ok_lt (ok_b1 hn)) (e0 (ok_b1 hn).1) rfl (K_X0_isAllDead l E ad n hI hn _ N c1 P1 M x6 gx6) (cV 1 S w_co_yX0_isAllDead w_in_X0 w_ml_X0_158 w_im_yX0_isAllDead w_se_yX0_isAllDead hd_X0_isAllDead ⟨Nat.le_of_ble_eq_true rfl, Nat.le_of_ble_eq_true rfl⟩) hl.1 rfl rfl (Nat.le_of_ble_eq_true rfl) dX0_howItIs_37 ⟨Nat.zero_le _, Nat.zero_le _⟩ (fun H locs hP hS => ?_)
        refine lv_if_eq (tgt := 45) S.1 S.2.1 dX0_howItIs_40 (by decide) (fun h7 => ?_) (fun h7 => ?_)
        · replace hf := ift h7 hf
          refine lv_aload_n S.1 S.2.1 dX0_howItIs_45 rfl (lv_at hl 1 rfl) ?_
          refine x_get (v := .int (gI M c1 10)) S hK hP w_lay_X3 (ci := 3) rfl c1 (ok_lt P1) (e3 P1.1) 10 (by decide) w_fl_X0_162 rfl rfl dX0_howItIs_46 ?_
          refine lv_aload_n S.1 S.2.1 dX0_howItIs_49 rfl (lv_at hl 0 rfl) ?_
          refine x_get (v := .int (gI M 1 8)) S hK hP w_lay_X0 (ci := 0) rfl 1 (ok_lt (ok_b1 hn)) (e0 (ok_b1 hn).1) 8 (by decide) w_fl_X0_36 rfl rfl dX0_howItIs_50 ?_
          refine lv_icmp_ge (tgt := 60) S.1 S.2.1 dX0_howItIs_53 (by decide) (fun h8 => ?_) (fun h8 => ?_)
          · replace hf := ift h8 hf
            refine lv_iconst (v := (2 : Int32)) S.1 S.2.1 dX0_howItIs_60 (by decide) ?_
            cases hf
            exact r_i S hr hlk hP hS dX0_howItIs_61
          · replace hf := iff_ h8 hf
            refine lv_iconst (v := (1 : Int32)) S.1 S.2.1 dX0_howItIs_56 (by decide) ?_
            refine lv_goto (tgt := 61) S.1 S.2.1 dX0_howItIs_57 (by decide) ?_
            cases hf
            exact r_i S hr hlk hP hS dX0_howItIs_61
        · replace hf := iff_ h7 hf
          refine lv_iconst (v := (3 : Int32)) S.1 S.2.1 dX0_howItIs_43 (by decide) ?_
          cases hf
          exact r_i S hr hlk hP hS dX0_howItIs_44
      · replace hf := iff_ h5 hf
        refine lv_iconst (v := (0 : Int32)) S.1 S.2.1 dX0_howItIs_33 (by decide) ?_
        cases hf
        exact r_i S hr hlk hP hS dX0_howItIs_34
theorem hd_X0_isDrawing : yX0_isDrawing.cls ≠ "java/lang/invoke/MethodHandle" ∧ yX0_isDrawing.cls ≠ "java/lang/invoke/VarHandle" ∧ (parseMethodDescriptor yX0_isDrawing.desc).map (fun d => d.parameters.length) = some 1 := by decide +kernel
set_option maxHeartbeats 4000000 in
set_option maxRecDepth 100000 in
theorem K_X0_isDrawing (l : Launch) (E : EE) (ad : Nat → Nat) (n : Nat) (hI : ad_I ad n) (hn : 117 ≤ n) (sz : Nat) (N : Nat) (c1 : Nat) (P1 : ok 3 n c1) (M : MM) (r : Bool) (hf : F_X0_isDrawing N c1 M = some r) : CtI l yX0_isDrawing cX0_isDrawing 3 4 84 .boolean E (entC E ad n M) (entC E ad n M) ad n sz [.ref (ad 1), .ref (ad c1)] (bI r) := by
  unfold CtI
  refine body_of (by decide) "SurvivorPurse$Book" rfl (Nat.le_of_ble_eq_true rfl) ?_
  intro p e s m below meth c hsz S hr hlk hP hK hN ls hl
  subst hsz
  have hS : va_S (AA ad n s.heap.size) s.heap s.heap [] := va_S.rf
  have hl : lv_has ls 3 [(0, .ref (ad 1)), (1, .ref (ad c1))] := hl
  rw [F_X0_isDrawing] at hf
  refine lv_aload_n S.1 S.2.1 dX0_isDrawing_0 rfl (lv_at hl 0 rfl) ?_
  refine lv_aload_n S.1 S.2.1 dX0_isDrawing_1 rfl (lv_at hl 1 rfl) ?_
  obtain ⟨x1, gx1, hf⟩ := bn1_some hf
  refine y_Vi (As := [.ref (ad c1)]) S hK hN hP hS rfl (ok_lt (ok_b1 hn)) (e0 (ok_b1 hn).1) rfl (K_X0_howItIs l E ad n hI hn _ N c1 P1 M x1 gx1) (cV 1 S w_co_yX0_howItIs w_in_X0 w_ml_X0_165 w_im_yX0_howItIs w_se_yX0_howItIs hd_X0_howItIs ⟨Nat.le_of_ble_eq_true rfl, Nat.le_of_ble_eq_true rfl⟩) hl.1 rfl rfl (Nat.le_of_ble_eq_true rfl) dX0_isDrawing_2 ⟨Nat.zero_le _, Nat.zero_le _⟩ (fun H locs hP hS => ?_)
  refine lv_istore_n (lv' := [(2, .int x1), (0, .ref (ad 1)), (1, .ref (ad c1))]) S.1 S.2.1 dX0_isDrawing_5 rfl hl (by decide) rfl (fun ls hl => ?_)
  refine lv_iload_n S.1 S.2.1 dX0_isDrawing_6 rfl (lv_at hl 0 rfl) ?_
  refine lv_if_eq (tgt := 15) S.1 S.2.1 dX0_isDrawing_7 (by decide) (fun h2 => ?_) (fun h2 => ?_)
  · replace hf := ift h2 hf
    refine lv_iconst (v := (1 : Int32)) S.1 S.2.1 dX0_isDrawing_15 (by decide) ?_
    refine lv_goto (tgt := 20) S.1 S.2.1 dX0_isDrawing_16 (by decide) ?_
    cases hf
    exact r_z S hr hlk hP hS dX0_isDrawing_20
  · replace hf := iff_ h2 hf
    refine lv_iload_n S.1 S.2.1 dX0_isDrawing_10 rfl (lv_at hl 0 rfl) ?_
    refine lv_iconst (v := (1 : Int32)) S.1 S.2.1 dX0_isDrawing_11 (by decide) ?_
    refine lv_icmp_ne (tgt := 19) S.1 S.2.1 dX0_isDrawing_12 (by decide) (fun h3 => ?_) (fun h3 => ?_)
    · replace hf := iff_ h3 hf
      refine lv_iconst (v := (0 : Int32)) S.1 S.2.1 dX0_isDrawing_19 (by decide) ?_
      cases hf
      exact r_z S hr hlk hP hS dX0_isDrawing_20
    · replace hf := ift h3 hf
      refine lv_iconst (v := (1 : Int32)) S.1 S.2.1 dX0_isDrawing_15 (by decide) ?_
      refine lv_goto (tgt := 20) S.1 S.2.1 dX0_isDrawing_16 (by decide) ?_
      cases hf
      exact r_z S hr hlk hP hS dX0_isDrawing_20
theorem hd_X0_endOf : yX0_endOf.cls ≠ "java/lang/invoke/MethodHandle" ∧ yX0_endOf.cls ≠ "java/lang/invoke/VarHandle" ∧ (parseMethodDescriptor yX0_endOf.desc).map (fun d => d.parameters.length) = some 1 := by decide +kernel
set_option maxHeartbeats 4000000 in
set_option maxRecDepth 100000 in
theorem K_X0_endOf (l : Launch) (E : EE) (ad : Nat → Nat) (n : Nat) (hI : ad_I ad n) (hn : 117 ≤ n) (sz : Nat) (N : Nat) (c1 : Nat) (P1 : ok 3 n c1) (M : MM) (r : Int32) (hf : F_X0_endOf N c1 M = some r) : CtI l yX0_endOf cX0_endOf 3 1 30 .int E (entC E ad n M) (entC E ad n M) ad n sz [.ref (ad 1), .ref (ad c1)] (r) := by
  unfold CtI
  refine body_of (by decide) "SurvivorPurse$Book" rfl (Nat.le_of_ble_eq_true rfl) ?_
  intro p e s m below meth c hsz S hr hlk hP hK hN ls hl
  subst hsz
  have hS : va_S (AA ad n s.heap.size) s.heap s.heap [] := va_S.rf
  have hl : lv_has ls 3 [(0, .ref (ad 1)), (1, .ref (ad c1))] := hl
  rw [F_X0_endOf] at hf
  refine lv_aload_n S.1 S.2.1 dX0_endOf_0 rfl (lv_at hl 0 rfl) ?_
  refine x_get (v := .ref (ad 4)) S hK hP w_lay_X0 (ci := 0) rfl 1 (ok_lt (ok_b1 hn)) (e0 (ok_b1 hn).1) 1 (by decide) w_fl_X0_20 rfl rfl dX0_endOf_1 ?_
  refine lv_aload_n S.1 S.2.1 dX0_endOf_4 rfl (lv_at hl 1 rfl) ?_
  refine x_get (v := .int (gI M c1 1)) S hK hP w_lay_X3 (ci := 3) rfl c1 (ok_lt P1) (e3 P1.1) 1 (by decide) w_fl_X0_92 rfl rfl dX0_endOf_5 ?_
  obtain ⟨h1, hf⟩ := gd_some hf
  refine x_aald S hK hP 4 (ok_lt (ok_ma1 hn)) e9_1 2 rfl h1 dX0_endOf_8 ?_
  refine x_get (v := .int (gI M (7 + (ix (gI M c1 1))) 6)) S hK hP w_lay_X1 (ci := 1) rfl (7 + (ix (gI M c1 1))) (ok_lt (ok_m1 hn (ib_lt h1))) (e1 (ok_m1 hn (ib_lt h1)).1) 6 (by decide) w_fl_X0_169 rfl rfl dX0_endOf_9 ?_
  obtain ⟨x2, ex2, hf⟩ := bnd_some hf
  refine lv_rei ex2 ?_
  refine lv_istore_n (lv' := [(2, .int x2), (0, .ref (ad 1)), (1, .ref (ad c1))]) S.1 S.2.1 dX0_endOf_12 rfl hl (by decide) rfl (fun ls hl => ?_)
  refine lv_aload_n S.1 S.2.1 dX0_endOf_13 rfl (lv_at hl 1 rfl) ?_
  refine lv_aload_n S.1 S.2.1 dX0_endOf_14 rfl (lv_at hl 2 rfl) ?_
  refine x_get (v := .int (gI M c1 2)) S hK hP w_lay_X3 (ci := 3) rfl c1 (ok_lt P1) (e3 P1.1) 2 (by decide) w_fl_X0_95 rfl rfl dX0_endOf_15 ?_
  refine y_Vi (As := [.int (gI M c1 2)]) S hK hN hP hS rfl (ok_lt (ok_b1 hn)) (e0 (ok_b1 hn).1) rfl (K_X0_isMember l E ad n hI hn _ (gI M c1 2)  M _ rfl) (cV 1 S w_co_yX0_isMember w_in_X0 w_ml_X0_119 w_im_yX0_isMember w_se_yX0_isMember hd_X0_isMember ⟨Nat.le_of_ble_eq_true rfl, Nat.le_of_ble_eq_true rfl⟩) hl.1 rfl rfl (Nat.le_of_ble_eq_true rfl) dX0_endOf_18 ⟨Nat.zero_le _, Nat.zero_le _⟩ (fun H locs hP hS => ?_)
  refine lv_if_eq (tgt := 43) S.1 S.2.1 dX0_endOf_21 (by decide) (fun h3 => ?_) (fun h3 => ?_)
  · replace hf := ift h3 hf
    refine lv_iload_n S.1 S.2.1 dX0_endOf_43 rfl (lv_at hl 0 rfl) ?_
    cases hf
    exact r_i S hr hlk hP hS dX0_endOf_44
  · replace hf := iff_ h3 hf
    refine lv_iload_n S.1 S.2.1 dX0_endOf_24 rfl (lv_at hl 0 rfl) ?_
    refine lv_aload_n S.1 S.2.1 dX0_endOf_25 rfl (lv_at hl 1 rfl) ?_
    refine x_get (v := .ref (ad 4)) S hK hP w_lay_X0 (ci := 0) rfl 1 (ok_lt (ok_b1 hn)) (e0 (ok_b1 hn).1) 1 (by decide) w_fl_X0_20 rfl rfl dX0_endOf_26 ?_
    refine lv_aload_n S.1 S.2.1 dX0_endOf_29 rfl (lv_at hl 2 rfl) ?_
    refine x_get (v := .int (gI M c1 2)) S hK hP w_lay_X3 (ci := 3) rfl c1 (ok_lt P1) (e3 P1.1) 2 (by decide) w_fl_X0_95 rfl rfl dX0_endOf_30 ?_
    obtain ⟨h4, hf⟩ := gd_some hf
    refine x_aald S hK hP 4 (ok_lt (ok_ma1 hn)) e9_1 2 rfl h4 dX0_endOf_33 ?_
    refine x_get (v := .int (gI M (7 + (ix (gI M c1 2))) 6)) S hK hP w_lay_X1 (ci := 1) rfl (7 + (ix (gI M c1 2))) (ok_lt (ok_m1 hn (ib_lt h4))) (e1 (ok_m1 hn (ib_lt h4)).1) 6 (by decide) w_fl_X0_169 rfl rfl dX0_endOf_34 ?_
    refine x_mx S hl.1 w_ml_X0_130 (Nat.le_of_ble_eq_true rfl) (Nat.le_of_ble_eq_true rfl) (Nat.zero_le _) (Nat.zero_le _) dX0_endOf_37 ?_
    refine lv_goto (tgt := 44) S.1 S.2.1 dX0_endOf_40 (by decide) ?_
    cases hf
    exact r_i S hr hlk hP hS dX0_endOf_44
theorem hd_X0_beginNextYear : yX0_beginNextYear.cls ≠ "java/lang/invoke/MethodHandle" ∧ yX0_beginNextYear.cls ≠ "java/lang/invoke/VarHandle" ∧ (parseMethodDescriptor yX0_beginNextYear.desc).map (fun d => d.parameters.length) = some 0 := by decide +kernel
set_option maxHeartbeats 4000000 in
set_option maxRecDepth 100000 in
theorem L_X0_beginNextYear_12 (l : Launch) (E : EE) (ad : Nat → Nat) (n : Nat) (hI : ad_I ad n) (hn : 117 ≤ n) (N : Nat)   {p : Program} {e : Env} {s : State} {m : MethodId} {below : List Frame} {meth : Method} {c : Code} (S : CallFix p m c cX0_beginNextYear 2 s [.ref (ad 1)].toArray bg_B "SurvivorPurse$Book") (hr : meth.sig.returnType = none) (hlk : meth.locks = false) (hK : va_K E.1 vwCl (tysE E) s) (hN : NW s) (M' : MM) : ∀ (fu : Nat) (v1 : Int32)  (M : MM), F_X0_beginNextYear_12 N  fu v1 M = some M' → ∀ (H : Heap) (locs : List Loc) (ls : Array Slot), va_P E.1 vwCl (mw (entC E ad n M) ad n) H → va_S (AA ad n s.heap.size) s.heap H locs → lv_has ls 2 [(0, .ref (ad 1)), (1, .int v1)] → W p l e { frames := 0, cells := 0, slots := 0, locals := 0 } s m [.ref (ad 1)].toArray below meth c H locs 0 0 (MQ below (va_Qv (fun (_ : Unit) => True) (fun _ t => QB E (entC E ad n M') ad n t) (AA ad n s.heap.size)) [.ref (ad 1)].toArray s 0 0 (AA ad n s.heap.size)) (F0 m 12 ls []) := by
  intro fu
  induction fu with
  | zero =>
    intro v1 M hf
    rw [F_X0_beginNextYear_12] at hf
    cases hf
  | succ fu ih =>
    intro v1 M hf H locs ls hP hS hl
    rw [F_X0_beginNextYear_12] at hf
    refine lv_iload_n S.1 S.2.1 dX0_beginNextYear_12 rfl (lv_at hl 1 rfl) ?_
    refine lv_aload_n S.1 S.2.1 dX0_beginNextYear_13 rfl (lv_at hl 0 rfl) ?_
    refine x_get (v := .int (gI M 1 4)) S hK hP w_lay_X0 (ci := 0) rfl 1 (ok_lt (ok_b1 hn)) (e0 (ok_b1 hn).1) 4 (by decide) w_fl_X0_47 rfl rfl dX0_beginNextYear_14 ?_
    refine lv_icmp_ge (tgt := 36) S.1 S.2.1 dX0_beginNextYear_17 (by decide) (fun h2 => ?_) (fun h2 => ?_)
    · replace hf := ift h2 hf
      cases hf
      exact r_v S hr hlk hP hS dX0_beginNextYear_36
    · replace hf := iff_ h2 hf
      refine lv_aload_n S.1 S.2.1 dX0_beginNextYear_20 rfl (lv_at hl 0 rfl) ?_
      refine x_get (v := .ref (ad 4)) S hK hP w_lay_X0 (ci := 0) rfl 1 (ok_lt (ok_b1 hn)) (e0 (ok_b1 hn).1) 1 (by decide) w_fl_X0_20 rfl rfl dX0_beginNextYear_21 ?_
      refine lv_iload_n S.1 S.2.1 dX0_beginNextYear_24 rfl (lv_at hl 1 rfl) ?_
      obtain ⟨h3, hf⟩ := gd_some hf
      refine x_aald S hK hP 4 (ok_lt (ok_ma1 hn)) e9_1 2 rfl h3 dX0_beginNextYear_25 ?_
      refine lv_iconst (v := (0 : Int32)) S.1 S.2.1 dX0_beginNextYear_26 (by decide) ?_
      refine x_put S hI hK hP hS w_lay_X1 tyX1 tyX1_ok nmX1 (ci := 1) rfl (7 + (ix v1)) (ok_lt (ok_m1 hn (ib_lt h3))) (e1 (ok_m1 hn (ib_lt h3)).1) 4 (by decide) w_fl_X0_146 rfl rfl (bo_nar (by decide)) (bo_fit (by decide)) (Nat.le_of_ble_eq_true rfl) (entC E ad n (sI M (7 + (ix v1)) 4 (0 : Int32))) (h1_X1_4 (ok_m1 hn (ib_lt h3)).1 (by decide)) (fun _ h => entC_sI _ h) dX0_beginNextYear_27 (fun H locs hP hS => ?_)
      obtain ⟨M4, eM4, hf⟩ := bnd_some hf
      rw [← eM4] at hP
      refine lv_iinc (v := v1 + (1 : Int32)) (lv' := [(1, .int (v1 + (1 : Int32))), (0, .ref (ad 1))]) S.1 S.2.1 dX0_beginNextYear_30 hl (k := 1) rfl rfl (by decide) rfl (fun ls hl => ?_)
      refine lv_goto (tgt := 12) S.1 S.2.1 dX0_beginNextYear_33 (by decide) ?_
      exact ih (v1 + (1 : Int32))  M4 hf _ _ _ hP hS (lv_sub hl [1, 0] rfl)
set_option maxHeartbeats 4000000 in
set_option maxRecDepth 100000 in
theorem K_X0_beginNextYear (l : Launch) (E : EE) (ad : Nat → Nat) (n : Nat) (hI : ad_I ad n) (hn : 117 ≤ n) (sz : Nat) (N : Nat)   (M : MM) (M' : MM) (hf : F_X0_beginNextYear N  M = some M') : CtV l yX0_beginNextYear cX0_beginNextYear 2 0 0 E (entC E ad n M) (entC E ad n M') ad n sz [.ref (ad 1)] := by
  unfold CtV
  refine body_of (by decide) "SurvivorPurse$Book" rfl (Nat.le_of_ble_eq_true rfl) ?_
  intro p e s m below meth c hsz S hr hlk hP hK hN ls hl
  subst hsz
  have hS : va_S (AA ad n s.heap.size) s.heap s.heap [] := va_S.rf
  have hl : lv_has ls 2 [(0, .ref (ad 1))] := hl
  rw [F_X0_beginNextYear] at hf
  refine lv_aload_n S.1 S.2.1 dX0_beginNextYear_0 rfl (lv_at hl 0 rfl) ?_
  refine lv_dup S.1 S.2.1 dX0_beginNextYear_1 rfl ?_
  refine x_get (v := .int (gI M 1 7)) S hK hP w_lay_X0 (ci := 0) rfl 1 (ok_lt (ok_b1 hn)) (e0 (ok_b1 hn).1) 7 (by decide) w_fl_X0_56 rfl rfl dX0_beginNextYear_2 ?_
  refine lv_iconst (v := (1 : Int32)) S.1 S.2.1 dX0_beginNextYear_5 (by decide) ?_
  refine lv_iadd S.1 S.2.1 dX0_beginNextYear_6 ?_
  refine x_put S hI hK hP hS w_lay_X0 tyX0 tyX0_ok nmX0 (ci := 0) rfl 1 (ok_lt (ok_b1 hn)) (e0 (ok_b1 hn).1) 7 (by decide) w_fl_X0_56 rfl rfl rfl rfl (Nat.le_of_ble_eq_true rfl) (entC E ad n (sI M 1 7 ((gI M 1 7) + (1 : Int32)))) (h1_X0_7 (ok_b1 hn).1 ) (fun _ h => entC_sI _ h) dX0_beginNextYear_7 (fun H locs hP hS => ?_)
  obtain ⟨M1, eM1, hf⟩ := bnd_some hf
  rw [← eM1] at hP
  refine lv_iconst (v := (0 : Int32)) S.1 S.2.1 dX0_beginNextYear_10 (by decide) ?_
  refine lv_istore_n (lv' := [(1, .int (0 : Int32)), (0, .ref (ad 1))]) S.1 S.2.1 dX0_beginNextYear_11 rfl hl (by decide) rfl (fun ls hl => ?_)
  exact L_X0_beginNextYear_12 l E ad n hI hn N   S hr hlk hK hN _ N (0 : Int32)  M1 hf _ _ _ hP hS (lv_sub hl [1, 0] rfl)
theorem hd_X0_giveBackOf : yX0_giveBackOf.cls ≠ "java/lang/invoke/MethodHandle" ∧ yX0_giveBackOf.cls ≠ "java/lang/invoke/VarHandle" ∧ (parseMethodDescriptor yX0_giveBackOf.desc).map (fun d => d.parameters.length) = some 1 := by decide +kernel
set_option maxHeartbeats 4000000 in
set_option maxRecDepth 100000 in
theorem K_X0_giveBackOf (l : Launch) (E : EE) (ad : Nat → Nat) (n : Nat) (hI : ad_I ad n) (hn : 117 ≤ n) (sz : Nat) (N : Nat) (c1 : Nat) (P1 : ok 3 n c1) (M : MM) (M' : MM) (hf : F_X0_giveBackOf N c1 M = some M') : CtV l yX0_giveBackOf cX0_giveBackOf 6 1 30 E (entC E ad n M) (entC E ad n M') ad n sz [.ref (ad 1), .ref (ad c1)] := by
  unfold CtV
  refine body_of (by decide) "SurvivorPurse$Book" rfl (Nat.le_of_ble_eq_true rfl) ?_
  intro p e s m below meth c hsz S hr hlk hP hK hN ls hl
  subst hsz
  have hS : va_S (AA ad n s.heap.size) s.heap s.heap [] := va_S.rf
  have hl : lv_has ls 6 [(0, .ref (ad 1)), (1, .ref (ad c1))] := hl
  rw [F_X0_giveBackOf] at hf
  refine lv_aload_n S.1 S.2.1 dX0_giveBackOf_0 rfl (lv_at hl 0 rfl) ?_
  refine x_get (v := .ref (ad 5)) S hK hP w_lay_X0 (ci := 0) rfl 1 (ok_lt (ok_b1 hn)) (e0 (ok_b1 hn).1) 2 (by decide) w_fl_X0_26 rfl rfl dX0_giveBackOf_1 ?_
  refine lv_aload_n S.1 S.2.1 dX0_giveBackOf_4 rfl (lv_at hl 1 rfl) ?_
  refine x_get (v := .int (gI M c1 4)) S hK hP w_lay_X3 (ci := 3) rfl c1 (ok_lt P1) (e3 P1.1) 4 (by decide) w_fl_X0_101 rfl rfl dX0_giveBackOf_5 ?_
  obtain ⟨h1, hf⟩ := gd_some hf
  refine x_aald S hK hP 5 (ok_lt (ok_ra1 hn)) e10_1 3 rfl h1 dX0_giveBackOf_8 ?_
  refine lv_astore_n (lv' := [(2, .ref (ad (31 + (ix (gI M c1 4))))), (0, .ref (ad 1)), (1, .ref (ad c1))]) S.1 S.2.1 dX0_giveBackOf_9 rfl hl (by decide) rfl (fun ls hl => ?_)
  refine lv_aload_n S.1 S.2.1 dX0_giveBackOf_10 rfl (lv_at hl 2 rfl) ?_
  refine x_get (v := .long (gL M c1 6)) S hK hP w_lay_X3 (ci := 3) rfl c1 (ok_lt P1) (e3 P1.1) 6 (by decide) w_fl_X0_107 rfl rfl dX0_giveBackOf_11 ?_
  refine lv_aload_n S.1 S.2.1 dX0_giveBackOf_14 rfl (lv_at hl 2 rfl) ?_
  refine x_get (v := .long (gL M c1 7)) S hK hP w_lay_X3 (ci := 3) rfl c1 (ok_lt P1) (e3 P1.1) 7 (by decide) w_fl_X0_194 rfl rfl dX0_giveBackOf_15 ?_
  refine lv_lsub S.1 S.2.1 dX0_giveBackOf_18 ?_
  refine lv_lconst (v := (0 : Int64)) S.1 S.2.1 dX0_giveBackOf_19 (by decide) ?_
  refine x_mxL S hl.1 w_ml_X0_258 (Nat.le_of_ble_eq_true rfl) (Nat.le_of_ble_eq_true rfl) (Nat.zero_le _) (Nat.zero_le _) dX0_giveBackOf_20 ?_
  refine lv_aload_n S.1 S.2.1 dX0_giveBackOf_23 rfl (lv_at hl 0 rfl) ?_
  refine x_get (v := .long (gL M (31 + (ix (gI M c1 4))) 3)) S hK hP w_lay_X2 (ci := 2) rfl (31 + (ix (gI M c1 4))) (ok_lt (ok_r1 hn (ib_lt h1))) (e2 (ok_r1 hn (ib_lt h1)).1) 3 (by decide) w_fl_X0_110 rfl rfl dX0_giveBackOf_24 ?_
  refine x_mnL S hl.1 w_ml_X0_181 (Nat.le_of_ble_eq_true rfl) (Nat.le_of_ble_eq_true rfl) (Nat.zero_le _) (Nat.zero_le _) dX0_giveBackOf_27 ?_
  obtain ⟨x2, ex2, hf⟩ := bnd_some hf
  refine lv_rel ex2 ?_
  refine lv_lstore_n (lv' := [(3, .long x2), (2, .ref (ad (31 + (ix (gI M c1 4))))), (0, .ref (ad 1)), (1, .ref (ad c1))]) S.1 S.2.1 dX0_giveBackOf_30 rfl hl (by decide) rfl (fun ls hl => ?_)
  refine lv_aload_n S.1 S.2.1 dX0_giveBackOf_31 rfl (lv_at hl 2 rfl) ?_
  refine x_get (v := .ref (ad 4)) S hK hP w_lay_X0 (ci := 0) rfl 1 (ok_lt (ok_b1 hn)) (e0 (ok_b1 hn).1) 1 (by decide) w_fl_X0_20 rfl rfl dX0_giveBackOf_32 ?_
  refine lv_aload_n S.1 S.2.1 dX0_giveBackOf_35 rfl (lv_at hl 3 rfl) ?_
  refine x_get (v := .int (gI M c1 1)) S hK hP w_lay_X3 (ci := 3) rfl c1 (ok_lt P1) (e3 P1.1) 1 (by decide) w_fl_X0_92 rfl rfl dX0_giveBackOf_36 ?_
  obtain ⟨h3, hf⟩ := gd_some hf
  refine x_aald S hK hP 4 (ok_lt (ok_ma1 hn)) e9_1 2 rfl h3 dX0_giveBackOf_39 ?_
  refine x_get (v := .int (gI M (7 + (ix (gI M c1 1))) 3)) S hK hP w_lay_X1 (ci := 1) rfl (7 + (ix (gI M c1 1))) (ok_lt (ok_m1 hn (ib_lt h3))) (e1 (ok_m1 hn (ib_lt h3)).1) 3 (by decide) w_fl_X0_260 rfl rfl dX0_giveBackOf_40 ?_
  obtain ⟨x4, ex4, hf⟩ := bnd_some hf
  refine lv_rei ex4 ?_
  refine lv_istore (lv' := [(5, .int x4), (3, .long x2), (2, .ref (ad (31 + (ix (gI M c1 4))))), (0, .ref (ad 1)), (1, .ref (ad c1))]) S.1 S.2.1 dX0_giveBackOf_43 hl (by decide) rfl (fun ls hl => ?_)
  refine lv_aload_n S.1 S.2.1 dX0_giveBackOf_45 rfl (lv_at hl 2 rfl) ?_
  refine lv_dup S.1 S.2.1 dX0_giveBackOf_46 rfl ?_
  refine x_get (v := .long (gL M (31 + (ix (gI M c1 4))) 3)) S hK hP w_lay_X2 (ci := 2) rfl (31 + (ix (gI M c1 4))) (ok_lt (ok_r1 hn (ib_lt h1))) (e2 (ok_r1 hn (ib_lt h1)).1) 3 (by decide) w_fl_X0_110 rfl rfl dX0_giveBackOf_47 ?_
  refine lv_lload_n S.1 S.2.1 dX0_giveBackOf_50 rfl (lv_at hl 1 rfl) ?_
  refine lv_lsub S.1 S.2.1 dX0_giveBackOf_51 ?_
  refine x_put S hI hK hP hS w_lay_X2 tyX2 tyX2_ok nmX2 (ci := 2) rfl (31 + (ix (gI M c1 4))) (ok_lt (ok_r1 hn (ib_lt h1))) (e2 (ok_r1 hn (ib_lt h1)).1) 3 (by decide) w_fl_X0_110 rfl rfl rfl rfl (Nat.le_of_ble_eq_true rfl) (entC E ad n (sL M (31 + (ix (gI M c1 4))) 3 ((gL M (31 + (ix (gI M c1 4))) 3) - x2))) (h1_X2_3 (ok_r1 hn (ib_lt h1)).1 ) (fun _ h => entC_sL _ h) dX0_giveBackOf_52 (fun H locs hP hS => ?_)
  obtain ⟨M5, eM5, hf⟩ := bnd_some hf
  rw [← eM5] at hP
  refine lv_aload_n S.1 S.2.1 dX0_giveBackOf_55 rfl (lv_at hl 3 rfl) ?_
  refine x_get (v := .ref (ad 4)) S hK hP w_lay_X0 (ci := 0) rfl 1 (ok_lt (ok_b1 hn)) (e0 (ok_b1 hn).1) 1 (by decide) w_fl_X0_20 rfl rfl dX0_giveBackOf_56 ?_
  refine lv_aload_n S.1 S.2.1 dX0_giveBackOf_59 rfl (lv_at hl 3 rfl) ?_
  refine lv_iload S.1 S.2.1 dX0_giveBackOf_60 (lv_at hl 0 rfl) ?_
  refine y_Vi (As := [.int x4]) S hK hN hP hS rfl (ok_lt (ok_b1 hn)) (e0 (ok_b1 hn).1) rfl (K_X0_isMember l E ad n hI hn _ x4  M5 _ rfl) (cV 1 S w_co_yX0_isMember w_in_X0 w_ml_X0_119 w_im_yX0_isMember w_se_yX0_isMember hd_X0_isMember ⟨Nat.le_of_ble_eq_true rfl, Nat.le_of_ble_eq_true rfl⟩) hl.1 rfl rfl (Nat.le_of_ble_eq_true rfl) dX0_giveBackOf_62 ⟨Nat.zero_le _, Nat.zero_le _⟩ (fun H locs hP hS => ?_)
  refine lv_if_eq (tgt := 73) S.1 S.2.1 dX0_giveBackOf_65 (by decide) (fun h6 => ?_) (fun h6 => ?_)
  · replace hf := ift h6 hf
    refine lv_aload_n S.1 S.2.1 dX0_giveBackOf_73 rfl (lv_at hl 4 rfl) ?_
    refine x_get (v := .int (gI M5 c1 0)) S hK hP w_lay_X3 (ci := 3) rfl c1 (ok_lt P1) (e3 P1.1) 0 (by decide) w_fl_X0_89 rfl rfl dX0_giveBackOf_74 ?_
    obtain ⟨h7, hf⟩ := gd_some hf
    refine x_aald S hK hP 4 (ok_lt (ok_ma1 hn)) e9_1 2 rfl h7 dX0_giveBackOf_77 ?_
    refine lv_dup S.1 S.2.1 dX0_giveBackOf_78 rfl ?_
    refine x_get (v := .long (gL M5 (7 + (ix (gI M5 c1 0))) 1)) S hK hP w_lay_X1 (ci := 1) rfl (7 + (ix (gI M5 c1 0))) (ok_lt (ok_m1 hn (ib_lt h7))) (e1 (ok_m1 hn (ib_lt h7)).1) 1 (by decide) w_fl_X0_191 rfl rfl dX0_giveBackOf_79 ?_
    refine lv_lload_n S.1 S.2.1 dX0_giveBackOf_82 rfl (lv_at hl 1 rfl) ?_
    refine lv_ladd S.1 S.2.1 dX0_giveBackOf_83 ?_
    refine x_put S hI hK hP hS w_lay_X1 tyX1 tyX1_ok nmX1 (ci := 1) rfl (7 + (ix (gI M5 c1 0))) (ok_lt (ok_m1 hn (ib_lt h7))) (e1 (ok_m1 hn (ib_lt h7)).1) 1 (by decide) w_fl_X0_191 rfl rfl rfl rfl (Nat.le_of_ble_eq_true rfl) (entC E ad n (sL M5 (7 + (ix (gI M5 c1 0))) 1 ((gL M5 (7 + (ix (gI M5 c1 0))) 1) + x2))) (h1_X1_1 (ok_m1 hn (ib_lt h7)).1 ) (fun _ h => entC_sL _ h) dX0_giveBackOf_84 (fun H locs hP hS => ?_)
    obtain ⟨M8, eM8, hf⟩ := bnd_some hf
    rw [← eM8] at hP
    cases hf
    exact r_v S hr hlk hP hS dX0_giveBackOf_87
  · replace hf := iff_ h6 hf
    refine lv_iload S.1 S.2.1 dX0_giveBackOf_68 (lv_at hl 0 rfl) ?_
    refine lv_goto (tgt := 77) S.1 S.2.1 dX0_giveBackOf_70 (by decide) ?_
    obtain ⟨h9, hf⟩ := gd_some hf
    refine x_aald S hK hP 4 (ok_lt (ok_ma1 hn)) e9_1 2 rfl h9 dX0_giveBackOf_77 ?_
    refine lv_dup S.1 S.2.1 dX0_giveBackOf_78 rfl ?_
    refine x_get (v := .long (gL M5 (7 + (ix x4)) 1)) S hK hP w_lay_X1 (ci := 1) rfl (7 + (ix x4)) (ok_lt (ok_m1 hn (ib_lt h9))) (e1 (ok_m1 hn (ib_lt h9)).1) 1 (by decide) w_fl_X0_191 rfl rfl dX0_giveBackOf_79 ?_
    refine lv_lload_n S.1 S.2.1 dX0_giveBackOf_82 rfl (lv_at hl 1 rfl) ?_
    refine lv_ladd S.1 S.2.1 dX0_giveBackOf_83 ?_
    refine x_put S hI hK hP hS w_lay_X1 tyX1 tyX1_ok nmX1 (ci := 1) rfl (7 + (ix x4)) (ok_lt (ok_m1 hn (ib_lt h9))) (e1 (ok_m1 hn (ib_lt h9)).1) 1 (by decide) w_fl_X0_191 rfl rfl rfl rfl (Nat.le_of_ble_eq_true rfl) (entC E ad n (sL M5 (7 + (ix x4)) 1 ((gL M5 (7 + (ix x4)) 1) + x2))) (h1_X1_1 (ok_m1 hn (ib_lt h9)).1 ) (fun _ h => entC_sL _ h) dX0_giveBackOf_84 (fun H locs hP hS => ?_)
    obtain ⟨M10, eM10, hf⟩ := bnd_some hf
    rw [← eM10] at hP
    cases hf
    exact r_v S hr hlk hP hS dX0_giveBackOf_87
theorem hd_X0_drawingUnits : yX0_drawingUnits.cls ≠ "java/lang/invoke/MethodHandle" ∧ yX0_drawingUnits.cls ≠ "java/lang/invoke/VarHandle" ∧ (parseMethodDescriptor yX0_drawingUnits.desc).map (fun d => d.parameters.length) = some 1 := by decide +kernel
set_option maxHeartbeats 4000000 in
set_option maxRecDepth 100000 in
theorem L_X0_drawingUnits_5 (l : Launch) (E : EE) (ad : Nat → Nat) (n : Nat) (hI : ad_I ad n) (hn : 117 ≤ n) (N : Nat) (a1 : Int32)  {p : Program} {e : Env} {s : State} {m : MethodId} {below : List Frame} {meth : Method} {c : Code} (S : CallFix p m c cX0_drawingUnits 5 s [.ref (ad 1), .int a1].toArray bg_B "SurvivorPurse$Book") (hr : meth.sig.returnType = (some .long)) (hlk : meth.locks = false) (hK : va_K E.1 vwCl (tysE E) s) (hN : NW s) (r : Int64) : ∀ (fu : Nat) (v2 : Int64) (v4 : Int32)  (M : MM), F_X0_drawingUnits_5 N a1 fu v2 v4 M = some r → ∀ (H : Heap) (locs : List Loc) (ls : Array Slot), va_P E.1 vwCl (mw (entC E ad n M) ad n) H → va_S (AA ad n s.heap.size) s.heap H locs → lv_has ls 5 [(0, .ref (ad 1)), (1, .int a1), (2, .long v2), (4, .int v4)] → W p l e { frames := 5, cells := 0, slots := 0, locals := 106 } s m [.ref (ad 1), .int a1].toArray below meth c H locs 0 0 (MQ below (va_Ql (fun r0 (_ : Unit) => r0 = r) (fun _ t => QB E (entC E ad n M) ad n t) (AA ad n s.heap.size)) [.ref (ad 1), .int a1].toArray s 0 0 (AA ad n s.heap.size)) (F0 m 5 ls []) := by
  intro fu
  induction fu with
  | zero =>
    intro v2 v4 M hf
    rw [F_X0_drawingUnits_5] at hf
    cases hf
  | succ fu ih =>
    intro v2 v4 M hf H locs ls hP hS hl
    rw [F_X0_drawingUnits_5] at hf
    refine lv_iload S.1 S.2.1 dX0_drawingUnits_5 (lv_at hl 3 rfl) ?_
    refine lv_aload_n S.1 S.2.1 dX0_drawingUnits_7 rfl (lv_at hl 0 rfl) ?_
    refine x_get (v := .int (gI M 1 6)) S hK hP w_lay_X0 (ci := 0) rfl 1 (ok_lt (ok_b1 hn)) (e0 (ok_b1 hn).1) 6 (by decide) w_fl_X0_53 rfl rfl dX0_drawingUnits_8 ?_
    refine lv_icmp_ge (tgt := 62) S.1 S.2.1 dX0_drawingUnits_11 (by decide) (fun h1 => ?_) (fun h1 => ?_)
    · replace hf := ift h1 hf
      refine lv_lload_n S.1 S.2.1 dX0_drawingUnits_62 rfl (lv_at hl 2 rfl) ?_
      cases hf
      exact r_l S hr hlk hP hS dX0_drawingUnits_63
    · replace hf := iff_ h1 hf
      refine lv_aload_n S.1 S.2.1 dX0_drawingUnits_14 rfl (lv_at hl 0 rfl) ?_
      refine x_get (v := .ref (ad 6)) S hK hP w_lay_X0 (ci := 0) rfl 1 (ok_lt (ok_b1 hn)) (e0 (ok_b1 hn).1) 3 (by decide) w_fl_X0_32 rfl rfl dX0_drawingUnits_15 ?_
      refine lv_iload S.1 S.2.1 dX0_drawingUnits_18 (lv_at hl 3 rfl) ?_
      obtain ⟨h2, hf⟩ := gd_some hf
      refine x_aald S hK hP 6 (ok_lt (ok_sa1 hn)) e11_1 4 rfl h2 dX0_drawingUnits_20 ?_
      refine x_get (v := .int (gI M (37 + (ix v4)) 4)) S hK hP w_lay_X3 (ci := 3) rfl (37 + (ix v4)) (ok_lt (ok_s1 hn (ib_lt h2))) (e3 (ok_s1 hn (ib_lt h2)).1) 4 (by decide) w_fl_X0_101 rfl rfl dX0_drawingUnits_21 ?_
      refine lv_iload_n S.1 S.2.1 dX0_drawingUnits_24 rfl (lv_at hl 1 rfl) ?_
      refine lv_icmp_ne (tgt := 56) S.1 S.2.1 dX0_drawingUnits_25 (by decide) (fun h3 => ?_) (fun h3 => ?_)
      · replace hf := iff_ h3 hf
        refine lv_iinc (v := v4 + (1 : Int32)) (lv' := [(4, .int (v4 + (1 : Int32))), (0, .ref (ad 1)), (1, .int a1), (2, .long v2)]) S.1 S.2.1 dX0_drawingUnits_56 hl (k := 3) rfl rfl (by decide) rfl (fun ls hl => ?_)
        refine lv_goto (tgt := 5) S.1 S.2.1 dX0_drawingUnits_59 (by decide) ?_
        exact ih v2 (v4 + (1 : Int32))  M hf _ _ _ hP hS (lv_sub hl [1, 2, 3, 0] rfl)
      · replace hf := ift h3 hf
        refine lv_aload_n S.1 S.2.1 dX0_drawingUnits_28 rfl (lv_at hl 0 rfl) ?_
        refine lv_aload_n S.1 S.2.1 dX0_drawingUnits_29 rfl (lv_at hl 0 rfl) ?_
        refine x_get (v := .ref (ad 6)) S hK hP w_lay_X0 (ci := 0) rfl 1 (ok_lt (ok_b1 hn)) (e0 (ok_b1 hn).1) 3 (by decide) w_fl_X0_32 rfl rfl dX0_drawingUnits_30 ?_
        refine lv_iload S.1 S.2.1 dX0_drawingUnits_33 (lv_at hl 3 rfl) ?_
        refine x_aald S hK hP 6 (ok_lt (ok_sa1 hn)) e11_1 4 rfl h2 dX0_drawingUnits_35 ?_
        obtain ⟨x4, gx4, hf⟩ := bn1_some hf
        refine y_Vi (As := [.ref (ad (37 + (ix v4)))]) S hK hN hP hS rfl (ok_lt (ok_b1 hn)) (e0 (ok_b1 hn).1) rfl (K_X0_isDrawing l E ad n hI hn _ N (37 + (ix v4)) (ok_s1 hn (ib_lt h2)) M x4 gx4) (cV 1 S w_co_yX0_isDrawing w_in_X0 w_ml_X0_263 w_im_yX0_isDrawing w_se_yX0_isDrawing hd_X0_isDrawing ⟨Nat.le_of_ble_eq_true rfl, Nat.le_of_ble_eq_true rfl⟩) hl.1 rfl rfl (Nat.le_of_ble_eq_true rfl) dX0_drawingUnits_36 ⟨Nat.zero_le _, Nat.zero_le _⟩ (fun H locs hP hS => ?_)
        refine lv_if_eq (tgt := 56) S.1 S.2.1 dX0_drawingUnits_39 (by decide) (fun h5 => ?_) (fun h5 => ?_)
        · replace hf := ift h5 hf
          refine lv_iinc (v := v4 + (1 : Int32)) (lv' := [(4, .int (v4 + (1 : Int32))), (0, .ref (ad 1)), (1, .int a1), (2, .long v2)]) S.1 S.2.1 dX0_drawingUnits_56 hl (k := 3) rfl rfl (by decide) rfl (fun ls hl => ?_)
          refine lv_goto (tgt := 5) S.1 S.2.1 dX0_drawingUnits_59 (by decide) ?_
          exact ih v2 (v4 + (1 : Int32))  M hf _ _ _ hP hS (lv_sub hl [1, 2, 3, 0] rfl)
        · replace hf := iff_ h5 hf
          refine lv_lload_n S.1 S.2.1 dX0_drawingUnits_42 rfl (lv_at hl 2 rfl) ?_
          refine lv_aload_n S.1 S.2.1 dX0_drawingUnits_43 rfl (lv_at hl 0 rfl) ?_
          refine x_get (v := .ref (ad 6)) S hK hP w_lay_X0 (ci := 0) rfl 1 (ok_lt (ok_b1 hn)) (e0 (ok_b1 hn).1) 3 (by decide) w_fl_X0_32 rfl rfl dX0_drawingUnits_44 ?_
          refine lv_iload S.1 S.2.1 dX0_drawingUnits_47 (lv_at hl 3 rfl) ?_
          refine x_aald S hK hP 6 (ok_lt (ok_sa1 hn)) e11_1 4 rfl h2 dX0_drawingUnits_49 ?_
          refine x_get (v := .int (gI M (37 + (ix v4)) 3)) S hK hP w_lay_X3 (ci := 3) rfl (37 + (ix v4)) (ok_lt (ok_s1 hn (ib_lt h2))) (e3 (ok_s1 hn (ib_lt h2)).1) 3 (by decide) w_fl_X0_98 rfl rfl dX0_drawingUnits_50 ?_
          refine lv_i2l (v := (gI M (37 + (ix v4)) 3).toInt64) S.1 S.2.1 dX0_drawingUnits_53 rfl ?_
          refine lv_ladd S.1 S.2.1 dX0_drawingUnits_54 ?_
          obtain ⟨x6, ex6, hf⟩ := bnd_some hf
          refine lv_rel ex6 ?_
          refine lv_lstore_n (lv' := [(2, .long x6), (0, .ref (ad 1)), (1, .int a1), (4, .int v4)]) S.1 S.2.1 dX0_drawingUnits_55 rfl hl (by decide) rfl (fun ls hl => ?_)
          refine lv_iinc (v := v4 + (1 : Int32)) (lv' := [(4, .int (v4 + (1 : Int32))), (2, .long x6), (0, .ref (ad 1)), (1, .int a1)]) S.1 S.2.1 dX0_drawingUnits_56 hl (k := 3) rfl rfl (by decide) rfl (fun ls hl => ?_)
          refine lv_goto (tgt := 5) S.1 S.2.1 dX0_drawingUnits_59 (by decide) ?_
          exact ih x6 (v4 + (1 : Int32))  M hf _ _ _ hP hS (lv_sub hl [2, 3, 1, 0] rfl)
set_option maxHeartbeats 4000000 in
set_option maxRecDepth 100000 in
theorem K_X0_drawingUnits (l : Launch) (E : EE) (ad : Nat → Nat) (n : Nat) (hI : ad_I ad n) (hn : 117 ≤ n) (sz : Nat) (N : Nat) (a1 : Int32)  (M : MM) (r : Int64) (hf : F_X0_drawingUnits N a1 M = some r) : CtL l yX0_drawingUnits cX0_drawingUnits 5 5 106 E (entC E ad n M) (entC E ad n M) ad n sz [.ref (ad 1), .int a1] (r) := by
  unfold CtL
  refine body_of (by decide) "SurvivorPurse$Book" rfl (Nat.le_of_ble_eq_true rfl) ?_
  intro p e s m below meth c hsz S hr hlk hP hK hN ls hl
  subst hsz
  have hS : va_S (AA ad n s.heap.size) s.heap s.heap [] := va_S.rf
  have hl : lv_has ls 5 [(0, .ref (ad 1)), (1, .int a1)] := hl
  rw [F_X0_drawingUnits] at hf
  refine lv_lconst (v := (0 : Int64)) S.1 S.2.1 dX0_drawingUnits_0 (by decide) ?_
  refine lv_lstore_n (lv' := [(2, .long (0 : Int64)), (0, .ref (ad 1)), (1, .int a1)]) S.1 S.2.1 dX0_drawingUnits_1 rfl hl (by decide) rfl (fun ls hl => ?_)
  refine lv_iconst (v := (0 : Int32)) S.1 S.2.1 dX0_drawingUnits_2 (by decide) ?_
  refine lv_istore (lv' := [(4, .int (0 : Int32)), (2, .long (0 : Int64)), (0, .ref (ad 1)), (1, .int a1)]) S.1 S.2.1 dX0_drawingUnits_3 hl (by decide) rfl (fun ls hl => ?_)
  exact L_X0_drawingUnits_5 l E ad n hI hn N a1  S hr hlk hK hN _ N (0 : Int64) (0 : Int32)  M hf _ _ _ hP hS (lv_sub hl [2, 3, 1, 0] rfl)
theorem hd_X0_sharesIn : yX0_sharesIn.cls ≠ "java/lang/invoke/MethodHandle" ∧ yX0_sharesIn.cls ≠ "java/lang/invoke/VarHandle" ∧ (parseMethodDescriptor yX0_sharesIn.desc).map (fun d => d.parameters.length) = some 1 := by decide +kernel
set_option maxHeartbeats 4000000 in
set_option maxRecDepth 100000 in
theorem L_X0_sharesIn_5 (l : Launch) (E : EE) (ad : Nat → Nat) (n : Nat) (hI : ad_I ad n) (hn : 117 ≤ n) (N : Nat) (a1 : Int32)  {p : Program} {e : Env} {s : State} {m : MethodId} {below : List Frame} {meth : Method} {c : Code} (S : CallFix p m c cX0_sharesIn 5 s [.ref (ad 1), .int a1].toArray bg_B "SurvivorPurse$Book") (hr : meth.sig.returnType = (some .long)) (hlk : meth.locks = false) (hK : va_K E.1 vwCl (tysE E) s) (hN : NW s) (r : Int64) : ∀ (fu : Nat) (v2 : Int64) (v4 : Int32)  (M : MM), F_X0_sharesIn_5 N a1 fu v2 v4 M = some r → ∀ (H : Heap) (locs : List Loc) (ls : Array Slot), va_P E.1 vwCl (mw (entC E ad n M) ad n) H → va_S (AA ad n s.heap.size) s.heap H locs → lv_has ls 5 [(0, .ref (ad 1)), (1, .int a1), (2, .long v2), (4, .int v4)] → W p l e { frames := 0, cells := 0, slots := 0, locals := 0 } s m [.ref (ad 1), .int a1].toArray below meth c H locs 0 0 (MQ below (va_Ql (fun r0 (_ : Unit) => r0 = r) (fun _ t => QB E (entC E ad n M) ad n t) (AA ad n s.heap.size)) [.ref (ad 1), .int a1].toArray s 0 0 (AA ad n s.heap.size)) (F0 m 5 ls []) := by
  intro fu
  induction fu with
  | zero =>
    intro v2 v4 M hf
    rw [F_X0_sharesIn_5] at hf
    cases hf
  | succ fu ih =>
    intro v2 v4 M hf H locs ls hP hS hl
    rw [F_X0_sharesIn_5] at hf
    refine lv_iload S.1 S.2.1 dX0_sharesIn_5 (lv_at hl 3 rfl) ?_
    refine lv_aload_n S.1 S.2.1 dX0_sharesIn_7 rfl (lv_at hl 0 rfl) ?_
    refine x_get (v := .int (gI M 1 6)) S hK hP w_lay_X0 (ci := 0) rfl 1 (ok_lt (ok_b1 hn)) (e0 (ok_b1 hn).1) 6 (by decide) w_fl_X0_53 rfl rfl dX0_sharesIn_8 ?_
    refine lv_icmp_ge (tgt := 38) S.1 S.2.1 dX0_sharesIn_11 (by decide) (fun h1 => ?_) (fun h1 => ?_)
    · replace hf := ift h1 hf
      refine lv_lload_n S.1 S.2.1 dX0_sharesIn_38 rfl (lv_at hl 2 rfl) ?_
      cases hf
      exact r_l S hr hlk hP hS dX0_sharesIn_39
    · replace hf := iff_ h1 hf
      refine lv_aload_n S.1 S.2.1 dX0_sharesIn_14 rfl (lv_at hl 0 rfl) ?_
      refine x_get (v := .ref (ad 6)) S hK hP w_lay_X0 (ci := 0) rfl 1 (ok_lt (ok_b1 hn)) (e0 (ok_b1 hn).1) 3 (by decide) w_fl_X0_32 rfl rfl dX0_sharesIn_15 ?_
      refine lv_iload S.1 S.2.1 dX0_sharesIn_18 (lv_at hl 3 rfl) ?_
      obtain ⟨h2, hf⟩ := gd_some hf
      refine x_aald S hK hP 6 (ok_lt (ok_sa1 hn)) e11_1 4 rfl h2 dX0_sharesIn_20 ?_
      refine x_get (v := .int (gI M (37 + (ix v4)) 4)) S hK hP w_lay_X3 (ci := 3) rfl (37 + (ix v4)) (ok_lt (ok_s1 hn (ib_lt h2))) (e3 (ok_s1 hn (ib_lt h2)).1) 4 (by decide) w_fl_X0_101 rfl rfl dX0_sharesIn_21 ?_
      refine lv_iload_n S.1 S.2.1 dX0_sharesIn_24 rfl (lv_at hl 1 rfl) ?_
      refine lv_icmp_ne (tgt := 32) S.1 S.2.1 dX0_sharesIn_25 (by decide) (fun h3 => ?_) (fun h3 => ?_)
      · replace hf := iff_ h3 hf
        refine lv_iinc (v := v4 + (1 : Int32)) (lv' := [(4, .int (v4 + (1 : Int32))), (0, .ref (ad 1)), (1, .int a1), (2, .long v2)]) S.1 S.2.1 dX0_sharesIn_32 hl (k := 3) rfl rfl (by decide) rfl (fun ls hl => ?_)
        refine lv_goto (tgt := 5) S.1 S.2.1 dX0_sharesIn_35 (by decide) ?_
        exact ih v2 (v4 + (1 : Int32))  M hf _ _ _ hP hS (lv_sub hl [1, 2, 3, 0] rfl)
      · replace hf := ift h3 hf
        refine lv_lload_n S.1 S.2.1 dX0_sharesIn_28 rfl (lv_at hl 2 rfl) ?_
        refine lv_lconst (v := (1 : Int64)) S.1 S.2.1 dX0_sharesIn_29 (by decide) ?_
        refine lv_ladd S.1 S.2.1 dX0_sharesIn_30 ?_
        obtain ⟨x4, ex4, hf⟩ := bnd_some hf
        refine lv_rel ex4 ?_
        refine lv_lstore_n (lv' := [(2, .long x4), (0, .ref (ad 1)), (1, .int a1), (4, .int v4)]) S.1 S.2.1 dX0_sharesIn_31 rfl hl (by decide) rfl (fun ls hl => ?_)
        refine lv_iinc (v := v4 + (1 : Int32)) (lv' := [(4, .int (v4 + (1 : Int32))), (2, .long x4), (0, .ref (ad 1)), (1, .int a1)]) S.1 S.2.1 dX0_sharesIn_32 hl (k := 3) rfl rfl (by decide) rfl (fun ls hl => ?_)
        refine lv_goto (tgt := 5) S.1 S.2.1 dX0_sharesIn_35 (by decide) ?_
        exact ih x4 (v4 + (1 : Int32))  M hf _ _ _ hP hS (lv_sub hl [2, 3, 1, 0] rfl)
set_option maxHeartbeats 4000000 in
set_option maxRecDepth 100000 in
theorem K_X0_sharesIn (l : Launch) (E : EE) (ad : Nat → Nat) (n : Nat) (hI : ad_I ad n) (hn : 117 ≤ n) (sz : Nat) (N : Nat) (a1 : Int32)  (M : MM) (r : Int64) (hf : F_X0_sharesIn N a1 M = some r) : CtL l yX0_sharesIn cX0_sharesIn 5 0 0 E (entC E ad n M) (entC E ad n M) ad n sz [.ref (ad 1), .int a1] (r) := by
  unfold CtL
  refine body_of (by decide) "SurvivorPurse$Book" rfl (Nat.le_of_ble_eq_true rfl) ?_
  intro p e s m below meth c hsz S hr hlk hP hK hN ls hl
  subst hsz
  have hS : va_S (AA ad n s.heap.size) s.heap s.heap [] := va_S.rf
  have hl : lv_has ls 5 [(0, .ref (ad 1)), (1, .int a1)] := hl
  rw [F_X0_sharesIn] at hf
  refine lv_lconst (v := (0 : Int64)) S.1 S.2.1 dX0_sharesIn_0 (by decide) ?_
  refine lv_lstore_n (lv' := [(2, .long (0 : Int64)), (0, .ref (ad 1)), (1, .int a1)]) S.1 S.2.1 dX0_sharesIn_1 rfl hl (by decide) rfl (fun ls hl => ?_)
  refine lv_iconst (v := (0 : Int32)) S.1 S.2.1 dX0_sharesIn_2 (by decide) ?_
  refine lv_istore (lv' := [(4, .int (0 : Int32)), (2, .long (0 : Int64)), (0, .ref (ad 1)), (1, .int a1)]) S.1 S.2.1 dX0_sharesIn_3 hl (by decide) rfl (fun ls hl => ?_)
  exact L_X0_sharesIn_5 l E ad n hI hn N a1  S hr hlk hK hN _ N (0 : Int64) (0 : Int32)  M hf _ _ _ hP hS (lv_sub hl [2, 3, 1, 0] rfl)
theorem hd_X0_allPurses : yX0_allPurses.cls ≠ "java/lang/invoke/MethodHandle" ∧ yX0_allPurses.cls ≠ "java/lang/invoke/VarHandle" ∧ (parseMethodDescriptor yX0_allPurses.desc).map (fun d => d.parameters.length) = some 0 := by decide +kernel
set_option maxHeartbeats 4000000 in
set_option maxRecDepth 100000 in
theorem L_X0_allPurses_4 (l : Launch) (E : EE) (ad : Nat → Nat) (n : Nat) (hI : ad_I ad n) (hn : 117 ≤ n) (N : Nat)   {p : Program} {e : Env} {s : State} {m : MethodId} {below : List Frame} {meth : Method} {c : Code} (S : CallFix p m c cX0_allPurses 4 s [.ref (ad 1)].toArray bg_B "SurvivorPurse$Book") (hr : meth.sig.returnType = (some .long)) (hlk : meth.locks = false) (hK : va_K E.1 vwCl (tysE E) s) (hN : NW s) (r : Int64) : ∀ (fu : Nat) (v1 : Int64) (v3 : Int32)  (M : MM), F_X0_allPurses_4 N  fu v1 v3 M = some r → ∀ (H : Heap) (locs : List Loc) (ls : Array Slot), va_P E.1 vwCl (mw (entC E ad n M) ad n) H → va_S (AA ad n s.heap.size) s.heap H locs → lv_has ls 4 [(0, .ref (ad 1)), (1, .long v1), (3, .int v3)] → W p l e { frames := 0, cells := 0, slots := 0, locals := 0 } s m [.ref (ad 1)].toArray below meth c H locs 0 0 (MQ below (va_Ql (fun r0 (_ : Unit) => r0 = r) (fun _ t => QB E (entC E ad n M) ad n t) (AA ad n s.heap.size)) [.ref (ad 1)].toArray s 0 0 (AA ad n s.heap.size)) (F0 m 4 ls []) := by
  intro fu
  induction fu with
  | zero =>
    intro v1 v3 M hf
    rw [F_X0_allPurses_4] at hf
    cases hf
  | succ fu ih =>
    intro v1 v3 M hf H locs ls hP hS hl
    rw [F_X0_allPurses_4] at hf
    refine lv_iload_n S.1 S.2.1 dX0_allPurses_4 rfl (lv_at hl 2 rfl) ?_
    refine lv_aload_n S.1 S.2.1 dX0_allPurses_5 rfl (lv_at hl 0 rfl) ?_
    refine x_get (v := .int (gI M 1 4)) S hK hP w_lay_X0 (ci := 0) rfl 1 (ok_lt (ok_b1 hn)) (e0 (ok_b1 hn).1) 4 (by decide) w_fl_X0_47 rfl rfl dX0_allPurses_6 ?_
    refine lv_icmp_ge (tgt := 30) S.1 S.2.1 dX0_allPurses_9 (by decide) (fun h1 => ?_) (fun h1 => ?_)
    · replace hf := ift h1 hf
      refine lv_lload_n S.1 S.2.1 dX0_allPurses_30 rfl (lv_at hl 1 rfl) ?_
      cases hf
      exact r_l S hr hlk hP hS dX0_allPurses_31
    · replace hf := iff_ h1 hf
      refine lv_lload_n S.1 S.2.1 dX0_allPurses_12 rfl (lv_at hl 1 rfl) ?_
      refine lv_aload_n S.1 S.2.1 dX0_allPurses_13 rfl (lv_at hl 0 rfl) ?_
      refine x_get (v := .ref (ad 4)) S hK hP w_lay_X0 (ci := 0) rfl 1 (ok_lt (ok_b1 hn)) (e0 (ok_b1 hn).1) 1 (by decide) w_fl_X0_20 rfl rfl dX0_allPurses_14 ?_
      refine lv_iload_n S.1 S.2.1 dX0_allPurses_17 rfl (lv_at hl 2 rfl) ?_
      obtain ⟨h2, hf⟩ := gd_some hf
      refine x_aald S hK hP 4 (ok_lt (ok_ma1 hn)) e9_1 2 rfl h2 dX0_allPurses_18 ?_
      refine x_get (v := .long (gL M (7 + (ix v3)) 1)) S hK hP w_lay_X1 (ci := 1) rfl (7 + (ix v3)) (ok_lt (ok_m1 hn (ib_lt h2))) (e1 (ok_m1 hn (ib_lt h2)).1) 1 (by decide) w_fl_X0_191 rfl rfl dX0_allPurses_19 ?_
      refine lv_ladd S.1 S.2.1 dX0_allPurses_22 ?_
      obtain ⟨x3, ex3, hf⟩ := bnd_some hf
      refine lv_rel ex3 ?_
      refine lv_lstore_n (lv' := [(1, .long x3), (0, .ref (ad 1)), (3, .int v3)]) S.1 S.2.1 dX0_allPurses_23 rfl hl (by decide) rfl (fun ls hl => ?_)
      refine lv_iinc (v := v3 + (1 : Int32)) (lv' := [(3, .int (v3 + (1 : Int32))), (1, .long x3), (0, .ref (ad 1))]) S.1 S.2.1 dX0_allPurses_24 hl (k := 2) rfl rfl (by decide) rfl (fun ls hl => ?_)
      refine lv_goto (tgt := 4) S.1 S.2.1 dX0_allPurses_27 (by decide) ?_
      exact ih x3 (v3 + (1 : Int32))  M hf _ _ _ hP hS (lv_sub hl [2, 1, 0] rfl)
set_option maxHeartbeats 4000000 in
set_option maxRecDepth 100000 in
theorem K_X0_allPurses (l : Launch) (E : EE) (ad : Nat → Nat) (n : Nat) (hI : ad_I ad n) (hn : 117 ≤ n) (sz : Nat) (N : Nat)   (M : MM) (r : Int64) (hf : F_X0_allPurses N  M = some r) : CtL l yX0_allPurses cX0_allPurses 4 0 0 E (entC E ad n M) (entC E ad n M) ad n sz [.ref (ad 1)] (r) := by
  unfold CtL
  refine body_of (by decide) "SurvivorPurse$Book" rfl (Nat.le_of_ble_eq_true rfl) ?_
  intro p e s m below meth c hsz S hr hlk hP hK hN ls hl
  subst hsz
  have hS : va_S (AA ad n s.heap.size) s.heap s.heap [] := va_S.rf
  have hl : lv_has ls 4 [(0, .ref (ad 1))] := hl
  rw [F_X0_allPurses] at hf
  refine lv_lconst (v := (0 : Int64)) S.1 S.2.1 dX0_allPurses_0 (by decide) ?_
  refine lv_lstore_n (lv' := [(1, .long (0 : Int64)), (0, .ref (ad 1))]) S.1 S.2.1 dX0_allPurses_1 rfl hl (by decide) rfl (fun ls hl => ?_)
  refine lv_iconst (v := (0 : Int32)) S.1 S.2.1 dX0_allPurses_2 (by decide) ?_
  refine lv_istore_n (lv' := [(3, .int (0 : Int32)), (1, .long (0 : Int64)), (0, .ref (ad 1))]) S.1 S.2.1 dX0_allPurses_3 rfl hl (by decide) rfl (fun ls hl => ?_)
  exact L_X0_allPurses_4 l E ad n hI hn N   S hr hlk hK hN _ N (0 : Int64) (0 : Int32)  M hf _ _ _ hP hS (lv_sub hl [2, 1, 0] rfl)
theorem hd_X0_allStocks : yX0_allStocks.cls ≠ "java/lang/invoke/MethodHandle" ∧ yX0_allStocks.cls ≠ "java/lang/invoke/VarHandle" ∧ (parseMethodDescriptor yX0_allStocks.desc).map (fun d => d.parameters.length) = some 0 := by decide +kernel
set_option maxHeartbeats 4000000 in
set_option maxRecDepth 100000 in
theorem L_X0_allStocks_4 (l : Launch) (E : EE) (ad : Nat → Nat) (n : Nat) (hI : ad_I ad n) (hn : 117 ≤ n) (N : Nat)   {p : Program} {e : Env} {s : State} {m : MethodId} {below : List Frame} {meth : Method} {c : Code} (S : CallFix p m c cX0_allStocks 4 s [.ref (ad 1)].toArray bg_B "SurvivorPurse$Book") (hr : meth.sig.returnType = (some .long)) (hlk : meth.locks = false) (hK : va_K E.1 vwCl (tysE E) s) (hN : NW s) (r : Int64) : ∀ (fu : Nat) (v1 : Int64) (v3 : Int32)  (M : MM), F_X0_allStocks_4 N  fu v1 v3 M = some r → ∀ (H : Heap) (locs : List Loc) (ls : Array Slot), va_P E.1 vwCl (mw (entC E ad n M) ad n) H → va_S (AA ad n s.heap.size) s.heap H locs → lv_has ls 4 [(0, .ref (ad 1)), (1, .long v1), (3, .int v3)] → W p l e { frames := 0, cells := 0, slots := 0, locals := 0 } s m [.ref (ad 1)].toArray below meth c H locs 0 0 (MQ below (va_Ql (fun r0 (_ : Unit) => r0 = r) (fun _ t => QB E (entC E ad n M) ad n t) (AA ad n s.heap.size)) [.ref (ad 1)].toArray s 0 0 (AA ad n s.heap.size)) (F0 m 4 ls []) := by
  intro fu
  induction fu with
  | zero =>
    intro v1 v3 M hf
    rw [F_X0_allStocks_4] at hf
    cases hf
  | succ fu ih =>
    intro v1 v3 M hf H locs ls hP hS hl
    rw [F_X0_allStocks_4] at hf
    refine lv_iload_n S.1 S.2.1 dX0_allStocks_4 rfl (lv_at hl 2 rfl) ?_
    refine lv_aload_n S.1 S.2.1 dX0_allStocks_5 rfl (lv_at hl 0 rfl) ?_
    refine x_get (v := .int (gI M 1 5)) S hK hP w_lay_X0 (ci := 0) rfl 1 (ok_lt (ok_b1 hn)) (e0 (ok_b1 hn).1) 5 (by decide) w_fl_X0_50 rfl rfl dX0_allStocks_6 ?_
    refine lv_icmp_ge (tgt := 30) S.1 S.2.1 dX0_allStocks_9 (by decide) (fun h1 => ?_) (fun h1 => ?_)
    · replace hf := ift h1 hf
      refine lv_lload_n S.1 S.2.1 dX0_allStocks_30 rfl (lv_at hl 1 rfl) ?_
      cases hf
      exact r_l S hr hlk hP hS dX0_allStocks_31
    · replace hf := iff_ h1 hf
      refine lv_lload_n S.1 S.2.1 dX0_allStocks_12 rfl (lv_at hl 1 rfl) ?_
      refine lv_aload_n S.1 S.2.1 dX0_allStocks_13 rfl (lv_at hl 0 rfl) ?_
      refine x_get (v := .ref (ad 5)) S hK hP w_lay_X0 (ci := 0) rfl 1 (ok_lt (ok_b1 hn)) (e0 (ok_b1 hn).1) 2 (by decide) w_fl_X0_26 rfl rfl dX0_allStocks_14 ?_
      refine lv_iload_n S.1 S.2.1 dX0_allStocks_17 rfl (lv_at hl 2 rfl) ?_
      obtain ⟨h2, hf⟩ := gd_some hf
      refine x_aald S hK hP 5 (ok_lt (ok_ra1 hn)) e10_1 3 rfl h2 dX0_allStocks_18 ?_
      refine x_get (v := .long (gL M (31 + (ix v3)) 3)) S hK hP w_lay_X2 (ci := 2) rfl (31 + (ix v3)) (ok_lt (ok_r1 hn (ib_lt h2))) (e2 (ok_r1 hn (ib_lt h2)).1) 3 (by decide) w_fl_X0_110 rfl rfl dX0_allStocks_19 ?_
      refine lv_ladd S.1 S.2.1 dX0_allStocks_22 ?_
      obtain ⟨x3, ex3, hf⟩ := bnd_some hf
      refine lv_rel ex3 ?_
      refine lv_lstore_n (lv' := [(1, .long x3), (0, .ref (ad 1)), (3, .int v3)]) S.1 S.2.1 dX0_allStocks_23 rfl hl (by decide) rfl (fun ls hl => ?_)
      refine lv_iinc (v := v3 + (1 : Int32)) (lv' := [(3, .int (v3 + (1 : Int32))), (1, .long x3), (0, .ref (ad 1))]) S.1 S.2.1 dX0_allStocks_24 hl (k := 2) rfl rfl (by decide) rfl (fun ls hl => ?_)
      refine lv_goto (tgt := 4) S.1 S.2.1 dX0_allStocks_27 (by decide) ?_
      exact ih x3 (v3 + (1 : Int32))  M hf _ _ _ hP hS (lv_sub hl [2, 1, 0] rfl)
set_option maxHeartbeats 4000000 in
set_option maxRecDepth 100000 in
theorem K_X0_allStocks (l : Launch) (E : EE) (ad : Nat → Nat) (n : Nat) (hI : ad_I ad n) (hn : 117 ≤ n) (sz : Nat) (N : Nat)   (M : MM) (r : Int64) (hf : F_X0_allStocks N  M = some r) : CtL l yX0_allStocks cX0_allStocks 4 0 0 E (entC E ad n M) (entC E ad n M) ad n sz [.ref (ad 1)] (r) := by
  unfold CtL
  refine body_of (by decide) "SurvivorPurse$Book" rfl (Nat.le_of_ble_eq_true rfl) ?_
  intro p e s m below meth c hsz S hr hlk hP hK hN ls hl
  subst hsz
  have hS : va_S (AA ad n s.heap.size) s.heap s.heap [] := va_S.rf
  have hl : lv_has ls 4 [(0, .ref (ad 1))] := hl
  rw [F_X0_allStocks] at hf
  refine lv_lconst (v := (0 : Int64)) S.1 S.2.1 dX0_allStocks_0 (by decide) ?_
  refine lv_lstore_n (lv' := [(1, .long (0 : Int64)), (0, .ref (ad 1))]) S.1 S.2.1 dX0_allStocks_1 rfl hl (by decide) rfl (fun ls hl => ?_)
  refine lv_iconst (v := (0 : Int32)) S.1 S.2.1 dX0_allStocks_2 (by decide) ?_
  refine lv_istore_n (lv' := [(3, .int (0 : Int32)), (1, .long (0 : Int64)), (0, .ref (ad 1))]) S.1 S.2.1 dX0_allStocks_3 rfl hl (by decide) rfl (fun ls hl => ?_)
  exact L_X0_allStocks_4 l E ad n hI hn N   S hr hlk hK hN _ N (0 : Int64) (0 : Int32)  M hf _ _ _ hP hS (lv_sub hl [2, 1, 0] rfl)
theorem hd_X0_allDebts : yX0_allDebts.cls ≠ "java/lang/invoke/MethodHandle" ∧ yX0_allDebts.cls ≠ "java/lang/invoke/VarHandle" ∧ (parseMethodDescriptor yX0_allDebts.desc).map (fun d => d.parameters.length) = some 0 := by decide +kernel
set_option maxHeartbeats 4000000 in
set_option maxRecDepth 100000 in
theorem L_X0_allDebts_4 (l : Launch) (E : EE) (ad : Nat → Nat) (n : Nat) (hI : ad_I ad n) (hn : 117 ≤ n) (N : Nat)   {p : Program} {e : Env} {s : State} {m : MethodId} {below : List Frame} {meth : Method} {c : Code} (S : CallFix p m c cX0_allDebts 4 s [.ref (ad 1)].toArray bg_B "SurvivorPurse$Book") (hr : meth.sig.returnType = (some .long)) (hlk : meth.locks = false) (hK : va_K E.1 vwCl (tysE E) s) (hN : NW s) (r : Int64) : ∀ (fu : Nat) (v1 : Int64) (v3 : Int32)  (M : MM), F_X0_allDebts_4 N  fu v1 v3 M = some r → ∀ (H : Heap) (locs : List Loc) (ls : Array Slot), va_P E.1 vwCl (mw (entC E ad n M) ad n) H → va_S (AA ad n s.heap.size) s.heap H locs → lv_has ls 4 [(0, .ref (ad 1)), (1, .long v1), (3, .int v3)] → W p l e { frames := 0, cells := 0, slots := 0, locals := 0 } s m [.ref (ad 1)].toArray below meth c H locs 0 0 (MQ below (va_Ql (fun r0 (_ : Unit) => r0 = r) (fun _ t => QB E (entC E ad n M) ad n t) (AA ad n s.heap.size)) [.ref (ad 1)].toArray s 0 0 (AA ad n s.heap.size)) (F0 m 4 ls []) := by
  intro fu
  induction fu with
  | zero =>
    intro v1 v3 M hf
    rw [F_X0_allDebts_4] at hf
    cases hf
  | succ fu ih =>
    intro v1 v3 M hf H locs ls hP hS hl
    rw [F_X0_allDebts_4] at hf
    refine lv_iload_n S.1 S.2.1 dX0_allDebts_4 rfl (lv_at hl 2 rfl) ?_
    refine lv_aload_n S.1 S.2.1 dX0_allDebts_5 rfl (lv_at hl 0 rfl) ?_
    refine x_get (v := .int (gI M 1 4)) S hK hP w_lay_X0 (ci := 0) rfl 1 (ok_lt (ok_b1 hn)) (e0 (ok_b1 hn).1) 4 (by decide) w_fl_X0_47 rfl rfl dX0_allDebts_6 ?_
    refine lv_icmp_ge (tgt := 30) S.1 S.2.1 dX0_allDebts_9 (by decide) (fun h1 => ?_) (fun h1 => ?_)
    · replace hf := ift h1 hf
      refine lv_lload_n S.1 S.2.1 dX0_allDebts_30 rfl (lv_at hl 1 rfl) ?_
      cases hf
      exact r_l S hr hlk hP hS dX0_allDebts_31
    · replace hf := iff_ h1 hf
      refine lv_lload_n S.1 S.2.1 dX0_allDebts_12 rfl (lv_at hl 1 rfl) ?_
      refine lv_aload_n S.1 S.2.1 dX0_allDebts_13 rfl (lv_at hl 0 rfl) ?_
      refine x_get (v := .ref (ad 4)) S hK hP w_lay_X0 (ci := 0) rfl 1 (ok_lt (ok_b1 hn)) (e0 (ok_b1 hn).1) 1 (by decide) w_fl_X0_20 rfl rfl dX0_allDebts_14 ?_
      refine lv_iload_n S.1 S.2.1 dX0_allDebts_17 rfl (lv_at hl 2 rfl) ?_
      obtain ⟨h2, hf⟩ := gd_some hf
      refine x_aald S hK hP 4 (ok_lt (ok_ma1 hn)) e9_1 2 rfl h2 dX0_allDebts_18 ?_
      refine x_get (v := .long (gL M (7 + (ix v3)) 2)) S hK hP w_lay_X1 (ci := 1) rfl (7 + (ix v3)) (ok_lt (ok_m1 hn (ib_lt h2))) (e1 (ok_m1 hn (ib_lt h2)).1) 2 (by decide) w_fl_X0_178 rfl rfl dX0_allDebts_19 ?_
      refine lv_ladd S.1 S.2.1 dX0_allDebts_22 ?_
      obtain ⟨x3, ex3, hf⟩ := bnd_some hf
      refine lv_rel ex3 ?_
      refine lv_lstore_n (lv' := [(1, .long x3), (0, .ref (ad 1)), (3, .int v3)]) S.1 S.2.1 dX0_allDebts_23 rfl hl (by decide) rfl (fun ls hl => ?_)
      refine lv_iinc (v := v3 + (1 : Int32)) (lv' := [(3, .int (v3 + (1 : Int32))), (1, .long x3), (0, .ref (ad 1))]) S.1 S.2.1 dX0_allDebts_24 hl (k := 2) rfl rfl (by decide) rfl (fun ls hl => ?_)
      refine lv_goto (tgt := 4) S.1 S.2.1 dX0_allDebts_27 (by decide) ?_
      exact ih x3 (v3 + (1 : Int32))  M hf _ _ _ hP hS (lv_sub hl [2, 1, 0] rfl)
set_option maxHeartbeats 4000000 in
set_option maxRecDepth 100000 in
theorem K_X0_allDebts (l : Launch) (E : EE) (ad : Nat → Nat) (n : Nat) (hI : ad_I ad n) (hn : 117 ≤ n) (sz : Nat) (N : Nat)   (M : MM) (r : Int64) (hf : F_X0_allDebts N  M = some r) : CtL l yX0_allDebts cX0_allDebts 4 0 0 E (entC E ad n M) (entC E ad n M) ad n sz [.ref (ad 1)] (r) := by
  unfold CtL
  refine body_of (by decide) "SurvivorPurse$Book" rfl (Nat.le_of_ble_eq_true rfl) ?_
  intro p e s m below meth c hsz S hr hlk hP hK hN ls hl
  subst hsz
  have hS : va_S (AA ad n s.heap.size) s.heap s.heap [] := va_S.rf
  have hl : lv_has ls 4 [(0, .ref (ad 1))] := hl
  rw [F_X0_allDebts] at hf
  refine lv_lconst (v := (0 : Int64)) S.1 S.2.1 dX0_allDebts_0 (by decide) ?_
  refine lv_lstore_n (lv' := [(1, .long (0 : Int64)), (0, .ref (ad 1))]) S.1 S.2.1 dX0_allDebts_1 rfl hl (by decide) rfl (fun ls hl => ?_)
  refine lv_iconst (v := (0 : Int32)) S.1 S.2.1 dX0_allDebts_2 (by decide) ?_
  refine lv_istore_n (lv' := [(3, .int (0 : Int32)), (1, .long (0 : Int64)), (0, .ref (ad 1))]) S.1 S.2.1 dX0_allDebts_3 rfl hl (by decide) rfl (fun ls hl => ?_)
  exact L_X0_allDebts_4 l E ad n hI hn N   S hr hlk hK hN _ N (0 : Int64) (0 : Int32)  M hf _ _ _ hP hS (lv_sub hl [2, 1, 0] rfl)
theorem hd_X1_begin : yX1_begin.cls ≠ "java/lang/invoke/MethodHandle" ∧ yX1_begin.cls ≠ "java/lang/invoke/VarHandle" ∧ (parseMethodDescriptor yX1_begin.desc).map (fun d => d.parameters.length) = some 1 := by decide +kernel
set_option maxHeartbeats 4000000 in
set_option maxRecDepth 100000 in
theorem K_X1_begin (l : Launch) (E : EE) (ad : Nat → Nat) (n : Nat) (hI : ad_I ad n) (hn : 117 ≤ n) (sz : Nat) (N : Nat) (c0 : Nat) (a1 : Int32) (P0 : ok 1 n c0) (M : MM) (M' : MM) (hf : F_X1_begin N c0 a1 M = some M') : CtV l yX1_begin cX1_begin 2 0 0 E (entC E ad n M) (entC E ad n M') ad n sz [.ref (ad c0), .int a1] := by
  unfold CtV
  refine body_of (by decide) "SurvivorPurse$Member" rfl (Nat.le_of_ble_eq_true rfl) ?_
  intro p e s m below meth c hsz S hr hlk hP hK hN ls hl
  subst hsz
  have hS : va_S (AA ad n s.heap.size) s.heap s.heap [] := va_S.rf
  have hl : lv_has ls 2 [(0, .ref (ad c0)), (1, .int a1)] := hl
  rw [F_X1_begin] at hf
  refine lv_aload_n S.1 S.2.1 dX1_begin_0 rfl (lv_at hl 0 rfl) ?_
  refine lv_iload_n S.1 S.2.1 dX1_begin_1 rfl (lv_at hl 1 rfl) ?_
  refine x_put S hI hK hP hS w_lay_X1 tyX1 tyX1_ok nmX1 (ci := 1) rfl c0 (ok_lt P0) (e1 P0.1) 0 (by decide) w_fl_X1_9 rfl rfl rfl rfl (Nat.le_of_ble_eq_true rfl) (entC E ad n (sI M c0 0 a1)) (h1_X1_0 P0.1 ) (fun _ h => entC_sI _ h) dX1_begin_2 (fun H locs hP hS => ?_)
  obtain ⟨M1, eM1, hf⟩ := bnd_some hf
  rw [← eM1] at hP
  refine lv_aload_n S.1 S.2.1 dX1_begin_5 rfl (lv_at hl 0 rfl) ?_
  refine lv_lconst (v := (0 : Int64)) S.1 S.2.1 dX1_begin_6 (by decide) ?_
  refine x_put S hI hK hP hS w_lay_X1 tyX1 tyX1_ok nmX1 (ci := 1) rfl c0 (ok_lt P0) (e1 P0.1) 1 (by decide) w_fl_X1_15 rfl rfl rfl rfl (Nat.le_of_ble_eq_true rfl) (entC E ad n (sL M1 c0 1 (0 : Int64))) (h1_X1_1 P0.1 ) (fun _ h => entC_sL _ h) dX1_begin_7 (fun H locs hP hS => ?_)
  obtain ⟨M2, eM2, hf⟩ := bnd_some hf
  rw [← eM2] at hP
  refine lv_aload_n S.1 S.2.1 dX1_begin_10 rfl (lv_at hl 0 rfl) ?_
  refine lv_lconst (v := (0 : Int64)) S.1 S.2.1 dX1_begin_11 (by decide) ?_
  refine x_put S hI hK hP hS w_lay_X1 tyX1 tyX1_ok nmX1 (ci := 1) rfl c0 (ok_lt P0) (e1 P0.1) 2 (by decide) w_fl_X1_19 rfl rfl rfl rfl (Nat.le_of_ble_eq_true rfl) (entC E ad n (sL M2 c0 2 (0 : Int64))) (h1_X1_2 P0.1 ) (fun _ h => entC_sL _ h) dX1_begin_12 (fun H locs hP hS => ?_)
  obtain ⟨M3, eM3, hf⟩ := bnd_some hf
  rw [← eM3] at hP
  refine lv_aload_n S.1 S.2.1 dX1_begin_15 rfl (lv_at hl 0 rfl) ?_
  refine lv_iconst (v := (-1 : Int32)) S.1 S.2.1 dX1_begin_16 (by decide) ?_
  refine x_put S hI hK hP hS w_lay_X1 tyX1 tyX1_ok nmX1 (ci := 1) rfl c0 (ok_lt P0) (e1 P0.1) 3 (by decide) w_fl_X1_22 rfl rfl rfl rfl (Nat.le_of_ble_eq_true rfl) (entC E ad n (sI M3 c0 3 (-1 : Int32))) (h1_X1_3 P0.1 ) (fun _ h => entC_sI _ h) dX1_begin_17 (fun H locs hP hS => ?_)
  obtain ⟨M4, eM4, hf⟩ := bnd_some hf
  rw [← eM4] at hP
  refine lv_aload_n S.1 S.2.1 dX1_begin_20 rfl (lv_at hl 0 rfl) ?_
  refine lv_iconst (v := (0 : Int32)) S.1 S.2.1 dX1_begin_21 (by decide) ?_
  refine x_put S hI hK hP hS w_lay_X1 tyX1 tyX1_ok nmX1 (ci := 1) rfl c0 (ok_lt P0) (e1 P0.1) 4 (by decide) w_fl_X1_25 rfl rfl (bo_nar (by decide)) (bo_fit (by decide)) (Nat.le_of_ble_eq_true rfl) (entC E ad n (sI M4 c0 4 (0 : Int32))) (h1_X1_4 P0.1 (by decide)) (fun _ h => entC_sI _ h) dX1_begin_22 (fun H locs hP hS => ?_)
  obtain ⟨M5, eM5, hf⟩ := bnd_some hf
  rw [← eM5] at hP
  refine lv_aload_n S.1 S.2.1 dX1_begin_25 rfl (lv_at hl 0 rfl) ?_
  refine lv_iconst (v := (0 : Int32)) S.1 S.2.1 dX1_begin_26 (by decide) ?_
  refine x_put S hI hK hP hS w_lay_X1 tyX1 tyX1_ok nmX1 (ci := 1) rfl c0 (ok_lt P0) (e1 P0.1) 5 (by decide) w_fl_X1_29 rfl rfl (bo_nar (by decide)) (bo_fit (by decide)) (Nat.le_of_ble_eq_true rfl) (entC E ad n (sI M5 c0 5 (0 : Int32))) (h1_X1_5 P0.1 (by decide)) (fun _ h => entC_sI _ h) dX1_begin_27 (fun H locs hP hS => ?_)
  obtain ⟨M6, eM6, hf⟩ := bnd_some hf
  rw [← eM6] at hP
  refine lv_aload_n S.1 S.2.1 dX1_begin_30 rfl (lv_at hl 0 rfl) ?_
  refine lv_iconst (v := (0 : Int32)) S.1 S.2.1 dX1_begin_31 (by decide) ?_
  refine x_put S hI hK hP hS w_lay_X1 tyX1 tyX1_ok nmX1 (ci := 1) rfl c0 (ok_lt P0) (e1 P0.1) 6 (by decide) w_fl_X1_32 rfl rfl rfl rfl (Nat.le_of_ble_eq_true rfl) (entC E ad n (sI M6 c0 6 (0 : Int32))) (h1_X1_6 P0.1 ) (fun _ h => entC_sI _ h) dX1_begin_32 (fun H locs hP hS => ?_)
  obtain ⟨M7, eM7, hf⟩ := bnd_some hf
  rw [← eM7] at hP
  cases hf
  exact r_v S hr hlk hP hS dX1_begin_35
theorem hd_X1_copyFrom : yX1_copyFrom.cls ≠ "java/lang/invoke/MethodHandle" ∧ yX1_copyFrom.cls ≠ "java/lang/invoke/VarHandle" ∧ (parseMethodDescriptor yX1_copyFrom.desc).map (fun d => d.parameters.length) = some 1 := by decide +kernel
set_option maxHeartbeats 4000000 in
set_option maxRecDepth 100000 in
theorem K_X1_copyFrom (l : Launch) (E : EE) (ad : Nat → Nat) (n : Nat) (hI : ad_I ad n) (hn : 117 ≤ n) (sz : Nat) (N : Nat) (c0 : Nat) (c1 : Nat) (P0 : ok 1 n c0) (P1 : ok 1 n c1) (M : MM) (M' : MM) (hf : F_X1_copyFrom N c0 c1 M = some M') : CtV l yX1_copyFrom cX1_copyFrom 2 0 0 E (entC E ad n M) (entC E ad n M') ad n sz [.ref (ad c0), .ref (ad c1)] := by
  unfold CtV
  refine body_of (by decide) "SurvivorPurse$Member" rfl (Nat.le_of_ble_eq_true rfl) ?_
  intro p e s m below meth c hsz S hr hlk hP hK hN ls hl
  subst hsz
  have hS : va_S (AA ad n s.heap.size) s.heap s.heap [] := va_S.rf
  have hl : lv_has ls 2 [(0, .ref (ad c0)), (1, .ref (ad c1))] := hl
  rw [F_X1_copyFrom] at hf
  refine lv_aload_n S.1 S.2.1 dX1_copyFrom_0 rfl (lv_at hl 0 rfl) ?_
  refine lv_aload_n S.1 S.2.1 dX1_copyFrom_1 rfl (lv_at hl 1 rfl) ?_
  refine x_get (v := .int (gI M c1 0)) S hK hP w_lay_X1 (ci := 1) rfl c1 (ok_lt P1) (e1 P1.1) 0 (by decide) w_fl_X1_9 rfl rfl dX1_copyFrom_2 ?_
  refine x_put S hI hK hP hS w_lay_X1 tyX1 tyX1_ok nmX1 (ci := 1) rfl c0 (ok_lt P0) (e1 P0.1) 0 (by decide) w_fl_X1_9 rfl rfl rfl rfl (Nat.le_of_ble_eq_true rfl) (entC E ad n (sI M c0 0 (gI M c1 0))) (h1_X1_0 P0.1 ) (fun _ h => entC_sI _ h) dX1_copyFrom_5 (fun H locs hP hS => ?_)
  obtain ⟨M1, eM1, hf⟩ := bnd_some hf
  rw [← eM1] at hP
  refine lv_aload_n S.1 S.2.1 dX1_copyFrom_8 rfl (lv_at hl 0 rfl) ?_
  refine lv_aload_n S.1 S.2.1 dX1_copyFrom_9 rfl (lv_at hl 1 rfl) ?_
  refine x_get (v := .long (gL M1 c1 1)) S hK hP w_lay_X1 (ci := 1) rfl c1 (ok_lt P1) (e1 P1.1) 1 (by decide) w_fl_X1_15 rfl rfl dX1_copyFrom_10 ?_
  refine x_put S hI hK hP hS w_lay_X1 tyX1 tyX1_ok nmX1 (ci := 1) rfl c0 (ok_lt P0) (e1 P0.1) 1 (by decide) w_fl_X1_15 rfl rfl rfl rfl (Nat.le_of_ble_eq_true rfl) (entC E ad n (sL M1 c0 1 (gL M1 c1 1))) (h1_X1_1 P0.1 ) (fun _ h => entC_sL _ h) dX1_copyFrom_13 (fun H locs hP hS => ?_)
  obtain ⟨M2, eM2, hf⟩ := bnd_some hf
  rw [← eM2] at hP
  refine lv_aload_n S.1 S.2.1 dX1_copyFrom_16 rfl (lv_at hl 0 rfl) ?_
  refine lv_aload_n S.1 S.2.1 dX1_copyFrom_17 rfl (lv_at hl 1 rfl) ?_
  refine x_get (v := .long (gL M2 c1 2)) S hK hP w_lay_X1 (ci := 1) rfl c1 (ok_lt P1) (e1 P1.1) 2 (by decide) w_fl_X1_19 rfl rfl dX1_copyFrom_18 ?_
  refine x_put S hI hK hP hS w_lay_X1 tyX1 tyX1_ok nmX1 (ci := 1) rfl c0 (ok_lt P0) (e1 P0.1) 2 (by decide) w_fl_X1_19 rfl rfl rfl rfl (Nat.le_of_ble_eq_true rfl) (entC E ad n (sL M2 c0 2 (gL M2 c1 2))) (h1_X1_2 P0.1 ) (fun _ h => entC_sL _ h) dX1_copyFrom_21 (fun H locs hP hS => ?_)
  obtain ⟨M3, eM3, hf⟩ := bnd_some hf
  rw [← eM3] at hP
  refine lv_aload_n S.1 S.2.1 dX1_copyFrom_24 rfl (lv_at hl 0 rfl) ?_
  refine lv_aload_n S.1 S.2.1 dX1_copyFrom_25 rfl (lv_at hl 1 rfl) ?_
  refine x_get (v := .int (gI M3 c1 3)) S hK hP w_lay_X1 (ci := 1) rfl c1 (ok_lt P1) (e1 P1.1) 3 (by decide) w_fl_X1_22 rfl rfl dX1_copyFrom_26 ?_
  refine x_put S hI hK hP hS w_lay_X1 tyX1 tyX1_ok nmX1 (ci := 1) rfl c0 (ok_lt P0) (e1 P0.1) 3 (by decide) w_fl_X1_22 rfl rfl rfl rfl (Nat.le_of_ble_eq_true rfl) (entC E ad n (sI M3 c0 3 (gI M3 c1 3))) (h1_X1_3 P0.1 ) (fun _ h => entC_sI _ h) dX1_copyFrom_29 (fun H locs hP hS => ?_)
  obtain ⟨M4, eM4, hf⟩ := bnd_some hf
  rw [← eM4] at hP
  refine lv_aload_n S.1 S.2.1 dX1_copyFrom_32 rfl (lv_at hl 0 rfl) ?_
  refine lv_aload_n S.1 S.2.1 dX1_copyFrom_33 rfl (lv_at hl 1 rfl) ?_
  refine x_get (v := .int (bo (gI M4 c1 4))) S hK hP w_lay_X1 (ci := 1) rfl c1 (ok_lt P1) (e1 P1.1) 4 (by decide) w_fl_X1_25 rfl rfl dX1_copyFrom_34 ?_
  refine x_put S hI hK hP hS w_lay_X1 tyX1 tyX1_ok nmX1 (ci := 1) rfl c0 (ok_lt P0) (e1 P0.1) 4 (by decide) w_fl_X1_25 rfl rfl (bo_nar (bo_bo _)) (bo_fit (bo_bo _)) (Nat.le_of_ble_eq_true rfl) (entC E ad n (sI M4 c0 4 (bo (gI M4 c1 4)))) (h1_X1_4 P0.1 (bo_bo _)) (fun _ h => entC_sI _ h) dX1_copyFrom_37 (fun H locs hP hS => ?_)
  obtain ⟨M5, eM5, hf⟩ := bnd_some hf
  rw [← eM5] at hP
  refine lv_aload_n S.1 S.2.1 dX1_copyFrom_40 rfl (lv_at hl 0 rfl) ?_
  refine lv_aload_n S.1 S.2.1 dX1_copyFrom_41 rfl (lv_at hl 1 rfl) ?_
  refine x_get (v := .int (bo (gI M5 c1 5))) S hK hP w_lay_X1 (ci := 1) rfl c1 (ok_lt P1) (e1 P1.1) 5 (by decide) w_fl_X1_29 rfl rfl dX1_copyFrom_42 ?_
  refine x_put S hI hK hP hS w_lay_X1 tyX1 tyX1_ok nmX1 (ci := 1) rfl c0 (ok_lt P0) (e1 P0.1) 5 (by decide) w_fl_X1_29 rfl rfl (bo_nar (bo_bo _)) (bo_fit (bo_bo _)) (Nat.le_of_ble_eq_true rfl) (entC E ad n (sI M5 c0 5 (bo (gI M5 c1 5)))) (h1_X1_5 P0.1 (bo_bo _)) (fun _ h => entC_sI _ h) dX1_copyFrom_45 (fun H locs hP hS => ?_)
  obtain ⟨M6, eM6, hf⟩ := bnd_some hf
  rw [← eM6] at hP
  refine lv_aload_n S.1 S.2.1 dX1_copyFrom_48 rfl (lv_at hl 0 rfl) ?_
  refine lv_aload_n S.1 S.2.1 dX1_copyFrom_49 rfl (lv_at hl 1 rfl) ?_
  refine x_get (v := .int (gI M6 c1 6)) S hK hP w_lay_X1 (ci := 1) rfl c1 (ok_lt P1) (e1 P1.1) 6 (by decide) w_fl_X1_32 rfl rfl dX1_copyFrom_50 ?_
  refine x_put S hI hK hP hS w_lay_X1 tyX1 tyX1_ok nmX1 (ci := 1) rfl c0 (ok_lt P0) (e1 P0.1) 6 (by decide) w_fl_X1_32 rfl rfl rfl rfl (Nat.le_of_ble_eq_true rfl) (entC E ad n (sI M6 c0 6 (gI M6 c1 6))) (h1_X1_6 P0.1 ) (fun _ h => entC_sI _ h) dX1_copyFrom_53 (fun H locs hP hS => ?_)
  obtain ⟨M7, eM7, hf⟩ := bnd_some hf
  rw [← eM7] at hP
  cases hf
  exact r_v S hr hlk hP hS dX1_copyFrom_56
theorem hd_X2_begin : yX2_begin.cls ≠ "java/lang/invoke/MethodHandle" ∧ yX2_begin.cls ≠ "java/lang/invoke/VarHandle" ∧ (parseMethodDescriptor yX2_begin.desc).map (fun d => d.parameters.length) = some 3 := by decide +kernel
set_option maxHeartbeats 4000000 in
set_option maxRecDepth 100000 in
theorem K_X2_begin (l : Launch) (E : EE) (ad : Nat → Nat) (n : Nat) (hI : ad_I ad n) (hn : 117 ≤ n) (sz : Nat) (N : Nat) (c0 : Nat) (a1 : Int32) (a2 : Int32) (a3 : Int32) (P0 : ok 2 n c0) (M : MM) (M' : MM) (hf : F_X2_begin N c0 a1 a2 a3 M = some M') : CtV l yX2_begin cX2_begin 4 0 0 E (entC E ad n M) (entC E ad n M') ad n sz [.ref (ad c0), .int a1, .int a2, .int a3] := by
  unfold CtV
  refine body_of (by decide) "SurvivorPurse$Rank" rfl (Nat.le_of_ble_eq_true rfl) ?_
  intro p e s m below meth c hsz S hr hlk hP hK hN ls hl
  subst hsz
  have hS : va_S (AA ad n s.heap.size) s.heap s.heap [] := va_S.rf
  have hl : lv_has ls 4 [(0, .ref (ad c0)), (1, .int a1), (2, .int a2), (3, .int a3)] := hl
  rw [F_X2_begin] at hf
  refine lv_aload_n S.1 S.2.1 dX2_begin_0 rfl (lv_at hl 0 rfl) ?_
  refine lv_iload_n S.1 S.2.1 dX2_begin_1 rfl (lv_at hl 1 rfl) ?_
  refine x_put S hI hK hP hS w_lay_X2 tyX2 tyX2_ok nmX2 (ci := 2) rfl c0 (ok_lt P0) (e2 P0.1) 0 (by decide) w_fl_X2_7 rfl rfl rfl rfl (Nat.le_of_ble_eq_true rfl) (entC E ad n (sI M c0 0 a1)) (h1_X2_0 P0.1 ) (fun _ h => entC_sI _ h) dX2_begin_2 (fun H locs hP hS => ?_)
  obtain ⟨M1, eM1, hf⟩ := bnd_some hf
  rw [← eM1] at hP
  refine lv_aload_n S.1 S.2.1 dX2_begin_5 rfl (lv_at hl 0 rfl) ?_
  refine lv_iload_n S.1 S.2.1 dX2_begin_6 rfl (lv_at hl 2 rfl) ?_
  refine x_put S hI hK hP hS w_lay_X2 tyX2 tyX2_ok nmX2 (ci := 2) rfl c0 (ok_lt P0) (e2 P0.1) 1 (by decide) w_fl_X2_13 rfl rfl rfl rfl (Nat.le_of_ble_eq_true rfl) (entC E ad n (sI M1 c0 1 a2)) (h1_X2_1 P0.1 ) (fun _ h => entC_sI _ h) dX2_begin_7 (fun H locs hP hS => ?_)
  obtain ⟨M2, eM2, hf⟩ := bnd_some hf
  rw [← eM2] at hP
  refine lv_aload_n S.1 S.2.1 dX2_begin_10 rfl (lv_at hl 0 rfl) ?_
  refine lv_iload_n S.1 S.2.1 dX2_begin_11 rfl (lv_at hl 3 rfl) ?_
  refine x_put S hI hK hP hS w_lay_X2 tyX2 tyX2_ok nmX2 (ci := 2) rfl c0 (ok_lt P0) (e2 P0.1) 2 (by decide) w_fl_X2_16 rfl rfl rfl rfl (Nat.le_of_ble_eq_true rfl) (entC E ad n (sI M2 c0 2 a3)) (h1_X2_2 P0.1 ) (fun _ h => entC_sI _ h) dX2_begin_12 (fun H locs hP hS => ?_)
  obtain ⟨M3, eM3, hf⟩ := bnd_some hf
  rw [← eM3] at hP
  refine lv_aload_n S.1 S.2.1 dX2_begin_15 rfl (lv_at hl 0 rfl) ?_
  refine lv_lconst (v := (0 : Int64)) S.1 S.2.1 dX2_begin_16 (by decide) ?_
  refine x_put S hI hK hP hS w_lay_X2 tyX2 tyX2_ok nmX2 (ci := 2) rfl c0 (ok_lt P0) (e2 P0.1) 3 (by decide) w_fl_X2_19 rfl rfl rfl rfl (Nat.le_of_ble_eq_true rfl) (entC E ad n (sL M3 c0 3 (0 : Int64))) (h1_X2_3 P0.1 ) (fun _ h => entC_sL _ h) dX2_begin_17 (fun H locs hP hS => ?_)
  obtain ⟨M4, eM4, hf⟩ := bnd_some hf
  rw [← eM4] at hP
  refine lv_aload_n S.1 S.2.1 dX2_begin_20 rfl (lv_at hl 0 rfl) ?_
  refine lv_lconst (v := (0 : Int64)) S.1 S.2.1 dX2_begin_21 (by decide) ?_
  refine x_put S hI hK hP hS w_lay_X2 tyX2 tyX2_ok nmX2 (ci := 2) rfl c0 (ok_lt P0) (e2 P0.1) 4 (by decide) w_fl_X2_23 rfl rfl rfl rfl (Nat.le_of_ble_eq_true rfl) (entC E ad n (sL M4 c0 4 (0 : Int64))) (h1_X2_4 P0.1 ) (fun _ h => entC_sL _ h) dX2_begin_22 (fun H locs hP hS => ?_)
  obtain ⟨M5, eM5, hf⟩ := bnd_some hf
  rw [← eM5] at hP
  refine lv_aload_n S.1 S.2.1 dX2_begin_25 rfl (lv_at hl 0 rfl) ?_
  refine lv_lconst (v := (0 : Int64)) S.1 S.2.1 dX2_begin_26 (by decide) ?_
  refine x_put S hI hK hP hS w_lay_X2 tyX2 tyX2_ok nmX2 (ci := 2) rfl c0 (ok_lt P0) (e2 P0.1) 5 (by decide) w_fl_X2_26 rfl rfl rfl rfl (Nat.le_of_ble_eq_true rfl) (entC E ad n (sL M5 c0 5 (0 : Int64))) (h1_X2_5 P0.1 ) (fun _ h => entC_sL _ h) dX2_begin_27 (fun H locs hP hS => ?_)
  obtain ⟨M6, eM6, hf⟩ := bnd_some hf
  rw [← eM6] at hP
  cases hf
  exact r_v S hr hlk hP hS dX2_begin_30
theorem hd_X2_copyFrom : yX2_copyFrom.cls ≠ "java/lang/invoke/MethodHandle" ∧ yX2_copyFrom.cls ≠ "java/lang/invoke/VarHandle" ∧ (parseMethodDescriptor yX2_copyFrom.desc).map (fun d => d.parameters.length) = some 1 := by decide +kernel
set_option maxHeartbeats 4000000 in
set_option maxRecDepth 100000 in
theorem K_X2_copyFrom (l : Launch) (E : EE) (ad : Nat → Nat) (n : Nat) (hI : ad_I ad n) (hn : 117 ≤ n) (sz : Nat) (N : Nat) (c0 : Nat) (c1 : Nat) (P0 : ok 2 n c0) (P1 : ok 2 n c1) (M : MM) (M' : MM) (hf : F_X2_copyFrom N c0 c1 M = some M') : CtV l yX2_copyFrom cX2_copyFrom 2 0 0 E (entC E ad n M) (entC E ad n M') ad n sz [.ref (ad c0), .ref (ad c1)] := by
  unfold CtV
  refine body_of (by decide) "SurvivorPurse$Rank" rfl (Nat.le_of_ble_eq_true rfl) ?_
  intro p e s m below meth c hsz S hr hlk hP hK hN ls hl
  subst hsz
  have hS : va_S (AA ad n s.heap.size) s.heap s.heap [] := va_S.rf
  have hl : lv_has ls 2 [(0, .ref (ad c0)), (1, .ref (ad c1))] := hl
  rw [F_X2_copyFrom] at hf
  refine lv_aload_n S.1 S.2.1 dX2_copyFrom_0 rfl (lv_at hl 0 rfl) ?_
  refine lv_aload_n S.1 S.2.1 dX2_copyFrom_1 rfl (lv_at hl 1 rfl) ?_
  refine x_get (v := .int (gI M c1 0)) S hK hP w_lay_X2 (ci := 2) rfl c1 (ok_lt P1) (e2 P1.1) 0 (by decide) w_fl_X2_7 rfl rfl dX2_copyFrom_2 ?_
  refine x_put S hI hK hP hS w_lay_X2 tyX2 tyX2_ok nmX2 (ci := 2) rfl c0 (ok_lt P0) (e2 P0.1) 0 (by decide) w_fl_X2_7 rfl rfl rfl rfl (Nat.le_of_ble_eq_true rfl) (entC E ad n (sI M c0 0 (gI M c1 0))) (h1_X2_0 P0.1 ) (fun _ h => entC_sI _ h) dX2_copyFrom_5 (fun H locs hP hS => ?_)
  obtain ⟨M1, eM1, hf⟩ := bnd_some hf
  rw [← eM1] at hP
  refine lv_aload_n S.1 S.2.1 dX2_copyFrom_8 rfl (lv_at hl 0 rfl) ?_
  refine lv_aload_n S.1 S.2.1 dX2_copyFrom_9 rfl (lv_at hl 1 rfl) ?_
  refine x_get (v := .int (gI M1 c1 1)) S hK hP w_lay_X2 (ci := 2) rfl c1 (ok_lt P1) (e2 P1.1) 1 (by decide) w_fl_X2_13 rfl rfl dX2_copyFrom_10 ?_
  refine x_put S hI hK hP hS w_lay_X2 tyX2 tyX2_ok nmX2 (ci := 2) rfl c0 (ok_lt P0) (e2 P0.1) 1 (by decide) w_fl_X2_13 rfl rfl rfl rfl (Nat.le_of_ble_eq_true rfl) (entC E ad n (sI M1 c0 1 (gI M1 c1 1))) (h1_X2_1 P0.1 ) (fun _ h => entC_sI _ h) dX2_copyFrom_13 (fun H locs hP hS => ?_)
  obtain ⟨M2, eM2, hf⟩ := bnd_some hf
  rw [← eM2] at hP
  refine lv_aload_n S.1 S.2.1 dX2_copyFrom_16 rfl (lv_at hl 0 rfl) ?_
  refine lv_aload_n S.1 S.2.1 dX2_copyFrom_17 rfl (lv_at hl 1 rfl) ?_
  refine x_get (v := .int (gI M2 c1 2)) S hK hP w_lay_X2 (ci := 2) rfl c1 (ok_lt P1) (e2 P1.1) 2 (by decide) w_fl_X2_16 rfl rfl dX2_copyFrom_18 ?_
  refine x_put S hI hK hP hS w_lay_X2 tyX2 tyX2_ok nmX2 (ci := 2) rfl c0 (ok_lt P0) (e2 P0.1) 2 (by decide) w_fl_X2_16 rfl rfl rfl rfl (Nat.le_of_ble_eq_true rfl) (entC E ad n (sI M2 c0 2 (gI M2 c1 2))) (h1_X2_2 P0.1 ) (fun _ h => entC_sI _ h) dX2_copyFrom_21 (fun H locs hP hS => ?_)
  obtain ⟨M3, eM3, hf⟩ := bnd_some hf
  rw [← eM3] at hP
  refine lv_aload_n S.1 S.2.1 dX2_copyFrom_24 rfl (lv_at hl 0 rfl) ?_
  refine lv_aload_n S.1 S.2.1 dX2_copyFrom_25 rfl (lv_at hl 1 rfl) ?_
  refine x_get (v := .long (gL M3 c1 3)) S hK hP w_lay_X2 (ci := 2) rfl c1 (ok_lt P1) (e2 P1.1) 3 (by decide) w_fl_X2_19 rfl rfl dX2_copyFrom_26 ?_
  refine x_put S hI hK hP hS w_lay_X2 tyX2 tyX2_ok nmX2 (ci := 2) rfl c0 (ok_lt P0) (e2 P0.1) 3 (by decide) w_fl_X2_19 rfl rfl rfl rfl (Nat.le_of_ble_eq_true rfl) (entC E ad n (sL M3 c0 3 (gL M3 c1 3))) (h1_X2_3 P0.1 ) (fun _ h => entC_sL _ h) dX2_copyFrom_29 (fun H locs hP hS => ?_)
  obtain ⟨M4, eM4, hf⟩ := bnd_some hf
  rw [← eM4] at hP
  refine lv_aload_n S.1 S.2.1 dX2_copyFrom_32 rfl (lv_at hl 0 rfl) ?_
  refine lv_aload_n S.1 S.2.1 dX2_copyFrom_33 rfl (lv_at hl 1 rfl) ?_
  refine x_get (v := .long (gL M4 c1 4)) S hK hP w_lay_X2 (ci := 2) rfl c1 (ok_lt P1) (e2 P1.1) 4 (by decide) w_fl_X2_23 rfl rfl dX2_copyFrom_34 ?_
  refine x_put S hI hK hP hS w_lay_X2 tyX2 tyX2_ok nmX2 (ci := 2) rfl c0 (ok_lt P0) (e2 P0.1) 4 (by decide) w_fl_X2_23 rfl rfl rfl rfl (Nat.le_of_ble_eq_true rfl) (entC E ad n (sL M4 c0 4 (gL M4 c1 4))) (h1_X2_4 P0.1 ) (fun _ h => entC_sL _ h) dX2_copyFrom_37 (fun H locs hP hS => ?_)
  obtain ⟨M5, eM5, hf⟩ := bnd_some hf
  rw [← eM5] at hP
  refine lv_aload_n S.1 S.2.1 dX2_copyFrom_40 rfl (lv_at hl 0 rfl) ?_
  refine lv_aload_n S.1 S.2.1 dX2_copyFrom_41 rfl (lv_at hl 1 rfl) ?_
  refine x_get (v := .long (gL M5 c1 5)) S hK hP w_lay_X2 (ci := 2) rfl c1 (ok_lt P1) (e2 P1.1) 5 (by decide) w_fl_X2_26 rfl rfl dX2_copyFrom_42 ?_
  refine x_put S hI hK hP hS w_lay_X2 tyX2 tyX2_ok nmX2 (ci := 2) rfl c0 (ok_lt P0) (e2 P0.1) 5 (by decide) w_fl_X2_26 rfl rfl rfl rfl (Nat.le_of_ble_eq_true rfl) (entC E ad n (sL M5 c0 5 (gL M5 c1 5))) (h1_X2_5 P0.1 ) (fun _ h => entC_sL _ h) dX2_copyFrom_45 (fun H locs hP hS => ?_)
  obtain ⟨M6, eM6, hf⟩ := bnd_some hf
  rw [← eM6] at hP
  cases hf
  exact r_v S hr hlk hP hS dX2_copyFrom_48
theorem hd_X3_hasLife : yX3_hasLife.cls ≠ "java/lang/invoke/MethodHandle" ∧ yX3_hasLife.cls ≠ "java/lang/invoke/VarHandle" ∧ (parseMethodDescriptor yX3_hasLife.desc).map (fun d => d.parameters.length) = some 1 := by decide +kernel
set_option maxHeartbeats 4000000 in
set_option maxRecDepth 100000 in
theorem K_X3_hasLife (l : Launch) (E : EE) (ad : Nat → Nat) (n : Nat) (hI : ad_I ad n) (hn : 117 ≤ n) (sz : Nat) (c0 : Nat) (a1 : Int32) (P0 : ok 3 n c0) (M : MM) (r : Bool) (hf : F_X3_hasLife c0 a1 M = r) : CtI l yX3_hasLife cX3_hasLife 2 0 0 .boolean E (entC E ad n M) (entC E ad n M) ad n sz [.ref (ad c0), .int a1] (bI r) := by
  unfold CtI
  refine body_of (by decide) "SurvivorPurse$Share" rfl (Nat.le_of_ble_eq_true rfl) ?_
  intro p e s m below meth c hsz S hr hlk hP hK hN ls hl
  subst hsz
  have hS : va_S (AA ad n s.heap.size) s.heap s.heap [] := va_S.rf
  have hl : lv_has ls 2 [(0, .ref (ad c0)), (1, .int a1)] := hl
  rw [F_X3_hasLife] at hf
  refine lv_aload_n S.1 S.2.1 dX3_hasLife_0 rfl (lv_at hl 0 rfl) ?_
  refine x_get (v := .int (gI M c0 1)) S hK hP w_lay_X3 (ci := 3) rfl c0 (ok_lt P0) (e3 P0.1) 1 (by decide) w_fl_X3_51 rfl rfl dX3_hasLife_1 ?_
  refine lv_iload_n S.1 S.2.1 dX3_hasLife_4 rfl (lv_at hl 1 rfl) ?_
  refine lv_icmp_eq (tgt := 16) S.1 S.2.1 dX3_hasLife_5 (by decide) (fun h1 => ?_) (fun h1 => ?_)
  · replace hf := ift h1 hf
    refine lv_iconst (v := (1 : Int32)) S.1 S.2.1 dX3_hasLife_16 (by decide) ?_
    refine lv_goto (tgt := 21) S.1 S.2.1 dX3_hasLife_17 (by decide) ?_
    subst hf
    exact r_z S hr hlk hP hS dX3_hasLife_21
  · replace hf := iff_ h1 hf
    refine lv_aload_n S.1 S.2.1 dX3_hasLife_8 rfl (lv_at hl 0 rfl) ?_
    refine x_get (v := .int (gI M c0 2)) S hK hP w_lay_X3 (ci := 3) rfl c0 (ok_lt P0) (e3 P0.1) 2 (by decide) w_fl_X3_54 rfl rfl dX3_hasLife_9 ?_
    refine lv_iload_n S.1 S.2.1 dX3_hasLife_12 rfl (lv_at hl 1 rfl) ?_
    refine lv_icmp_ne (tgt := 20) S.1 S.2.1 dX3_hasLife_13 (by decide) (fun h2 => ?_) (fun h2 => ?_)
    · replace hf := iff_ h2 hf
      refine lv_iconst (v := (0 : Int32)) S.1 S.2.1 dX3_hasLife_20 (by decide) ?_
      subst hf
      exact r_z S hr hlk hP hS dX3_hasLife_21
    · replace hf := ift h2 hf
      refine lv_iconst (v := (1 : Int32)) S.1 S.2.1 dX3_hasLife_16 (by decide) ?_
      refine lv_goto (tgt := 21) S.1 S.2.1 dX3_hasLife_17 (by decide) ?_
      subst hf
      exact r_z S hr hlk hP hS dX3_hasLife_21
theorem hd_X3_drewIn : yX3_drewIn.cls ≠ "java/lang/invoke/MethodHandle" ∧ yX3_drewIn.cls ≠ "java/lang/invoke/VarHandle" ∧ (parseMethodDescriptor yX3_drewIn.desc).map (fun d => d.parameters.length) = some 2 := by decide +kernel
set_option maxHeartbeats 4000000 in
set_option maxRecDepth 100000 in
theorem L_X3_drewIn_9 (l : Launch) (E : EE) (ad : Nat → Nat) (n : Nat) (hI : ad_I ad n) (hn : 117 ≤ n) (N : Nat) (c0 : Nat) (a1 : Int32) (a2 : Int32) (P0 : ok 3 n c0) {p : Program} {e : Env} {s : State} {m : MethodId} {below : List Frame} {meth : Method} {c : Code} (S : CallFix p m c cX3_drewIn 6 s [.ref (ad c0), .int a1, .int a2].toArray bg_B "SurvivorPurse$Share") (hr : meth.sig.returnType = (some .long)) (hlk : meth.locks = false) (hK : va_K E.1 vwCl (tysE E) s) (hN : NW s) (r : Int64) : ∀ (fu : Nat) (v3 : Int64) (v5 : Int32)  (M : MM), F_X3_drewIn_9 N c0 a1 a2 fu v3 v5 M = some r → ∀ (H : Heap) (locs : List Loc) (ls : Array Slot), va_P E.1 vwCl (mw (entC E ad n M) ad n) H → va_S (AA ad n s.heap.size) s.heap H locs → lv_has ls 6 [(0, .ref (ad c0)), (2, .int a2), (3, .long v3), (5, .int v5)] → W p l e { frames := 1, cells := 0, slots := 0, locals := 30 } s m [.ref (ad c0), .int a1, .int a2].toArray below meth c H locs 0 0 (MQ below (va_Ql (fun r0 (_ : Unit) => r0 = r) (fun _ t => QB E (entC E ad n M) ad n t) (AA ad n s.heap.size)) [.ref (ad c0), .int a1, .int a2].toArray s 0 0 (AA ad n s.heap.size)) (F0 m 9 ls []) := by
  intro fu
  induction fu with
  | zero =>
    intro v3 v5 M hf
    rw [F_X3_drewIn_9] at hf
    cases hf
  | succ fu ih =>
    intro v3 v5 M hf H locs ls hP hS hl
    rw [F_X3_drewIn_9] at hf
    refine lv_iload S.1 S.2.1 dX3_drewIn_9 (lv_at hl 3 rfl) ?_
    refine lv_iload_n S.1 S.2.1 dX3_drewIn_11 rfl (lv_at hl 1 rfl) ?_
    refine lv_icmp_ge (tgt := 38) S.1 S.2.1 dX3_drewIn_12 (by decide) (fun h2 => ?_) (fun h2 => ?_)
    · replace hf := ift h2 hf
      refine lv_lload_n S.1 S.2.1 dX3_drewIn_38 rfl (lv_at hl 2 rfl) ?_
      cases hf
      exact r_l S hr hlk hP hS dX3_drewIn_39
    · replace hf := iff_ h2 hf
      refine lv_iload S.1 S.2.1 dX3_drewIn_15 (lv_at hl 3 rfl) ?_
      refine lv_bipush (v := (60 : Int32)) S.1 S.2.1 dX3_drewIn_17 (by decide) ?_
      refine lv_icmp_ge (tgt := 38) S.1 S.2.1 dX3_drewIn_19 (by decide) (fun h3 => ?_) (fun h3 => ?_)
      · replace hf := ift h3 hf
        refine lv_lload_n S.1 S.2.1 dX3_drewIn_38 rfl (lv_at hl 2 rfl) ?_
        cases hf
        exact r_l S hr hlk hP hS dX3_drewIn_39
      · replace hf := iff_ h3 hf
        refine lv_lload_n S.1 S.2.1 dX3_drewIn_22 rfl (lv_at hl 2 rfl) ?_
        refine lv_aload_n S.1 S.2.1 dX3_drewIn_23 rfl (lv_at hl 0 rfl) ?_
        refine x_get (v := .ref (ad (c0 + 40))) S hK hP w_lay_X3 (ci := 3) rfl c0 (ok_lt P0) (e3 P0.1) 15 (by decide) w_fl_X3_9 rfl rfl dX3_drewIn_24 ?_
        refine lv_iload S.1 S.2.1 dX3_drewIn_27 (lv_at hl 3 rfl) ?_
        obtain ⟨h4, hf⟩ := gd_some hf
        refine x_lald S hK hP (c0 + 40) (ok_lt (ok_dr P0)) (e8 (ok_dr P0).1) h4 dX3_drewIn_29 ?_
        refine lv_ladd S.1 S.2.1 dX3_drewIn_30 ?_
        obtain ⟨x5, ex5, hf⟩ := bnd_some hf
        refine lv_rel ex5 ?_
        refine lv_lstore_n (lv' := [(3, .long x5), (0, .ref (ad c0)), (2, .int a2), (5, .int v5)]) S.1 S.2.1 dX3_drewIn_31 rfl hl (by decide) rfl (fun ls hl => ?_)
        refine lv_iinc (v := v5 + (1 : Int32)) (lv' := [(5, .int (v5 + (1 : Int32))), (3, .long x5), (0, .ref (ad c0)), (2, .int a2)]) S.1 S.2.1 dX3_drewIn_32 hl (k := 3) rfl rfl (by decide) rfl (fun ls hl => ?_)
        refine lv_goto (tgt := 9) S.1 S.2.1 dX3_drewIn_35 (by decide) ?_
        exact ih x5 (v5 + (1 : Int32))  M hf _ _ _ hP hS (lv_sub hl [2, 3, 1, 0] rfl)
set_option maxHeartbeats 4000000 in
set_option maxRecDepth 100000 in
theorem K_X3_drewIn (l : Launch) (E : EE) (ad : Nat → Nat) (n : Nat) (hI : ad_I ad n) (hn : 117 ≤ n) (sz : Nat) (N : Nat) (c0 : Nat) (a1 : Int32) (a2 : Int32) (P0 : ok 3 n c0) (M : MM) (r : Int64) (hf : F_X3_drewIn N c0 a1 a2 M = some r) : CtL l yX3_drewIn cX3_drewIn 6 1 30 E (entC E ad n M) (entC E ad n M) ad n sz [.ref (ad c0), .int a1, .int a2] (r) := by
  unfold CtL
  refine body_of (by decide) "SurvivorPurse$Share" rfl (Nat.le_of_ble_eq_true rfl) ?_
  intro p e s m below meth c hsz S hr hlk hP hK hN ls hl
  subst hsz
  have hS : va_S (AA ad n s.heap.size) s.heap s.heap [] := va_S.rf
  have hl : lv_has ls 6 [(0, .ref (ad c0)), (1, .int a1), (2, .int a2)] := hl
  rw [F_X3_drewIn] at hf
  refine lv_lconst (v := (0 : Int64)) S.1 S.2.1 dX3_drewIn_0 (by decide) ?_
  refine lv_lstore_n (lv' := [(3, .long (0 : Int64)), (0, .ref (ad c0)), (1, .int a1), (2, .int a2)]) S.1 S.2.1 dX3_drewIn_1 rfl hl (by decide) rfl (fun ls hl => ?_)
  refine lv_iload_n S.1 S.2.1 dX3_drewIn_2 rfl (lv_at hl 2 rfl) ?_
  refine lv_iconst (v := (0 : Int32)) S.1 S.2.1 dX3_drewIn_3 (by decide) ?_
  refine x_mx S hl.1 w_ml_X3_57 (Nat.le_of_ble_eq_true rfl) (Nat.le_of_ble_eq_true rfl) (Nat.zero_le _) (Nat.zero_le _) dX3_drewIn_4 ?_
  obtain ⟨x1, ex1, hf⟩ := bnd_some hf
  refine lv_rei ex1 ?_
  refine lv_istore (lv' := [(5, .int x1), (3, .long (0 : Int64)), (0, .ref (ad c0)), (1, .int a1), (2, .int a2)]) S.1 S.2.1 dX3_drewIn_7 hl (by decide) rfl (fun ls hl => ?_)
  exact L_X3_drewIn_9 l E ad n hI hn N c0 a1 a2 P0 S hr hlk hK hN _ N (0 : Int64) x1  M hf _ _ _ hP hS (lv_sub hl [2, 4, 1, 0] rfl)
theorem hd_X3_heldAt : yX3_heldAt.cls ≠ "java/lang/invoke/MethodHandle" ∧ yX3_heldAt.cls ≠ "java/lang/invoke/VarHandle" ∧ (parseMethodDescriptor yX3_heldAt.desc).map (fun d => d.parameters.length) = some 1 := by decide +kernel
set_option maxHeartbeats 4000000 in
set_option maxRecDepth 100000 in
theorem K_X3_heldAt (l : Launch) (E : EE) (ad : Nat → Nat) (n : Nat) (hI : ad_I ad n) (hn : 117 ≤ n) (sz : Nat) (N : Nat) (c0 : Nat) (a1 : Int32) (P0 : ok 3 n c0) (M : MM) (r : Int64) (hf : F_X3_heldAt N c0 a1 M = some r) : CtL l yX3_heldAt cX3_heldAt 2 2 55 E (entC E ad n M) (entC E ad n M) ad n sz [.ref (ad c0), .int a1] (r) := by
  unfold CtL
  refine body_of (by decide) "SurvivorPurse$Share" rfl (Nat.le_of_ble_eq_true rfl) ?_
  intro p e s m below meth c hsz S hr hlk hP hK hN ls hl
  subst hsz
  have hS : va_S (AA ad n s.heap.size) s.heap s.heap [] := va_S.rf
  have hl : lv_has ls 2 [(0, .ref (ad c0)), (1, .int a1)] := hl
  rw [F_X3_heldAt] at hf
  refine lv_aload_n S.1 S.2.1 dX3_heldAt_0 rfl (lv_at hl 0 rfl) ?_
  refine lv_aload_n S.1 S.2.1 dX3_heldAt_1 rfl (lv_at hl 0 rfl) ?_
  refine x_get (v := .int (gI M c0 14)) S hK hP w_lay_X3 (ci := 3) rfl c0 (ok_lt P0) (e3 P0.1) 14 (by decide) w_fl_X3_42 rfl rfl dX3_heldAt_2 ?_
  refine lv_iload_n S.1 S.2.1 dX3_heldAt_5 rfl (lv_at hl 1 rfl) ?_
  obtain ⟨x1, gx1, hf⟩ := bn1_some hf
  refine y_Vl (As := [.int (gI M c0 14), .int a1]) S hK hN hP hS rfl (ok_lt P0) (e3 P0.1) rfl (K_X3_drewIn l E ad n hI hn _ N c0 (gI M c0 14) a1 P0 M x1 gx1) (cV 2 S w_co_yX3_drewIn w_in_X3 w_ml_X3_63 w_im_yX3_drewIn w_se_yX3_drewIn hd_X3_drewIn ⟨Nat.le_of_ble_eq_true rfl, Nat.le_of_ble_eq_true rfl⟩) hl.1 rfl rfl (Nat.le_of_ble_eq_true rfl) dX3_heldAt_6 ⟨Nat.zero_le _, Nat.zero_le _⟩ (fun H locs hP hS => ?_)
  cases hf
  exact r_l S hr hlk hP hS dX3_heldAt_9
theorem hd_X3_release : yX3_release.cls ≠ "java/lang/invoke/MethodHandle" ∧ yX3_release.cls ≠ "java/lang/invoke/VarHandle" ∧ (parseMethodDescriptor yX3_release.desc).map (fun d => d.parameters.length) = some 1 := by decide +kernel
set_option maxHeartbeats 4000000 in
set_option maxRecDepth 100000 in
theorem K_X3_release (l : Launch) (E : EE) (ad : Nat → Nat) (n : Nat) (hI : ad_I ad n) (hn : 117 ≤ n) (sz : Nat) (N : Nat) (c0 : Nat) (a1 : Int32) (P0 : ok 3 n c0) (M : MM) (r : Int64) (M' : MM) (hf : F_X3_release N c0 a1 M = some (r, M')) : CtL l yX3_release cX3_release 4 3 76 E (entC E ad n M) (entC E ad n M') ad n sz [.ref (ad c0), .int a1] (r) := by
  unfold CtL
  refine body_of (by decide) "SurvivorPurse$Share" rfl (Nat.le_of_ble_eq_true rfl) ?_
  intro p e s m below meth c hsz S hr hlk hP hK hN ls hl
  subst hsz
  have hS : va_S (AA ad n s.heap.size) s.heap s.heap [] := va_S.rf
  have hl : lv_has ls 4 [(0, .ref (ad c0)), (1, .int a1)] := hl
  rw [F_X3_release] at hf
  refine lv_aload_n S.1 S.2.1 dX3_release_0 rfl (lv_at hl 0 rfl) ?_
  refine lv_iload_n S.1 S.2.1 dX3_release_1 rfl (lv_at hl 1 rfl) ?_
  obtain ⟨x1, gx1, hf⟩ := bn1_some hf
  refine y_Vl (As := [.int a1]) S hK hN hP hS rfl (ok_lt P0) (e3 P0.1) rfl (K_X3_heldAt l E ad n hI hn _ N c0 a1 P0 M x1 gx1) (cV 1 S w_co_yX3_heldAt w_in_X3 w_ml_X3_71 w_im_yX3_heldAt w_se_yX3_heldAt hd_X3_heldAt ⟨Nat.le_of_ble_eq_true rfl, Nat.le_of_ble_eq_true rfl⟩) hl.1 rfl rfl (Nat.le_of_ble_eq_true rfl) dX3_release_2 ⟨Nat.zero_le _, Nat.zero_le _⟩ (fun H locs hP hS => ?_)
  refine lv_lstore_n (lv' := [(2, .long x1), (0, .ref (ad c0)), (1, .int a1)]) S.1 S.2.1 dX3_release_5 rfl hl (by decide) rfl (fun ls hl => ?_)
  refine lv_aload_n S.1 S.2.1 dX3_release_6 rfl (lv_at hl 1 rfl) ?_
  refine lv_iload_n S.1 S.2.1 dX3_release_7 rfl (lv_at hl 2 rfl) ?_
  refine x_put S hI hK hP hS w_lay_X3 tyX3 tyX3_ok nmX3 (ci := 3) rfl c0 (ok_lt P0) (e3 P0.1) 14 (by decide) w_fl_X3_42 rfl rfl rfl rfl (Nat.le_of_ble_eq_true rfl) (entC E ad n (sI M c0 14 a1)) (h1_X3_14 P0.1 ) (fun _ h => entC_sI _ h) dX3_release_8 (fun H locs hP hS => ?_)
  obtain ⟨M2, eM2, hf⟩ := bnd_some hf
  rw [← eM2] at hP
  refine lv_lload_n S.1 S.2.1 dX3_release_11 rfl (lv_at hl 0 rfl) ?_
  cases hf
  exact r_l S hr hlk hP hS dX3_release_12

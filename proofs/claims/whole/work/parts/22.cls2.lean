def F_X0_addRank (N : Nat) (a1 : Int32) (a2 : Int32) (a3 : Int32) (M : MM) : Option (Int32 × MM) :=
  gd (ib (gI M 1 5) 6) (
  bn1 (F_X2_begin N (31 + (ix (gI M 1 5))) a1 a2 a3 M) (fun M2 =>
  bnd (sI M2 1 5 ((gI M2 1 5) + (1 : Int32))) (fun M3 =>
  some ((gI M3 1 5) - (1 : Int32), M3)
  )))
def F_X0_rankFor_35 (N : Nat) (a1 : Int32) (a2 : Int32) : Nat → Int32 → Int32 → MM → Option Int32
  | 0, _, _, _ => none
  | fu + 1, v3, v4, M =>
    if gI M 1 5 ≤ v4 then
      some (-1 : Int32)
    else
      gd (ib v4 6) (
      if bI (F_X5_isWithin ((gI M 1 7) - v3) (gI M (31 + (ix v4)) 0) (gI M (31 + (ix v4)) 1)) = (0 : Int32) then
        F_X0_rankFor_35 N a1 a2 fu v3 (v4 + (1 : Int32)) M
      else
        some v4
      )
def F_X0_rankFor (N : Nat) (a1 : Int32) (a2 : Int32) (M : MM) : Option Int32 :=
  gd (ib a1 24) (
  bnd (gI M (7 + (ix a1)) 0) (fun x2 =>
  if bI (F_X0_isMember a2 M) = (0 : Int32) then
    F_X0_rankFor_35 N a1 a2 N x2 (0 : Int32) M
  else
    gd (ib a2 24) (
    bnd (mxI x2 (gI M (7 + (ix a2)) 0)) (fun x5 =>
    F_X0_rankFor_35 N a1 a2 N x5 (0 : Int32) M
    ))
  ))
def F_X0_payOut (N : Nat) (c1 : Nat) (a2 : Int64) (M : MM) : Option MM :=
  gd (ib (gI M c1 0) 24) (
  bnd (F_X5_parted a2 ((gI M 1 9).toInt64) (1000 : Int64)) (fun x2 =>
  bnd (a2 - x2) (fun x3 =>
  bnd (mnL x3 (gL M (7 + (ix (gI M c1 0))) 2)) (fun x4 =>
  bnd (x3 - x4) (fun x5 =>
  if bI (F_X0_isMember (gI M c1 12) M) = (0 : Int32) then
    bnd (x5 - (0 : Int64)) (fun x7 =>
    bnd (sL M 1 11 ((gL M 1 11) + x2)) (fun M8 =>
    bnd (sL M8 (7 + (ix (gI M c1 0))) 2 ((gL M8 (7 + (ix (gI M c1 0))) 2) - x4)) (fun M9 =>
    bnd (sL M9 1 10 ((gL M9 1 10) + x4)) (fun M10 =>
    if bI (F_X0_isMember (gI M10 c1 12) M10) = (0 : Int32) then
      bnd (sL M10 (7 + (ix (gI M c1 0))) 1 ((gL M10 (7 + (ix (gI M c1 0))) 1) + x7)) (fun M12 =>
      bnd (sL M12 c1 7 ((gL M12 c1 7) + a2)) (fun M13 =>
      some M13
      ))
    else
      bnd (sL M10 c1 11 ((gL M10 c1 11) - (0 : Int64))) (fun M14 =>
      gd (ib (gI M14 c1 12) 24) (
      bnd (sL M14 (7 + (ix (gI M14 c1 12))) 1 ((gL M14 (7 + (ix (gI M14 c1 12))) 1) + (0 : Int64))) (fun M16 =>
      bnd (sL M16 (7 + (ix (gI M c1 0))) 1 ((gL M16 (7 + (ix (gI M c1 0))) 1) + x7)) (fun M17 =>
      bnd (sL M17 c1 7 ((gL M17 c1 7) + a2)) (fun M18 =>
      some M18
      )))))
    ))))
  else
    bnd (mnL x5 (gL M c1 11)) (fun x19 =>
    bnd (x5 - x19) (fun x20 =>
    bnd (sL M 1 11 ((gL M 1 11) + x2)) (fun M21 =>
    bnd (sL M21 (7 + (ix (gI M c1 0))) 2 ((gL M21 (7 + (ix (gI M c1 0))) 2) - x4)) (fun M22 =>
    bnd (sL M22 1 10 ((gL M22 1 10) + x4)) (fun M23 =>
    if bI (F_X0_isMember (gI M23 c1 12) M23) = (0 : Int32) then
      bnd (sL M23 (7 + (ix (gI M c1 0))) 1 ((gL M23 (7 + (ix (gI M c1 0))) 1) + x20)) (fun M25 =>
      bnd (sL M25 c1 7 ((gL M25 c1 7) + a2)) (fun M26 =>
      some M26
      ))
    else
      bnd (sL M23 c1 11 ((gL M23 c1 11) - x19)) (fun M27 =>
      gd (ib (gI M27 c1 12) 24) (
      bnd (sL M27 (7 + (ix (gI M27 c1 12))) 1 ((gL M27 (7 + (ix (gI M27 c1 12))) 1) + x19)) (fun M29 =>
      bnd (sL M29 (7 + (ix (gI M c1 0))) 1 ((gL M29 (7 + (ix (gI M c1 0))) 1) + x20)) (fun M30 =>
      bnd (sL M30 c1 7 ((gL M30 c1 7) + a2)) (fun M31 =>
      some M31
      )))))
    )))))
  )))))
def F_X0_payHeld (N : Nat) (c1 : Nat) (M : MM) : Option (Int64 × MM) :=
  bn2 (F_X3_release N c1 (gI M 1 7) M) (fun x2 M1 =>
  bn1 (F_X0_payOut N c1 x2 M1) (fun M3 =>
  some (x2, M3)
  ))
def F_X0_prove_15 (N : Nat) (a1 : Int32) : Nat → Int64 → Int32 → MM → Option (Int64 × MM)
  | 0, _, _, _ => none
  | fu + 1, v2, v4, M =>
    if gI M 1 6 ≤ v4 then
      some (v2, M)
    else
      gd (ib v4 40) (
      if bI (F_X3_hasLife (37 + (ix v4)) a1 M) = (0 : Int32) then
        F_X0_prove_15 N a1 fu v2 (v4 + (1 : Int32)) M
      else
        bn2 (F_X0_payHeld N (37 + (ix v4)) M) (fun x7 M6 =>
        bnd (v2 + x7) (fun x8 =>
        bnd (sI M6 (37 + (ix v4)) 10 (0 : Int32)) (fun M9 =>
        F_X0_prove_15 N a1 fu x8 (v4 + (1 : Int32)) M9
        )))
      )
def F_X0_prove (N : Nat) (a1 : Int32) (M : MM) : Option (Int64 × MM) :=
  gd (ib a1 24) (
  bnd (sI M (7 + (ix a1)) 4 (1 : Int32)) (fun M2 =>
  F_X0_prove_15 N a1 N (0 : Int64) (0 : Int32) M2
  ))
def F_X0_partPot_33 (N : Nat) (a1 : Int32) : Nat → Int64 → Int64 → Int32 → MM → Option MM
  | 0, _, _, _, _ => none
  | fu + 1, v2, v4, v6, M =>
    if gI M 1 5 ≤ v6 then
      some M
    else
      gd (ib v6 6) (
      bn1 (F_X0_drawingUnits N v6 M) (fun x6 =>
      bnd (sL M (31 + (ix v6)) 5 x6) (fun M7 =>
      bnd (sL M7 (31 + (ix v6)) 4 (v4 + (F_X5_parted (gL M7 1 10) (gL M7 (31 + (ix v6)) 3) v2))) (fun M8 =>
      if gL M8 (31 + (ix v6)) 5 ≤ (0 : Int64) then
        bnd (gL M8 (31 + (ix v6)) 4) (fun x10 =>
        F_X0_partPot_33 N a1 fu v2 x10 (v6 + (1 : Int32)) M8
        )
      else
        F_X0_partPot_33 N a1 fu v2 (0 : Int64) (v6 + (1 : Int32)) M8
      ))))
def F_X0_partPot (N : Nat) (a1 : Int32) (M : MM) : Option MM :=
  bnd (sL M 1 10 ((gL M 1 10) + a1.toInt64)) (fun M1 =>
  bnd (sL M1 1 12 ((gL M1 1 12) + a1.toInt64)) (fun M2 =>
  bn1 (F_X0_allStocks N  M2) (fun x3 =>
  F_X0_partPot_33 N a1 N x3 (0 : Int64) (0 : Int32) M2
  )))
def F_X0_giveBack_2 (N : Nat)  : Nat → Int32 → MM → Option MM
  | 0, _, _ => none
  | fu + 1, v1, M =>
    if gI M 1 6 ≤ v1 then
      some M
    else
      gd (ib v1 40) (
      if gI M (37 + (ix v1)) 5 = (3 : Int32) then
        if bo (gI M (37 + (ix v1)) 13) = (0 : Int32) then
          bn1 (F_X0_howItIs N (37 + (ix v1)) M) (fun x5 =>
          if x5 = (3 : Int32) then
            bnd (sI M (37 + (ix v1)) 13 (1 : Int32)) (fun M7 =>
            bn1 (F_X0_giveBackOf N (37 + (ix v1)) M7) (fun M8 =>
            F_X0_giveBack_2 N  fu (v1 + (1 : Int32)) M8
            ))
          else
            F_X0_giveBack_2 N  fu (v1 + (1 : Int32)) M
          )
        else
          F_X0_giveBack_2 N  fu (v1 + (1 : Int32)) M
      else
        F_X0_giveBack_2 N  fu (v1 + (1 : Int32)) M
      )
def F_X0_giveBack (N : Nat)  (M : MM) : Option MM :=
  F_X0_giveBack_2 N  N (0 : Int32) M
def F_X0_allHeld_4 (N : Nat)  : Nat → Int64 → Int32 → MM → Option Int64
  | 0, _, _, _ => none
  | fu + 1, v1, v3, M =>
    if gI M 1 6 ≤ v3 then
      some v1
    else
      gd (ib v3 40) (
      bn1 (F_X3_heldAt N (37 + (ix v3)) (gI M 1 7) M) (fun x3 =>
      bnd (v1 + x3) (fun x4 =>
      F_X0_allHeld_4 N  fu x4 (v3 + (1 : Int32)) M
      )))
def F_X0_allHeld (N : Nat)  (M : MM) : Option Int64 :=
  F_X0_allHeld_4 N  N (0 : Int64) (0 : Int32) M
def F_X3_begin (N : Nat) (c0 : Nat) (a1 : Int32) (M : MM) : Option MM :=
  bnd (sI M c0 5 (0 : Int32)) (fun M1 =>
  bnd (sL M1 c0 7 (0 : Int64)) (fun M2 =>
  bnd (sI M2 c0 8 a1) (fun M3 =>
  bnd (sI M3 c0 9 a1) (fun M4 =>
  bnd (sI M4 c0 10 (0 : Int32)) (fun M5 =>
  bnd (sL M5 c0 11 (0 : Int64)) (fun M6 =>
  bnd (sI M6 c0 12 (-1 : Int32)) (fun M7 =>
  bnd (sI M7 c0 13 (0 : Int32)) (fun M8 =>
  bnd (sI M8 c0 14 a1) (fun M9 =>
  bn1 (F_J7_fill_d0a16 N (c0 + 40) (0 : Int64) M9) (fun M10 =>
  some M10
  ))))))))))
def F_X3_note (N : Nat) (c0 : Nat) (a1 : Int32) (a2 : Int64) (M : MM) : Option MM :=
  if bI (F_X5_isWithin a1 (0 : Int32) (59 : Int32)) = (0 : Int32) then
    some M
  else
    gd (ib a1 60) (
    bnd (sL M (c0 + 40) (ix a1) a2) (fun M3 =>
    some M3
    ))
def F_X3_forgetHeldAbove_22 (N : Nat) (c0 : Nat) (a1 : Int32) (a2 : Int32) : Nat → Int64 → Int32 → MM → Option (Int64 × MM)
  | 0, _, _, _ => none
  | fu + 1, v4, v6, M =>
    if a2 ≤ v6 then
      some (v4, M)
    else
      bn1 (F_X3_note N c0 v6 (0 : Int64) M) (fun M4 =>
      F_X3_forgetHeldAbove_22 N c0 a1 a2 fu v4 (v6 + (1 : Int32)) M4
      )
def F_X3_forgetHeldAbove (N : Nat) (c0 : Nat) (a1 : Int32) (a2 : Int32) (M : MM) : Option (Int64 × MM) :=
  bnd (mxI (gI M c0 14) (a1 + (1 : Int32))) (fun x1 =>
  bn1 (F_X3_drewIn N c0 x1 a2 M) (fun x2 =>
  F_X3_forgetHeldAbove_22 N c0 a1 a2 N x2 x1 M
  ))
def F_X3_shrinkTo_56 (N : Nat) (c0 : Nat) (a1 : Int32) : Nat → Int32 → MM → Option MM
  | 0, _, _ => none
  | fu + 1, v2, M =>
    if (60 : Int32) ≤ v2 then
      bnd (sI M c0 3 a1) (fun M5 =>
      some M5
      )
    else
      gd (ib v2 60) (
      bnd (sL M (c0 + 40) (ix v2) (F_X5_parted (gL M (c0 + 40) (ix v2)) a1.toInt64 ((gI M c0 3).toInt64))) (fun M7 =>
      F_X3_shrinkTo_56 N c0 a1 fu (v2 + (1 : Int32)) M7
      ))
def F_X3_shrinkTo (N : Nat) (c0 : Nat) (a1 : Int32) (M : MM) : Option MM :=
  bnd (sL M c0 6 (F_X5_parted (gL M c0 6) a1.toInt64 ((gI M c0 3).toInt64))) (fun M1 =>
  bnd (sL M1 c0 7 (F_X5_parted (gL M1 c0 7) a1.toInt64 ((gI M1 c0 3).toInt64))) (fun M2 =>
  bnd (sL M2 c0 11 (F_X5_parted (gL M2 c0 11) a1.toInt64 ((gI M2 c0 3).toInt64))) (fun M3 =>
  F_X3_shrinkTo_56 N c0 a1 N (0 : Int32) M3
  )))
def F_X4_at (N : Nat) (c0 : Nat) (a1 : Int32) (M : MM) : Option Int64 :=
  if bI (F_X5_isAge a1) = (0 : Int32) then
    some (0 : Int64)
  else
    gd (ib a1 111) (
    some ((gI M (c0 + 1) (ix a1)).toInt64)
    )
def F_X4_fits_17 (N : Nat) (c0 : Nat) (a1 : Int32) (a2 : Int32)  (M : MM) : Option Bool :=
    if (110 : Int32) ≤ a1 then
      some true
    else
      bn1 (F_X4_at N c0 (a1 + (1 : Int32)) M) (fun x8 =>
      if a2.toInt64 < x8 then
        some false
      else
        some true
      )
def F_X4_fits (N : Nat) (c0 : Nat) (a1 : Int32) (a2 : Int32) (M : MM) : Option Bool :=
  if a1 ≤ (0 : Int32) then
    F_X4_fits_17 N c0 a1 a2   M
  else
    bn1 (F_X4_at N c0 (a1 - (1 : Int32)) M) (fun x2 =>
    if x2 < a2.toInt64 then
      if (110 : Int32) ≤ a1 then
        some false
      else
        bn1 (F_X4_at N c0 (a1 + (1 : Int32)) M) (fun x5 =>
        if a2.toInt64 < x5 then
          some false
        else
          some false
        )
    else
      F_X4_fits_17 N c0 a1 a2   M
    )
def F_X4_replace (N : Nat) (c0 : Nat) (a1 : Int32) (a2 : Int32) (M : MM) : Option (Int64 × MM) :=
  bn1 (F_X4_at N c0 a1 M) (fun x1 =>
  if bI (F_X5_isAge a1) = (0 : Int32) then
    some (x1, M)
  else
    gd (ib a1 111) (
    bnd (sI M (c0 + 1) (ix a1) a2) (fun M4 =>
    some (x1, M4)
    ))
  )
theorem hd_X0_addRank : yX0_addRank.cls ≠ "java/lang/invoke/MethodHandle" ∧ yX0_addRank.cls ≠ "java/lang/invoke/VarHandle" ∧ (parseMethodDescriptor yX0_addRank.desc).map (fun d => d.parameters.length) = some 3 := by decide +kernel
set_option maxHeartbeats 4000000 in
set_option maxRecDepth 100000 in
theorem K_X0_addRank (l : Launch) (E : EE) (ad : Nat → Nat) (n : Nat) (hI : ad_I ad n) (hn : 117 ≤ n) (sz : Nat) (N : Nat) (a1 : Int32) (a2 : Int32) (a3 : Int32)  (M : MM) (r : Int32) (M' : MM) (hf : F_X0_addRank N a1 a2 a3 M = some (r, M')) : CtI l yX0_addRank cX0_addRank 4 1 23 .int E (entC E ad n M) (entC E ad n M') ad n sz [.ref (ad 1), .int a1, .int a2, .int a3] (r) := by
  unfold CtI
  refine body_of (by decide) "SurvivorPurse$Book" rfl (Nat.le_of_ble_eq_true rfl) ?_
  intro p e s m below meth c hsz S hr hlk hP hK hN ls hl
  subst hsz
  have hS : va_S (AA ad n s.heap.size) s.heap s.heap [] := va_S.rf
  have hl : lv_has ls 4 [(0, .ref (ad 1)), (1, .int a1), (2, .int a2), (3, .int a3)] := hl
  rw [F_X0_addRank] at hf
  refine lv_aload_n S.1 S.2.1 dX0_addRank_0 rfl (lv_at hl 0 rfl) ?_
  refine x_get (v := .ref (ad 5)) S hK hP w_lay_X0 (ci := 0) rfl 1 (ok_lt (ok_b1 hn)) (e0 (ok_b1 hn).1) 2 (by decide) w_fl_X0_26 rfl rfl dX0_addRank_1 ?_
  refine lv_aload_n S.1 S.2.1 dX0_addRank_4 rfl (lv_at hl 0 rfl) ?_
  refine x_get (v := .int (gI M 1 5)) S hK hP w_lay_X0 (ci := 0) rfl 1 (ok_lt (ok_b1 hn)) (e0 (ok_b1 hn).1) 5 (by decide) w_fl_X0_50 rfl rfl dX0_addRank_5 ?_
  obtain ⟨h1, hf⟩ := gd_some hf
  refine x_aald S hK hP 5 (ok_lt (ok_ra1 hn)) e10_1 3 rfl h1 dX0_addRank_8 ?_
  refine lv_iload_n S.1 S.2.1 dX0_addRank_9 rfl (lv_at hl 1 rfl) ?_
  refine lv_iload_n S.1 S.2.1 dX0_addRank_10 rfl (lv_at hl 2 rfl) ?_
  refine lv_iload_n S.1 S.2.1 dX0_addRank_11 rfl (lv_at hl 3 rfl) ?_
  obtain ⟨M2, gM2, hf⟩ := bn1_some hf
  refine y_Vv (As := [.int a1, .int a2, .int a3]) S hK hN hP hS rfl (ok_lt (ok_r1 hn (ib_lt h1))) (e2 (ok_r1 hn (ib_lt h1)).1) rfl (K_X2_begin l E ad n hI hn _ N (31 + (ix (gI M 1 5))) a1 a2 a3 (ok_r1 hn (ib_lt h1)) M M2 gM2) (cV 3 S w_co_yX2_begin w_in_X2 w_ml_X0_85 w_im_yX2_begin w_se_yX2_begin hd_X2_begin ⟨Nat.le_of_ble_eq_true rfl, Nat.le_of_ble_eq_true rfl⟩) hl.1 rfl rfl (Nat.le_of_ble_eq_true rfl) dX0_addRank_12 ⟨Nat.zero_le _, Nat.zero_le _⟩ (fun H locs hP hS => ?_)
  refine lv_aload_n S.1 S.2.1 dX0_addRank_15 rfl (lv_at hl 0 rfl) ?_
  refine lv_dup S.1 S.2.1 dX0_addRank_16 rfl ?_
  refine x_get (v := .int (gI M2 1 5)) S hK hP w_lay_X0 (ci := 0) rfl 1 (ok_lt (ok_b1 hn)) (e0 (ok_b1 hn).1) 5 (by decide) w_fl_X0_50 rfl rfl dX0_addRank_17 ?_
  refine lv_iconst (v := (1 : Int32)) S.1 S.2.1 dX0_addRank_20 (by decide) ?_
  refine lv_iadd S.1 S.2.1 dX0_addRank_21 ?_
  refine x_put S hI hK hP hS w_lay_X0 tyX0 tyX0_ok nmX0 (ci := 0) rfl 1 (ok_lt (ok_b1 hn)) (e0 (ok_b1 hn).1) 5 (by decide) w_fl_X0_50 rfl rfl rfl rfl (Nat.le_of_ble_eq_true rfl) (entC E ad n (sI M2 1 5 ((gI M2 1 5) + (1 : Int32)))) (h1_X0_5 (ok_b1 hn).1 ) (fun _ h => entC_sI _ h) dX0_addRank_22 (fun H locs hP hS => ?_)
  obtain ⟨M3, eM3, hf⟩ := bnd_some hf
  rw [← eM3] at hP
  refine lv_aload_n S.1 S.2.1 dX0_addRank_25 rfl (lv_at hl 0 rfl) ?_
  refine x_get (v := .int (gI M3 1 5)) S hK hP w_lay_X0 (ci := 0) rfl 1 (ok_lt (ok_b1 hn)) (e0 (ok_b1 hn).1) 5 (by decide) w_fl_X0_50 rfl rfl dX0_addRank_26 ?_
  refine lv_iconst (v := (1 : Int32)) S.1 S.2.1 dX0_addRank_29 (by decide) ?_
  refine lv_isub S.1 S.2.1 dX0_addRank_30 ?_
  cases hf
  exact r_i S hr hlk hP hS dX0_addRank_31
theorem hd_X0_rankFor : yX0_rankFor.cls ≠ "java/lang/invoke/MethodHandle" ∧ yX0_rankFor.cls ≠ "java/lang/invoke/VarHandle" ∧ (parseMethodDescriptor yX0_rankFor.desc).map (fun d => d.parameters.length) = some 2 := by decide +kernel
set_option maxHeartbeats 4000000 in
set_option maxRecDepth 100000 in
theorem L_X0_rankFor_35 (l : Launch) (E : EE) (ad : Nat → Nat) (n : Nat) (hI : ad_I ad n) (hn : 117 ≤ n) (N : Nat) (a1 : Int32) (a2 : Int32)  {p : Program} {e : Env} {s : State} {m : MethodId} {below : List Frame} {meth : Method} {c : Code} (S : CallFix p m c cX0_rankFor 5 s [.ref (ad 1), .int a1, .int a2].toArray bg_B "SurvivorPurse$Book") (hr : meth.sig.returnType = (some .int)) (hlk : meth.locks = false) (hK : va_K E.1 vwCl (tysE E) s) (hN : NW s) (r : Int32) : ∀ (fu : Nat) (v3 : Int32) (v4 : Int32)  (M : MM), F_X0_rankFor_35 N a1 a2 fu v3 v4 M = some r → ∀ (H : Heap) (locs : List Loc) (ls : Array Slot), va_P E.1 vwCl (mw (entC E ad n M) ad n) H → va_S (AA ad n s.heap.size) s.heap H locs → lv_has ls 5 [(0, .ref (ad 1)), (3, .int v3), (4, .int v4)] → W p l e { frames := 1, cells := 0, slots := 0, locals := 30 } s m [.ref (ad 1), .int a1, .int a2].toArray below meth c H locs 0 0 (MQ below (va_Qi (fun r0 (_ : Unit) => r0 = r) (fun _ t => QB E (entC E ad n M) ad n t) (AA ad n s.heap.size)) [.ref (ad 1), .int a1, .int a2].toArray s 0 0 (AA ad n s.heap.size)) (F0 m 35 ls []) := by
  intro fu
  induction fu with
  | zero =>
    intro v3 v4 M hf
    rw [F_X0_rankFor_35] at hf
    cases hf
  | succ fu ih =>
    intro v3 v4 M hf H locs ls hP hS hl
    rw [F_X0_rankFor_35] at hf
    refine lv_iload S.1 S.2.1 dX0_rankFor_35 (lv_at hl 2 rfl) ?_
    refine lv_aload_n S.1 S.2.1 dX0_rankFor_37 rfl (lv_at hl 0 rfl) ?_
    refine x_get (v := .int (gI M 1 5)) S hK hP w_lay_X0 (ci := 0) rfl 1 (ok_lt (ok_b1 hn)) (e0 (ok_b1 hn).1) 5 (by decide) w_fl_X0_50 rfl rfl dX0_rankFor_38 ?_
    refine lv_icmp_ge (tgt := 85) S.1 S.2.1 dX0_rankFor_41 (by decide) (fun h6 => ?_) (fun h6 => ?_)
    · replace hf := ift h6 hf
      refine lv_iconst (v := (-1 : Int32)) S.1 S.2.1 dX0_rankFor_85 (by decide) ?_
      cases hf
      exact r_i S hr hlk hP hS dX0_rankFor_86
    · replace hf := iff_ h6 hf
      refine lv_aload_n S.1 S.2.1 dX0_rankFor_44 rfl (lv_at hl 0 rfl) ?_
      refine x_get (v := .int (gI M 1 7)) S hK hP w_lay_X0 (ci := 0) rfl 1 (ok_lt (ok_b1 hn)) (e0 (ok_b1 hn).1) 7 (by decide) w_fl_X0_56 rfl rfl dX0_rankFor_45 ?_
      refine lv_iload_n S.1 S.2.1 dX0_rankFor_48 rfl (lv_at hl 1 rfl) ?_
      refine lv_isub S.1 S.2.1 dX0_rankFor_49 ?_
      refine lv_aload_n S.1 S.2.1 dX0_rankFor_50 rfl (lv_at hl 0 rfl) ?_
      refine x_get (v := .ref (ad 5)) S hK hP w_lay_X0 (ci := 0) rfl 1 (ok_lt (ok_b1 hn)) (e0 (ok_b1 hn).1) 2 (by decide) w_fl_X0_26 rfl rfl dX0_rankFor_51 ?_
      refine lv_iload S.1 S.2.1 dX0_rankFor_54 (lv_at hl 2 rfl) ?_
      obtain ⟨h7, hf⟩ := gd_some hf
      refine x_aald S hK hP 5 (ok_lt (ok_ra1 hn)) e10_1 3 rfl h7 dX0_rankFor_56 ?_
      refine x_get (v := .int (gI M (31 + (ix v4)) 0)) S hK hP w_lay_X2 (ci := 2) rfl (31 + (ix v4)) (ok_lt (ok_r1 hn (ib_lt h7))) (e2 (ok_r1 hn (ib_lt h7)).1) 0 (by decide) w_fl_X0_136 rfl rfl dX0_rankFor_57 ?_
      refine lv_aload_n S.1 S.2.1 dX0_rankFor_60 rfl (lv_at hl 0 rfl) ?_
      refine x_get (v := .ref (ad 5)) S hK hP w_lay_X0 (ci := 0) rfl 1 (ok_lt (ok_b1 hn)) (e0 (ok_b1 hn).1) 2 (by decide) w_fl_X0_26 rfl rfl dX0_rankFor_61 ?_
      refine lv_iload S.1 S.2.1 dX0_rankFor_64 (lv_at hl 2 rfl) ?_
      refine x_aald S hK hP 5 (ok_lt (ok_ra1 hn)) e10_1 3 rfl h7 dX0_rankFor_66 ?_
      refine x_get (v := .int (gI M (31 + (ix v4)) 1)) S hK hP w_lay_X2 (ci := 2) rfl (31 + (ix v4)) (ok_lt (ok_r1 hn (ib_lt h7))) (e2 (ok_r1 hn (ib_lt h7)).1) 1 (by decide) w_fl_X0_139 rfl rfl dX0_rankFor_67 ?_
      refine y_Ni (As := [.int ((gI M 1 7) - v3), .int (gI M (31 + (ix v4)) 0), .int (gI M (31 + (ix v4)) 1)]) S hK hN hP hS rfl (K_X5_isWithin l E ad n hI hn _ ((gI M 1 7) - v3) (gI M (31 + (ix v4)) 0) (gI M (31 + (ix v4)) 1)  M _ rfl) (cN 3 S hN w_co_yX5_isWithin w_in_X5 w_ml_X0_142 w_st_yX5_isWithin hd_X5_isWithin ⟨Nat.le_of_ble_eq_true rfl, Nat.le_of_ble_eq_true rfl⟩) hl.1 rfl rfl (Nat.le_of_ble_eq_true rfl) dX0_rankFor_70 ⟨Nat.zero_le _, Nat.zero_le _⟩ (fun H locs hP hS => ?_)
      refine lv_if_eq (tgt := 79) S.1 S.2.1 dX0_rankFor_73 (by decide) (fun h8 => ?_) (fun h8 => ?_)
      · replace hf := ift h8 hf
        refine lv_iinc (v := v4 + (1 : Int32)) (lv' := [(4, .int (v4 + (1 : Int32))), (0, .ref (ad 1)), (3, .int v3)]) S.1 S.2.1 dX0_rankFor_79 hl (k := 2) rfl rfl (by decide) rfl (fun ls hl => ?_)
        refine lv_goto (tgt := 35) S.1 S.2.1 dX0_rankFor_82 (by decide) ?_
        exact ih v3 (v4 + (1 : Int32))  M hf _ _ _ hP hS (lv_sub hl [1, 2, 0] rfl)
      · replace hf := iff_ h8 hf
        refine lv_iload S.1 S.2.1 dX0_rankFor_76 (lv_at hl 2 rfl) ?_
        cases hf
        exact r_i S hr hlk hP hS dX0_rankFor_78
set_option maxHeartbeats 4000000 in
set_option maxRecDepth 100000 in
theorem K_X0_rankFor (l : Launch) (E : EE) (ad : Nat → Nat) (n : Nat) (hI : ad_I ad n) (hn : 117 ≤ n) (sz : Nat) (N : Nat) (a1 : Int32) (a2 : Int32)  (M : MM) (r : Int32) (hf : F_X0_rankFor N a1 a2 M = some r) : CtI l yX0_rankFor cX0_rankFor 5 1 30 .int E (entC E ad n M) (entC E ad n M) ad n sz [.ref (ad 1), .int a1, .int a2] (r) := by
  unfold CtI
  refine body_of (by decide) "SurvivorPurse$Book" rfl (Nat.le_of_ble_eq_true rfl) ?_
  intro p e s m below meth c hsz S hr hlk hP hK hN ls hl
  subst hsz
  have hS : va_S (AA ad n s.heap.size) s.heap s.heap [] := va_S.rf
  have hl : lv_has ls 5 [(0, .ref (ad 1)), (1, .int a1), (2, .int a2)] := hl
  rw [F_X0_rankFor] at hf
  refine lv_aload_n S.1 S.2.1 dX0_rankFor_0 rfl (lv_at hl 0 rfl) ?_
  refine x_get (v := .ref (ad 4)) S hK hP w_lay_X0 (ci := 0) rfl 1 (ok_lt (ok_b1 hn)) (e0 (ok_b1 hn).1) 1 (by decide) w_fl_X0_20 rfl rfl dX0_rankFor_1 ?_
  refine lv_iload_n S.1 S.2.1 dX0_rankFor_4 rfl (lv_at hl 1 rfl) ?_
  obtain ⟨h1, hf⟩ := gd_some hf
  refine x_aald S hK hP 4 (ok_lt (ok_ma1 hn)) e9_1 2 rfl h1 dX0_rankFor_5 ?_
  refine x_get (v := .int (gI M (7 + (ix a1)) 0)) S hK hP w_lay_X1 (ci := 1) rfl (7 + (ix a1)) (ok_lt (ok_m1 hn (ib_lt h1))) (e1 (ok_m1 hn (ib_lt h1)).1) 0 (by decide) w_fl_X0_127 rfl rfl dX0_rankFor_6 ?_
  obtain ⟨x2, ex2, hf⟩ := bnd_some hf
  refine lv_rei ex2 ?_
  refine lv_istore_n (lv' := [(3, .int x2), (0, .ref (ad 1)), (1, .int a1), (2, .int a2)]) S.1 S.2.1 dX0_rankFor_9 rfl hl (by decide) rfl (fun ls hl => ?_)
  refine lv_aload_n S.1 S.2.1 dX0_rankFor_10 rfl (lv_at hl 1 rfl) ?_
  refine lv_iload_n S.1 S.2.1 dX0_rankFor_11 rfl (lv_at hl 3 rfl) ?_
  refine y_Vi (As := [.int a2]) S hK hN hP hS rfl (ok_lt (ok_b1 hn)) (e0 (ok_b1 hn).1) rfl (K_X0_isMember l E ad n hI hn _ a2  M _ rfl) (cV 1 S w_co_yX0_isMember w_in_X0 w_ml_X0_119 w_im_yX0_isMember w_se_yX0_isMember hd_X0_isMember ⟨Nat.le_of_ble_eq_true rfl, Nat.le_of_ble_eq_true rfl⟩) hl.1 rfl rfl (Nat.le_of_ble_eq_true rfl) dX0_rankFor_12 ⟨Nat.zero_le _, Nat.zero_le _⟩ (fun H locs hP hS => ?_)
  refine lv_if_eq (tgt := 32) S.1 S.2.1 dX0_rankFor_15 (by decide) (fun h3 => ?_) (fun h3 => ?_)
  · replace hf := ift h3 hf
    refine lv_iconst (v := (0 : Int32)) S.1 S.2.1 dX0_rankFor_32 (by decide) ?_
    refine lv_istore (lv' := [(4, .int (0 : Int32)), (3, .int x2), (0, .ref (ad 1)), (1, .int a1), (2, .int a2)]) S.1 S.2.1 dX0_rankFor_33 hl (by decide) rfl (fun ls hl => ?_)
    exact L_X0_rankFor_35 l E ad n hI hn N a1 a2  S hr hlk hK hN _ N x2 (0 : Int32)  M hf _ _ _ hP hS (lv_sub hl [2, 1, 0] rfl)
  · replace hf := iff_ h3 hf
    refine lv_iload_n S.1 S.2.1 dX0_rankFor_18 rfl (lv_at hl 0 rfl) ?_
    refine lv_aload_n S.1 S.2.1 dX0_rankFor_19 rfl (lv_at hl 1 rfl) ?_
    refine x_get (v := .ref (ad 4)) S hK hP w_lay_X0 (ci := 0) rfl 1 (ok_lt (ok_b1 hn)) (e0 (ok_b1 hn).1) 1 (by decide) w_fl_X0_20 rfl rfl dX0_rankFor_20 ?_
    refine lv_iload_n S.1 S.2.1 dX0_rankFor_23 rfl (lv_at hl 3 rfl) ?_
    obtain ⟨h4, hf⟩ := gd_some hf
    refine x_aald S hK hP 4 (ok_lt (ok_ma1 hn)) e9_1 2 rfl h4 dX0_rankFor_24 ?_
    refine x_get (v := .int (gI M (7 + (ix a2)) 0)) S hK hP w_lay_X1 (ci := 1) rfl (7 + (ix a2)) (ok_lt (ok_m1 hn (ib_lt h4))) (e1 (ok_m1 hn (ib_lt h4)).1) 0 (by decide) w_fl_X0_127 rfl rfl dX0_rankFor_25 ?_
    refine x_mx S hl.1 w_ml_X0_130 (Nat.le_of_ble_eq_true rfl) (Nat.le_of_ble_eq_true rfl) (Nat.zero_le _) (Nat.zero_le _) dX0_rankFor_28 ?_
    obtain ⟨x5, ex5, hf⟩ := bnd_some hf
    refine lv_rei ex5 ?_
    refine lv_istore_n (lv' := [(3, .int x5), (0, .ref (ad 1)), (1, .int a1), (2, .int a2)]) S.1 S.2.1 dX0_rankFor_31 rfl hl (by decide) rfl (fun ls hl => ?_)
    refine lv_iconst (v := (0 : Int32)) S.1 S.2.1 dX0_rankFor_32 (by decide) ?_
    refine lv_istore (lv' := [(4, .int (0 : Int32)), (3, .int x5), (0, .ref (ad 1)), (1, .int a1), (2, .int a2)]) S.1 S.2.1 dX0_rankFor_33 hl (by decide) rfl (fun ls hl => ?_)
    exact L_X0_rankFor_35 l E ad n hI hn N a1 a2  S hr hlk hK hN _ N x5 (0 : Int32)  M hf _ _ _ hP hS (lv_sub hl [2, 1, 0] rfl)
theorem hd_X0_payOut : yX0_payOut.cls ≠ "java/lang/invoke/MethodHandle" ∧ yX0_payOut.cls ≠ "java/lang/invoke/VarHandle" ∧ (parseMethodDescriptor yX0_payOut.desc).map (fun d => d.parameters.length) = some 2 := by decide +kernel
set_option maxHeartbeats 4000000 in
set_option maxRecDepth 100000 in
theorem K_X0_payOut (l : Launch) (E : EE) (ad : Nat → Nat) (n : Nat) (hI : ad_I ad n) (hn : 117 ≤ n) (sz : Nat) (N : Nat) (c1 : Nat) (a2 : Int64) (P1 : ok 3 n c1) (M : MM) (M' : MM) (hf : F_X0_payOut N c1 a2 M = some M') : CtV l yX0_payOut cX0_payOut 13 1 30 E (entC E ad n M) (entC E ad n M') ad n sz [.ref (ad 1), .ref (ad c1), .long a2] := by
  unfold CtV
  refine body_of (by decide) "SurvivorPurse$Book" rfl (Nat.le_of_ble_eq_true rfl) ?_
  intro p e s m below meth c hsz S hr hlk hP hK hN ls hl
  subst hsz
  have hS : va_S (AA ad n s.heap.size) s.heap s.heap [] := va_S.rf
  have hl : lv_has ls 13 [(0, .ref (ad 1)), (1, .ref (ad c1)), (2, .long a2)] := hl
  rw [F_X0_payOut] at hf
  refine lv_aload_n S.1 S.2.1 dX0_payOut_0 rfl (lv_at hl 0 rfl) ?_
  refine x_get (v := .ref (ad 4)) S hK hP w_lay_X0 (ci := 0) rfl 1 (ok_lt (ok_b1 hn)) (e0 (ok_b1 hn).1) 1 (by decide) w_fl_X0_20 rfl rfl dX0_payOut_1 ?_
  refine lv_aload_n S.1 S.2.1 dX0_payOut_4 rfl (lv_at hl 1 rfl) ?_
  refine x_get (v := .int (gI M c1 0)) S hK hP w_lay_X3 (ci := 3) rfl c1 (ok_lt P1) (e3 P1.1) 0 (by decide) w_fl_X0_89 rfl rfl dX0_payOut_5 ?_
  obtain ⟨h1, hf⟩ := gd_some hf
  refine x_aald S hK hP 4 (ok_lt (ok_ma1 hn)) e9_1 2 rfl h1 dX0_payOut_8 ?_
  refine lv_astore (lv' := [(4, .ref (ad (7 + (ix (gI M c1 0))))), (0, .ref (ad 1)), (1, .ref (ad c1)), (2, .long a2)]) S.1 S.2.1 dX0_payOut_9 hl (by decide) rfl (fun ls hl => ?_)
  refine lv_lload_n S.1 S.2.1 dX0_payOut_11 rfl (lv_at hl 3 rfl) ?_
  refine lv_aload_n S.1 S.2.1 dX0_payOut_12 rfl (lv_at hl 1 rfl) ?_
  refine x_get (v := .int (gI M 1 9)) S hK hP w_lay_X0 (ci := 0) rfl 1 (ok_lt (ok_b1 hn)) (e0 (ok_b1 hn).1) 9 (by decide) w_fl_X0_59 rfl rfl dX0_payOut_13 ?_
  refine lv_i2l (v := (gI M 1 9).toInt64) S.1 S.2.1 dX0_payOut_16 rfl ?_
  refine lv_ldc2 (own := "SurvivorPurse$Book") (v := (1000 : Int64)) S.1 S.2.1 S.2.2.2.1 (S.2.2.2.2 _ w_kl_X0_172) dX0_payOut_17 ?_
  refine y_Nl (As := [.long a2, .long ((gI M 1 9).toInt64), .long (1000 : Int64)]) S hK hN hP hS rfl (K_X5_parted l E ad n hI hn _ a2 ((gI M 1 9).toInt64) (1000 : Int64)  M _ rfl) (cN 3 S hN w_co_yX5_parted w_in_X5 w_ml_X0_174 w_st_yX5_parted hd_X5_parted ⟨Nat.le_of_ble_eq_true rfl, Nat.le_of_ble_eq_true rfl⟩) hl.1 rfl rfl (Nat.le_of_ble_eq_true rfl) dX0_payOut_20 ⟨Nat.zero_le _, Nat.zero_le _⟩ (fun H locs hP hS => ?_)
  obtain ⟨x2, ex2, hf⟩ := bnd_some hf
  refine lv_rel ex2 ?_
  refine lv_lstore (lv' := [(5, .long x2), (4, .ref (ad (7 + (ix (gI M c1 0))))), (0, .ref (ad 1)), (1, .ref (ad c1)), (2, .long a2)]) S.1 S.2.1 dX0_payOut_23 hl (by decide) rfl (fun ls hl => ?_)
  refine lv_lload_n S.1 S.2.1 dX0_payOut_25 rfl (lv_at hl 4 rfl) ?_
  refine lv_lload S.1 S.2.1 dX0_payOut_26 (lv_at hl 0 rfl) ?_
  refine lv_lsub S.1 S.2.1 dX0_payOut_28 ?_
  obtain ⟨x3, ex3, hf⟩ := bnd_some hf
  refine lv_rel ex3 ?_
  refine lv_lstore (lv' := [(7, .long x3), (5, .long x2), (4, .ref (ad (7 + (ix (gI M c1 0))))), (0, .ref (ad 1)), (1, .ref (ad c1)), (2, .long a2)]) S.1 S.2.1 dX0_payOut_29 hl (by decide) rfl (fun ls hl => ?_)
  refine lv_lload S.1 S.2.1 dX0_payOut_31 (lv_at hl 0 rfl) ?_
  refine lv_aload S.1 S.2.1 dX0_payOut_33 (lv_at hl 2 rfl) ?_
  refine x_get (v := .long (gL M (7 + (ix (gI M c1 0))) 2)) S hK hP w_lay_X1 (ci := 1) rfl (7 + (ix (gI M c1 0))) (ok_lt (ok_m1 hn (ib_lt h1))) (e1 (ok_m1 hn (ib_lt h1)).1) 2 (by decide) w_fl_X0_178 rfl rfl dX0_payOut_35 ?_
  refine x_mnL S hl.1 w_ml_X0_181 (Nat.le_of_ble_eq_true rfl) (Nat.le_of_ble_eq_true rfl) (Nat.zero_le _) (Nat.zero_le _) dX0_payOut_38 ?_
  obtain ⟨x4, ex4, hf⟩ := bnd_some hf
  refine lv_rel ex4 ?_
  refine lv_lstore (lv' := [(9, .long x4), (7, .long x3), (5, .long x2), (4, .ref (ad (7 + (ix (gI M c1 0))))), (0, .ref (ad 1)), (1, .ref (ad c1)), (2, .long a2)]) S.1 S.2.1 dX0_payOut_41 hl (by decide) rfl (fun ls hl => ?_)
  refine lv_lload S.1 S.2.1 dX0_payOut_43 (lv_at hl 1 rfl) ?_
  refine lv_lload S.1 S.2.1 dX0_payOut_45 (lv_at hl 0 rfl) ?_
  refine lv_lsub S.1 S.2.1 dX0_payOut_47 ?_
  obtain ⟨x5, ex5, hf⟩ := bnd_some hf
  refine lv_rel ex5 ?_
  refine lv_lstore (lv' := [(7, .long x5), (9, .long x4), (5, .long x2), (4, .ref (ad (7 + (ix (gI M c1 0))))), (0, .ref (ad 1)), (1, .ref (ad c1)), (2, .long a2)]) S.1 S.2.1 dX0_payOut_48 hl (by decide) rfl (fun ls hl => ?_)
  refine lv_aload_n S.1 S.2.1 dX0_payOut_50 rfl (lv_at hl 4 rfl) ?_
  refine lv_aload_n S.1 S.2.1 dX0_payOut_51 rfl (lv_at hl 5 rfl) ?_
  refine x_get (v := .int (gI M c1 12)) S hK hP w_lay_X3 (ci := 3) rfl c1 (ok_lt P1) (e3 P1.1) 12 (by decide) w_fl_X0_185 rfl rfl dX0_payOut_52 ?_
  refine y_Vi (As := [.int (gI M c1 12)]) S hK hN hP hS rfl (ok_lt (ok_b1 hn)) (e0 (ok_b1 hn).1) rfl (K_X0_isMember l E ad n hI hn _ (gI M c1 12)  M _ rfl) (cV 1 S w_co_yX0_isMember w_in_X0 w_ml_X0_119 w_im_yX0_isMember w_se_yX0_isMember hd_X0_isMember ⟨Nat.le_of_ble_eq_true rfl, Nat.le_of_ble_eq_true rfl⟩) hl.1 rfl rfl (Nat.le_of_ble_eq_true rfl) dX0_payOut_55 ⟨Nat.zero_le _, Nat.zero_le _⟩ (fun H locs hP hS => ?_)
  refine lv_if_eq (tgt := 73) S.1 S.2.1 dX0_payOut_58 (by decide) (fun h6 => ?_) (fun h6 => ?_)
  · replace hf := ift h6 hf
    refine lv_lconst (v := (0 : Int64)) S.1 S.2.1 dX0_payOut_73 (by decide) ?_
    refine lv_lstore (lv' := [(11, .long (0 : Int64)), (7, .long x5), (9, .long x4), (5, .long x2), (4, .ref (ad (7 + (ix (gI M c1 0))))), (0, .ref (ad 1)), (1, .ref (ad c1)), (2, .long a2)]) S.1 S.2.1 dX0_payOut_74 hl (by decide) rfl (fun ls hl => ?_)
    refine lv_lload S.1 S.2.1 dX0_payOut_76 (lv_at hl 1 rfl) ?_
    refine lv_lload S.1 S.2.1 dX0_payOut_78 (lv_at hl 0 rfl) ?_
    refine lv_lsub S.1 S.2.1 dX0_payOut_80 ?_
    obtain ⟨x7, ex7, hf⟩ := bnd_some hf
    refine lv_rel ex7 ?_
    refine lv_lstore (lv' := [(7, .long x7), (11, .long (0 : Int64)), (9, .long x4), (5, .long x2), (4, .ref (ad (7 + (ix (gI M c1 0))))), (0, .ref (ad 1)), (1, .ref (ad c1)), (2, .long a2)]) S.1 S.2.1 dX0_payOut_81 hl (by decide) rfl (fun ls hl => ?_)
    refine lv_aload_n S.1 S.2.1 dX0_payOut_83 rfl (lv_at hl 5 rfl) ?_
    refine lv_dup S.1 S.2.1 dX0_payOut_84 rfl ?_
    refine x_get (v := .long (gL M 1 11)) S hK hP w_lay_X0 (ci := 0) rfl 1 (ok_lt (ok_b1 hn)) (e0 (ok_b1 hn).1) 11 (by decide) w_fl_X0_66 rfl rfl dX0_payOut_85 ?_
    refine lv_lload S.1 S.2.1 dX0_payOut_88 (lv_at hl 3 rfl) ?_
    refine lv_ladd S.1 S.2.1 dX0_payOut_90 ?_
    refine x_put S hI hK hP hS w_lay_X0 tyX0 tyX0_ok nmX0 (ci := 0) rfl 1 (ok_lt (ok_b1 hn)) (e0 (ok_b1 hn).1) 11 (by decide) w_fl_X0_66 rfl rfl rfl rfl (Nat.le_of_ble_eq_true rfl) (entC E ad n (sL M 1 11 ((gL M 1 11) + x2))) (h1_X0_11 (ok_b1 hn).1 ) (fun _ h => entC_sL _ h) dX0_payOut_91 (fun H locs hP hS => ?_)
    obtain ⟨M8, eM8, hf⟩ := bnd_some hf
    rw [← eM8] at hP
    refine lv_aload S.1 S.2.1 dX0_payOut_94 (lv_at hl 4 rfl) ?_
    refine lv_dup S.1 S.2.1 dX0_payOut_96 rfl ?_
    refine x_get (v := .long (gL M8 (7 + (ix (gI M c1 0))) 2)) S hK hP w_lay_X1 (ci := 1) rfl (7 + (ix (gI M c1 0))) (ok_lt (ok_m1 hn (ib_lt h1))) (e1 (ok_m1 hn (ib_lt h1)).1) 2 (by decide) w_fl_X0_178 rfl rfl dX0_payOut_97 ?_
    refine lv_lload S.1 S.2.1 dX0_payOut_100 (lv_at hl 2 rfl) ?_
    refine lv_lsub S.1 S.2.1 dX0_payOut_102 ?_
    refine x_put S hI hK hP hS w_lay_X1 tyX1 tyX1_ok nmX1 (ci := 1) rfl (7 + (ix (gI M c1 0))) (ok_lt (ok_m1 hn (ib_lt h1))) (e1 (ok_m1 hn (ib_lt h1)).1) 2 (by decide) w_fl_X0_178 rfl rfl rfl rfl (Nat.le_of_ble_eq_true rfl) (entC E ad n (sL M8 (7 + (ix (gI M c1 0))) 2 ((gL M8 (7 + (ix (gI M c1 0))) 2) - x4))) (h1_X1_2 (ok_m1 hn (ib_lt h1)).1 ) (fun _ h => entC_sL _ h) dX0_payOut_103 (fun H locs hP hS => ?_)
    obtain ⟨M9, eM9, hf⟩ := bnd_some hf
    rw [← eM9] at hP
    refine lv_aload_n S.1 S.2.1 dX0_payOut_106 rfl (lv_at hl 5 rfl) ?_
    refine lv_dup S.1 S.2.1 dX0_payOut_107 rfl ?_
    refine x_get (v := .long (gL M9 1 10)) S hK hP w_lay_X0 (ci := 0) rfl 1 (ok_lt (ok_b1 hn)) (e0 (ok_b1 hn).1) 10 (by decide) w_fl_X0_62 rfl rfl dX0_payOut_108 ?_
    refine lv_lload S.1 S.2.1 dX0_payOut_111 (lv_at hl 2 rfl) ?_
    refine lv_ladd S.1 S.2.1 dX0_payOut_113 ?_
    refine x_put S hI hK hP hS w_lay_X0 tyX0 tyX0_ok nmX0 (ci := 0) rfl 1 (ok_lt (ok_b1 hn)) (e0 (ok_b1 hn).1) 10 (by decide) w_fl_X0_62 rfl rfl rfl rfl (Nat.le_of_ble_eq_true rfl) (entC E ad n (sL M9 1 10 ((gL M9 1 10) + x4))) (h1_X0_10 (ok_b1 hn).1 ) (fun _ h => entC_sL _ h) dX0_payOut_114 (fun H locs hP hS => ?_)
    obtain ⟨M10, eM10, hf⟩ := bnd_some hf
    rw [← eM10] at hP
    refine lv_aload_n S.1 S.2.1 dX0_payOut_117 rfl (lv_at hl 5 rfl) ?_
    refine lv_aload_n S.1 S.2.1 dX0_payOut_118 rfl (lv_at hl 6 rfl) ?_
    refine x_get (v := .int (gI M10 c1 12)) S hK hP w_lay_X3 (ci := 3) rfl c1 (ok_lt P1) (e3 P1.1) 12 (by decide) w_fl_X0_185 rfl rfl dX0_payOut_119 ?_
    refine y_Vi (As := [.int (gI M10 c1 12)]) S hK hN hP hS rfl (ok_lt (ok_b1 hn)) (e0 (ok_b1 hn).1) rfl (K_X0_isMember l E ad n hI hn _ (gI M10 c1 12)  M10 _ rfl) (cV 1 S w_co_yX0_isMember w_in_X0 w_ml_X0_119 w_im_yX0_isMember w_se_yX0_isMember hd_X0_isMember ⟨Nat.le_of_ble_eq_true rfl, Nat.le_of_ble_eq_true rfl⟩) hl.1 rfl rfl (Nat.le_of_ble_eq_true rfl) dX0_payOut_122 ⟨Nat.zero_le _, Nat.zero_le _⟩ (fun H locs hP hS => ?_)
    refine lv_if_eq (tgt := 158) S.1 S.2.1 dX0_payOut_125 (by decide) (fun h11 => ?_) (fun h11 => ?_)
    · replace hf := ift h11 hf
      refine lv_aload S.1 S.2.1 dX0_payOut_158 (lv_at hl 4 rfl) ?_
      refine lv_dup S.1 S.2.1 dX0_payOut_160 rfl ?_
      refine x_get (v := .long (gL M10 (7 + (ix (gI M c1 0))) 1)) S hK hP w_lay_X1 (ci := 1) rfl (7 + (ix (gI M c1 0))) (ok_lt (ok_m1 hn (ib_lt h1))) (e1 (ok_m1 hn (ib_lt h1)).1) 1 (by decide) w_fl_X0_191 rfl rfl dX0_payOut_161 ?_
      refine lv_lload S.1 S.2.1 dX0_payOut_164 (lv_at hl 0 rfl) ?_
      refine lv_ladd S.1 S.2.1 dX0_payOut_166 ?_
      refine x_put S hI hK hP hS w_lay_X1 tyX1 tyX1_ok nmX1 (ci := 1) rfl (7 + (ix (gI M c1 0))) (ok_lt (ok_m1 hn (ib_lt h1))) (e1 (ok_m1 hn (ib_lt h1)).1) 1 (by decide) w_fl_X0_191 rfl rfl rfl rfl (Nat.le_of_ble_eq_true rfl) (entC E ad n (sL M10 (7 + (ix (gI M c1 0))) 1 ((gL M10 (7 + (ix (gI M c1 0))) 1) + x7))) (h1_X1_1 (ok_m1 hn (ib_lt h1)).1 ) (fun _ h => entC_sL _ h) dX0_payOut_167 (fun H locs hP hS => ?_)
      obtain ⟨M12, eM12, hf⟩ := bnd_some hf
      rw [← eM12] at hP
      refine lv_aload_n S.1 S.2.1 dX0_payOut_170 rfl (lv_at hl 6 rfl) ?_
      refine lv_dup S.1 S.2.1 dX0_payOut_171 rfl ?_
      refine x_get (v := .long (gL M12 c1 7)) S hK hP w_lay_X3 (ci := 3) rfl c1 (ok_lt P1) (e3 P1.1) 7 (by decide) w_fl_X0_194 rfl rfl dX0_payOut_172 ?_
      refine lv_lload_n S.1 S.2.1 dX0_payOut_175 rfl (lv_at hl 7 rfl) ?_
      refine lv_ladd S.1 S.2.1 dX0_payOut_176 ?_
      refine x_put S hI hK hP hS w_lay_X3 tyX3 tyX3_ok nmX3 (ci := 3) rfl c1 (ok_lt P1) (e3 P1.1) 7 (by decide) w_fl_X0_194 rfl rfl rfl rfl (Nat.le_of_ble_eq_true rfl) (entC E ad n (sL M12 c1 7 ((gL M12 c1 7) + a2))) (h1_X3_7 P1.1 ) (fun _ h => entC_sL _ h) dX0_payOut_177 (fun H locs hP hS => ?_)
      obtain ⟨M13, eM13, hf⟩ := bnd_some hf
      rw [← eM13] at hP
      cases hf
      exact r_v S hr hlk hP hS dX0_payOut_180
    · replace hf := iff_ h11 hf
      refine lv_aload_n S.1 S.2.1 dX0_payOut_128 rfl (lv_at hl 6 rfl) ?_
      refine lv_dup S.1 S.2.1 dX0_payOut_129 rfl ?_
      refine x_get (v := .long (gL M10 c1 11)) S hK hP w_lay_X3 (ci := 3) rfl c1 (ok_lt P1) (e3 P1.1) 11 (by decide) w_fl_X0_188 rfl rfl dX0_payOut_130 ?_
      refine lv_lload S.1 S.2.1 dX0_payOut_133 (lv_at hl 1 rfl) ?_
      refine lv_lsub S.1 S.2.1 dX0_payOut_135 ?_
      refine x_put S hI hK hP hS w_lay_X3 tyX3 tyX3_ok nmX3 (ci := 3) rfl c1 (ok_lt P1) (e3 P1.1) 11 (by decide) w_fl_X0_188 rfl rfl rfl rfl (Nat.le_of_ble_eq_true rfl) (entC E ad n (sL M10 c1 11 ((gL M10 c1 11) - (0 : Int64)))) (h1_X3_11 P1.1 ) (fun _ h => entC_sL _ h) dX0_payOut_136 (fun H locs hP hS => ?_)
      obtain ⟨M14, eM14, hf⟩ := bnd_some hf
      rw [← eM14] at hP
      refine lv_aload_n S.1 S.2.1 dX0_payOut_139 rfl (lv_at hl 5 rfl) ?_
      refine x_get (v := .ref (ad 4)) S hK hP w_lay_X0 (ci := 0) rfl 1 (ok_lt (ok_b1 hn)) (e0 (ok_b1 hn).1) 1 (by decide) w_fl_X0_20 rfl rfl dX0_payOut_140 ?_
      refine lv_aload_n S.1 S.2.1 dX0_payOut_143 rfl (lv_at hl 6 rfl) ?_
      refine x_get (v := .int (gI M14 c1 12)) S hK hP w_lay_X3 (ci := 3) rfl c1 (ok_lt P1) (e3 P1.1) 12 (by decide) w_fl_X0_185 rfl rfl dX0_payOut_144 ?_
      obtain ⟨h15, hf⟩ := gd_some hf
      refine x_aald S hK hP 4 (ok_lt (ok_ma1 hn)) e9_1 2 rfl h15 dX0_payOut_147 ?_
      refine lv_dup S.1 S.2.1 dX0_payOut_148 rfl ?_
      refine x_get (v := .long (gL M14 (7 + (ix (gI M14 c1 12))) 1)) S hK hP w_lay_X1 (ci := 1) rfl (7 + (ix (gI M14 c1 12))) (ok_lt (ok_m1 hn (ib_lt h15))) (e1 (ok_m1 hn (ib_lt h15)).1) 1 (by decide) w_fl_X0_191 rfl rfl dX0_payOut_149 ?_
      refine lv_lload S.1 S.2.1 dX0_payOut_152 (lv_at hl 1 rfl) ?_
      refine lv_ladd S.1 S.2.1 dX0_payOut_154 ?_
      refine x_put S hI hK hP hS w_lay_X1 tyX1 tyX1_ok nmX1 (ci := 1) rfl (7 + (ix (gI M14 c1 12))) (ok_lt (ok_m1 hn (ib_lt h15))) (e1 (ok_m1 hn (ib_lt h15)).1) 1 (by decide) w_fl_X0_191 rfl rfl rfl rfl (Nat.le_of_ble_eq_true rfl) (entC E ad n (sL M14 (7 + (ix (gI M14 c1 12))) 1 ((gL M14 (7 + (ix (gI M14 c1 12))) 1) + (0 : Int64)))) (h1_X1_1 (ok_m1 hn (ib_lt h15)).1 ) (fun _ h => entC_sL _ h) dX0_payOut_155 (fun H locs hP hS => ?_)
      obtain ⟨M16, eM16, hf⟩ := bnd_some hf
      rw [← eM16] at hP
      refine lv_aload S.1 S.2.1 dX0_payOut_158 (lv_at hl 4 rfl) ?_
      refine lv_dup S.1 S.2.1 dX0_payOut_160 rfl ?_
      refine x_get (v := .long (gL M16 (7 + (ix (gI M c1 0))) 1)) S hK hP w_lay_X1 (ci := 1) rfl (7 + (ix (gI M c1 0))) (ok_lt (ok_m1 hn (ib_lt h1))) (e1 (ok_m1 hn (ib_lt h1)).1) 1 (by decide) w_fl_X0_191 rfl rfl dX0_payOut_161 ?_
      refine lv_lload S.1 S.2.1 dX0_payOut_164 (lv_at hl 0 rfl) ?_
      refine lv_ladd S.1 S.2.1 dX0_payOut_166 ?_
      refine x_put S hI hK hP hS w_lay_X1 tyX1 tyX1_ok nmX1 (ci := 1) rfl (7 + (ix (gI M c1 0))) (ok_lt (ok_m1 hn (ib_lt h1))) (e1 (ok_m1 hn (ib_lt h1)).1) 1 (by decide) w_fl_X0_191 rfl rfl rfl rfl (Nat.le_of_ble_eq_true rfl) (entC E ad n (sL M16 (7 + (ix (gI M c1 0))) 1 ((gL M16 (7 + (ix (gI M c1 0))) 1) + x7))) (h1_X1_1 (ok_m1 hn (ib_lt h1)).1 ) (fun _ h => entC_sL _ h) dX0_payOut_167 (fun H locs hP hS => ?_)
      obtain ⟨M17, eM17, hf⟩ := bnd_some hf
      rw [← eM17] at hP
      refine lv_aload_n S.1 S.2.1 dX0_payOut_170 rfl (lv_at hl 6 rfl) ?_
      refine lv_dup S.1 S.2.1 dX0_payOut_171 rfl ?_
      refine x_get (v := .long (gL M17 c1 7)) S hK hP w_lay_X3 (ci := 3) rfl c1 (ok_lt P1) (e3 P1.1) 7 (by decide) w_fl_X0_194 rfl rfl dX0_payOut_172 ?_
      refine lv_lload_n S.1 S.2.1 dX0_payOut_175 rfl (lv_at hl 7 rfl) ?_
      refine lv_ladd S.1 S.2.1 dX0_payOut_176 ?_
      refine x_put S hI hK hP hS w_lay_X3 tyX3 tyX3_ok nmX3 (ci := 3) rfl c1 (ok_lt P1) (e3 P1.1) 7 (by decide) w_fl_X0_194 rfl rfl rfl rfl (Nat.le_of_ble_eq_true rfl) (entC E ad n (sL M17 c1 7 ((gL M17 c1 7) + a2))) (h1_X3_7 P1.1 ) (fun _ h => entC_sL _ h) dX0_payOut_177 (fun H locs hP hS => ?_)
      obtain ⟨M18, eM18, hf⟩ := bnd_some hf
      rw [← eM18] at hP
      cases hf
      exact r_v S hr hlk hP hS dX0_payOut_180
  · replace hf := iff_ h6 hf
    refine lv_lload S.1 S.2.1 dX0_payOut_61 (lv_at hl 0 rfl) ?_
    refine lv_aload_n S.1 S.2.1 dX0_payOut_63 rfl (lv_at hl 5 rfl) ?_
    refine x_get (v := .long (gL M c1 11)) S hK hP w_lay_X3 (ci := 3) rfl c1 (ok_lt P1) (e3 P1.1) 11 (by decide) w_fl_X0_188 rfl rfl dX0_payOut_64 ?_
    refine x_mnL S hl.1 w_ml_X0_181 (Nat.le_of_ble_eq_true rfl) (Nat.le_of_ble_eq_true rfl) (Nat.zero_le _) (Nat.zero_le _) dX0_payOut_67 ?_
    refine lv_goto (tgt := 74) S.1 S.2.1 dX0_payOut_70 (by decide) ?_
    obtain ⟨x19, ex19, hf⟩ := bnd_some hf
    refine lv_rel ex19 ?_
    refine lv_lstore (lv' := [(11, .long x19), (7, .long x5), (9, .long x4), (5, .long x2), (4, .ref (ad (7 + (ix (gI M c1 0))))), (0, .ref (ad 1)), (1, .ref (ad c1)), (2, .long a2)]) S.1 S.2.1 dX0_payOut_74 hl (by decide) rfl (fun ls hl => ?_)
    refine lv_lload S.1 S.2.1 dX0_payOut_76 (lv_at hl 1 rfl) ?_
    refine lv_lload S.1 S.2.1 dX0_payOut_78 (lv_at hl 0 rfl) ?_
    refine lv_lsub S.1 S.2.1 dX0_payOut_80 ?_
    obtain ⟨x20, ex20, hf⟩ := bnd_some hf
    refine lv_rel ex20 ?_
    refine lv_lstore (lv' := [(7, .long x20), (11, .long x19), (9, .long x4), (5, .long x2), (4, .ref (ad (7 + (ix (gI M c1 0))))), (0, .ref (ad 1)), (1, .ref (ad c1)), (2, .long a2)]) S.1 S.2.1 dX0_payOut_81 hl (by decide) rfl (fun ls hl => ?_)
    refine lv_aload_n S.1 S.2.1 dX0_payOut_83 rfl (lv_at hl 5 rfl) ?_
    refine lv_dup S.1 S.2.1 dX0_payOut_84 rfl ?_
    refine x_get (v := .long (gL M 1 11)) S hK hP w_lay_X0 (ci := 0) rfl 1 (ok_lt (ok_b1 hn)) (e0 (ok_b1 hn).1) 11 (by decide) w_fl_X0_66 rfl rfl dX0_payOut_85 ?_
    refine lv_lload S.1 S.2.1 dX0_payOut_88 (lv_at hl 3 rfl) ?_
    refine lv_ladd S.1 S.2.1 dX0_payOut_90 ?_
    refine x_put S hI hK hP hS w_lay_X0 tyX0 tyX0_ok nmX0 (ci := 0) rfl 1 (ok_lt (ok_b1 hn)) (e0 (ok_b1 hn).1) 11 (by decide) w_fl_X0_66 rfl rfl rfl rfl (Nat.le_of_ble_eq_true rfl) (entC E ad n (sL M 1 11 ((gL M 1 11) + x2))) (h1_X0_11 (ok_b1 hn).1 ) (fun _ h => entC_sL _ h) dX0_payOut_91 (fun H locs hP hS => ?_)
    obtain ⟨M21, eM21, hf⟩ := bnd_some hf
    rw [← eM21] at hP
    refine lv_aload S.1 S.2.1 dX0_payOut_94 (lv_at hl 4 rfl) ?_
    refine lv_dup S.1 S.2.1 dX0_payOut_96 rfl ?_
    refine x_get (v := .long (gL M21 (7 + (ix (gI M c1 0))) 2)) S hK hP w_lay_X1 (ci := 1) rfl (7 + (ix (gI M c1 0))) (ok_lt (ok_m1 hn (ib_lt h1))) (e1 (ok_m1 hn (ib_lt h1)).1) 2 (by decide) w_fl_X0_178 rfl rfl dX0_payOut_97 ?_
    refine lv_lload S.1 S.2.1 dX0_payOut_100 (lv_at hl 2 rfl) ?_
    refine lv_lsub S.1 S.2.1 dX0_payOut_102 ?_
    refine x_put S hI hK hP hS w_lay_X1 tyX1 tyX1_ok nmX1 (ci := 1) rfl (7 + (ix (gI M c1 0))) (ok_lt (ok_m1 hn (ib_lt h1))) (e1 (ok_m1 hn (ib_lt h1)).1) 2 (by decide) w_fl_X0_178 rfl rfl rfl rfl (Nat.le_of_ble_eq_true rfl) (entC E ad n (sL M21 (7 + (ix (gI M c1 0))) 2 ((gL M21 (7 + (ix (gI M c1 0))) 2) - x4))) (h1_X1_2 (ok_m1 hn (ib_lt h1)).1 ) (fun _ h => entC_sL _ h) dX0_payOut_103 (fun H locs hP hS => ?_)
    obtain ⟨M22, eM22, hf⟩ := bnd_some hf
    rw [← eM22] at hP
    refine lv_aload_n S.1 S.2.1 dX0_payOut_106 rfl (lv_at hl 5 rfl) ?_
    refine lv_dup S.1 S.2.1 dX0_payOut_107 rfl ?_
    refine x_get (v := .long (gL M22 1 10)) S hK hP w_lay_X0 (ci := 0) rfl 1 (ok_lt (ok_b1 hn)) (e0 (ok_b1 hn).1) 10 (by decide) w_fl_X0_62 rfl rfl dX0_payOut_108 ?_
    refine lv_lload S.1 S.2.1 dX0_payOut_111 (lv_at hl 2 rfl) ?_
    refine lv_ladd S.1 S.2.1 dX0_payOut_113 ?_
    refine x_put S hI hK hP hS w_lay_X0 tyX0 tyX0_ok nmX0 (ci := 0) rfl 1 (ok_lt (ok_b1 hn)) (e0 (ok_b1 hn).1) 10 (by decide) w_fl_X0_62 rfl rfl rfl rfl (Nat.le_of_ble_eq_true rfl) (entC E ad n (sL M22 1 10 ((gL M22 1 10) + x4))) (h1_X0_10 (ok_b1 hn).1 ) (fun _ h => entC_sL _ h) dX0_payOut_114 (fun H locs hP hS => ?_)
    obtain ⟨M23, eM23, hf⟩ := bnd_some hf
    rw [← eM23] at hP
    refine lv_aload_n S.1 S.2.1 dX0_payOut_117 rfl (lv_at hl 5 rfl) ?_
    refine lv_aload_n S.1 S.2.1 dX0_payOut_118 rfl (lv_at hl 6 rfl) ?_
    refine x_get (v := .int (gI M23 c1 12)) S hK hP w_lay_X3 (ci := 3) rfl c1 (ok_lt P1) (e3 P1.1) 12 (by decide) w_fl_X0_185 rfl rfl dX0_payOut_119 ?_
    refine y_Vi (As := [.int (gI M23 c1 12)]) S hK hN hP hS rfl (ok_lt (ok_b1 hn)) (e0 (ok_b1 hn).1) rfl (K_X0_isMember l E ad n hI hn _ (gI M23 c1 12)  M23 _ rfl) (cV 1 S w_co_yX0_isMember w_in_X0 w_ml_X0_119 w_im_yX0_isMember w_se_yX0_isMember hd_X0_isMember ⟨Nat.le_of_ble_eq_true rfl, Nat.le_of_ble_eq_true rfl⟩) hl.1 rfl rfl (Nat.le_of_ble_eq_true rfl) dX0_payOut_122 ⟨Nat.zero_le _, Nat.zero_le _⟩ (fun H locs hP hS => ?_)
    refine lv_if_eq (tgt := 158) S.1 S.2.1 dX0_payOut_125 (by decide) (fun h24 => ?_) (fun h24 => ?_)
    · replace hf := ift h24 hf
      refine lv_aload S.1 S.2.1 dX0_payOut_158 (lv_at hl 4 rfl) ?_
      refine lv_dup S.1 S.2.1 dX0_payOut_160 rfl ?_
      refine x_get (v := .long (gL M23 (7 + (ix (gI M c1 0))) 1)) S hK hP w_lay_X1 (ci := 1) rfl (7 + (ix (gI M c1 0))) (ok_lt (ok_m1 hn (ib_lt h1))) (e1 (ok_m1 hn (ib_lt h1)).1) 1 (by decide) w_fl_X0_191 rfl rfl dX0_payOut_161 ?_
      refine lv_lload S.1 S.2.1 dX0_payOut_164 (lv_at hl 0 rfl) ?_
      refine lv_ladd S.1 S.2.1 dX0_payOut_166 ?_
      refine x_put S hI hK hP hS w_lay_X1 tyX1 tyX1_ok nmX1 (ci := 1) rfl (7 + (ix (gI M c1 0))) (ok_lt (ok_m1 hn (ib_lt h1))) (e1 (ok_m1 hn (ib_lt h1)).1) 1 (by decide) w_fl_X0_191 rfl rfl rfl rfl (Nat.le_of_ble_eq_true rfl) (entC E ad n (sL M23 (7 + (ix (gI M c1 0))) 1 ((gL M23 (7 + (ix (gI M c1 0))) 1) + x20))) (h1_X1_1 (ok_m1 hn (ib_lt h1)).1 ) (fun _ h => entC_sL _ h) dX0_payOut_167 (fun H locs hP hS => ?_)
      obtain ⟨M25, eM25, hf⟩ := bnd_some hf
      rw [← eM25] at hP
      refine lv_aload_n S.1 S.2.1 dX0_payOut_170 rfl (lv_at hl 6 rfl) ?_
      refine lv_dup S.1 S.2.1 dX0_payOut_171 rfl ?_
      refine x_get (v := .long (gL M25 c1 7)) S hK hP w_lay_X3 (ci := 3) rfl c1 (ok_lt P1) (e3 P1.1) 7 (by decide) w_fl_X0_194 rfl rfl dX0_payOut_172 ?_
      refine lv_lload_n S.1 S.2.1 dX0_payOut_175 rfl (lv_at hl 7 rfl) ?_
      refine lv_ladd S.1 S.2.1 dX0_payOut_176 ?_
      refine x_put S hI hK hP hS w_lay_X3 tyX3 tyX3_ok nmX3 (ci := 3) rfl c1 (ok_lt P1) (e3 P1.1) 7 (by decide) w_fl_X0_194 rfl rfl rfl rfl (Nat.le_of_ble_eq_true rfl) (entC E ad n (sL M25 c1 7 ((gL M25 c1 7) + a2))) (h1_X3_7 P1.1 ) (fun _ h => entC_sL _ h) dX0_payOut_177 (fun H locs hP hS => ?_)
      obtain ⟨M26, eM26, hf⟩ := bnd_some hf
      rw [← eM26] at hP
      cases hf
      exact r_v S hr hlk hP hS dX0_payOut_180
    · replace hf := iff_ h24 hf
      refine lv_aload_n S.1 S.2.1 dX0_payOut_128 rfl (lv_at hl 6 rfl) ?_
      refine lv_dup S.1 S.2.1 dX0_payOut_129 rfl ?_
      refine x_get (v := .long (gL M23 c1 11)) S hK hP w_lay_X3 (ci := 3) rfl c1 (ok_lt P1) (e3 P1.1) 11 (by decide) w_fl_X0_188 rfl rfl dX0_payOut_130 ?_
      refine lv_lload S.1 S.2.1 dX0_payOut_133 (lv_at hl 1 rfl) ?_
      refine lv_lsub S.1 S.2.1 dX0_payOut_135 ?_
      refine x_put S hI hK hP hS w_lay_X3 tyX3 tyX3_ok nmX3 (ci := 3) rfl c1 (ok_lt P1) (e3 P1.1) 11 (by decide) w_fl_X0_188 rfl rfl rfl rfl (Nat.le_of_ble_eq_true rfl) (entC E ad n (sL M23 c1 11 ((gL M23 c1 11) - x19))) (h1_X3_11 P1.1 ) (fun _ h => entC_sL _ h) dX0_payOut_136 (fun H locs hP hS => ?_)
      obtain ⟨M27, eM27, hf⟩ := bnd_some hf
      rw [← eM27] at hP
      refine lv_aload_n S.1 S.2.1 dX0_payOut_139 rfl (lv_at hl 5 rfl) ?_
      refine x_get (v := .ref (ad 4)) S hK hP w_lay_X0 (ci := 0) rfl 1 (ok_lt (ok_b1 hn)) (e0 (ok_b1 hn).1) 1 (by decide) w_fl_X0_20 rfl rfl dX0_payOut_140 ?_
      refine lv_aload_n S.1 S.2.1 dX0_payOut_143 rfl (lv_at hl 6 rfl) ?_
      refine x_get (v := .int (gI M27 c1 12)) S hK hP w_lay_X3 (ci := 3) rfl c1 (ok_lt P1) (e3 P1.1) 12 (by decide) w_fl_X0_185 rfl rfl dX0_payOut_144 ?_
      obtain ⟨h28, hf⟩ := gd_some hf
      refine x_aald S hK hP 4 (ok_lt (ok_ma1 hn)) e9_1 2 rfl h28 dX0_payOut_147 ?_
      refine lv_dup S.1 S.2.1 dX0_payOut_148 rfl ?_
      refine x_get (v := .long (gL M27 (7 + (ix (gI M27 c1 12))) 1)) S hK hP w_lay_X1 (ci := 1) rfl (7 + (ix (gI M27 c1 12))) (ok_lt (ok_m1 hn (ib_lt h28))) (e1 (ok_m1 hn (ib_lt h28)).1) 1 (by decide) w_fl_X0_191 rfl rfl dX0_payOut_149 ?_
      refine lv_lload S.1 S.2.1 dX0_payOut_152 (lv_at hl 1 rfl) ?_
      refine lv_ladd S.1 S.2.1 dX0_payOut_154 ?_
      refine x_put S hI hK hP hS w_lay_X1 tyX1 tyX1_ok nmX1 (ci := 1) rfl (7 + (ix (gI M27 c1 12))) (ok_lt (ok_m1 hn (ib_lt h28))) (e1 (ok_m1 hn (ib_lt h28)).1) 1 (by decide) w_fl_X0_191 rfl rfl rfl rfl (Nat.le_of_ble_eq_true rfl) (entC E ad n (sL M27 (7 + (ix (gI M27 c1 12))) 1 ((gL M27 (7 + (ix (gI M27 c1 12))) 1) + x19))) (h1_X1_1 (ok_m1 hn (ib_lt h28)).1 ) (fun _ h => entC_sL _ h) dX0_payOut_155 (fun H locs hP hS => ?_)
      obtain ⟨M29, eM29, hf⟩ := bnd_some hf
      rw [← eM29] at hP
      refine lv_aload S.1 S.2.1 dX0_payOut_158 (lv_at hl 4 rfl) ?_
      refine lv_dup S.1 S.2.1 dX0_payOut_160 rfl ?_
      refine x_get (v := .long (gL M29 (7 + (ix (gI M c1 0))) 1)) S hK hP w_lay_X1 (ci := 1) rfl (7 + (ix (gI M c1 0))) (ok_lt (ok_m1 hn (ib_lt h1))) (e1 (ok_m1 hn (ib_lt h1)).1) 1 (by decide) w_fl_X0_191 rfl rfl dX0_payOut_161 ?_
      refine lv_lload S.1 S.2.1 dX0_payOut_164 (lv_at hl 0 rfl) ?_
      refine lv_ladd S.1 S.2.1 dX0_payOut_166 ?_
      refine x_put S hI hK hP hS w_lay_X1 tyX1 tyX1_ok nmX1 (ci := 1) rfl (7 + (ix (gI M c1 0))) (ok_lt (ok_m1 hn (ib_lt h1))) (e1 (ok_m1 hn (ib_lt h1)).1) 1 (by decide) w_fl_X0_191 rfl rfl rfl rfl (Nat.le_of_ble_eq_true rfl) (entC E ad n (sL M29 (7 + (ix (gI M c1 0))) 1 ((gL M29 (7 + (ix (gI M c1 0))) 1) + x20))) (h1_X1_1 (ok_m1 hn (ib_lt h1)).1 ) (fun _ h => entC_sL _ h) dX0_payOut_167 (fun H locs hP hS => ?_)
      obtain ⟨M30, eM30, hf⟩ := bnd_some hf
      rw [← eM30] at hP
      refine lv_aload_n S.1 S.2.1 dX0_payOut_170 rfl (lv_at hl 6 rfl) ?_
      refine lv_dup S.1 S.2.1 dX0_payOut_171 rfl ?_
      refine x_get (v := .long (gL M30 c1 7)) S hK hP w_lay_X3 (ci := 3) rfl c1 (ok_lt P1) (e3 P1.1) 7 (by decide) w_fl_X0_194 rfl rfl dX0_payOut_172 ?_
      refine lv_lload_n S.1 S.2.1 dX0_payOut_175 rfl (lv_at hl 7 rfl) ?_
      refine lv_ladd S.1 S.2.1 dX0_payOut_176 ?_
      refine x_put S hI hK hP hS w_lay_X3 tyX3 tyX3_ok nmX3 (ci := 3) rfl c1 (ok_lt P1) (e3 P1.1) 7 (by decide) w_fl_X0_194 rfl rfl rfl rfl (Nat.le_of_ble_eq_true rfl) (entC E ad n (sL M30 c1 7 ((gL M30 c1 7) + a2))) (h1_X3_7 P1.1 ) (fun _ h => entC_sL _ h) dX0_payOut_177 (fun H locs hP hS => ?_)
      obtain ⟨M31, eM31, hf⟩ := bnd_some hf
      rw [← eM31] at hP
      cases hf
      exact r_v S hr hlk hP hS dX0_payOut_180
theorem hd_X0_payHeld : yX0_payHeld.cls ≠ "java/lang/invoke/MethodHandle" ∧ yX0_payHeld.cls ≠ "java/lang/invoke/VarHandle" ∧ (parseMethodDescriptor yX0_payHeld.desc).map (fun d => d.parameters.length) = some 1 := by decide +kernel
set_option maxHeartbeats 4000000 in
set_option maxRecDepth 100000 in
theorem K_X0_payHeld (l : Launch) (E : EE) (ad : Nat → Nat) (n : Nat) (hI : ad_I ad n) (hn : 117 ≤ n) (sz : Nat) (N : Nat) (c1 : Nat) (P1 : ok 3 n c1) (M : MM) (r : Int64) (M' : MM) (hf : F_X0_payHeld N c1 M = some (r, M')) : CtL l yX0_payHeld cX0_payHeld 4 4 99 E (entC E ad n M) (entC E ad n M') ad n sz [.ref (ad 1), .ref (ad c1)] (r) := by
  unfold CtL
  refine body_of (by decide) "SurvivorPurse$Book" rfl (Nat.le_of_ble_eq_true rfl) ?_
  intro p e s m below meth c hsz S hr hlk hP hK hN ls hl
  subst hsz
  have hS : va_S (AA ad n s.heap.size) s.heap s.heap [] := va_S.rf
  have hl : lv_has ls 4 [(0, .ref (ad 1)), (1, .ref (ad c1))] := hl
  rw [F_X0_payHeld] at hf
  refine lv_aload_n S.1 S.2.1 dX0_payHeld_0 rfl (lv_at hl 1 rfl) ?_
  refine lv_aload_n S.1 S.2.1 dX0_payHeld_1 rfl (lv_at hl 0 rfl) ?_
  refine x_get (v := .int (gI M 1 7)) S hK hP w_lay_X0 (ci := 0) rfl 1 (ok_lt (ok_b1 hn)) (e0 (ok_b1 hn).1) 7 (by decide) w_fl_X0_56 rfl rfl dX0_payHeld_2 ?_
  obtain ⟨x2, M1, gM1, hf⟩ := bn2_some hf
  refine y_Vl (As := [.int (gI M 1 7)]) S hK hN hP hS rfl (ok_lt P1) (e3 P1.1) rfl (K_X3_release l E ad n hI hn _ N c1 (gI M 1 7) P1 M x2 M1 gM1) (cV 1 S w_co_yX3_release w_in_X3 w_ml_X0_197 w_im_yX3_release w_se_yX3_release hd_X3_release ⟨Nat.le_of_ble_eq_true rfl, Nat.le_of_ble_eq_true rfl⟩) hl.1 rfl rfl (Nat.le_of_ble_eq_true rfl) dX0_payHeld_5 ⟨Nat.zero_le _, Nat.zero_le _⟩ (fun H locs hP hS => ?_)
  refine lv_lstore_n (lv' := [(2, .long x2), (0, .ref (ad 1)), (1, .ref (ad c1))]) S.1 S.2.1 dX0_payHeld_8 rfl hl (by decide) rfl (fun ls hl => ?_)
  refine lv_aload_n S.1 S.2.1 dX0_payHeld_9 rfl (lv_at hl 1 rfl) ?_
  refine lv_aload_n S.1 S.2.1 dX0_payHeld_10 rfl (lv_at hl 2 rfl) ?_
  refine lv_lload_n S.1 S.2.1 dX0_payHeld_11 rfl (lv_at hl 0 rfl) ?_
  obtain ⟨M3, gM3, hf⟩ := bn1_some hf
  refine y_Vv (As := [.ref (ad c1), .long x2]) S hK hN hP hS rfl (ok_lt (ok_b1 hn)) (e0 (ok_b1 hn).1) rfl (K_X0_payOut l E ad n hI hn _ N c1 x2 P1 M1 M3 gM3) (cV 2 S w_co_yX0_payOut w_in_X0 w_ml_X0_201 w_im_yX0_payOut w_se_yX0_payOut hd_X0_payOut ⟨Nat.le_of_ble_eq_true rfl, Nat.le_of_ble_eq_true rfl⟩) hl.1 rfl rfl (Nat.le_of_ble_eq_true rfl) dX0_payHeld_12 ⟨Nat.zero_le _, Nat.zero_le _⟩ (fun H locs hP hS => ?_)
  refine lv_lload_n S.1 S.2.1 dX0_payHeld_15 rfl (lv_at hl 0 rfl) ?_
  cases hf
  exact r_l S hr hlk hP hS dX0_payHeld_16
theorem hd_X0_prove : yX0_prove.cls ≠ "java/lang/invoke/MethodHandle" ∧ yX0_prove.cls ≠ "java/lang/invoke/VarHandle" ∧ (parseMethodDescriptor yX0_prove.desc).map (fun d => d.parameters.length) = some 1 := by decide +kernel
set_option maxHeartbeats 4000000 in
set_option maxRecDepth 100000 in
theorem L_X0_prove_15 (l : Launch) (E : EE) (ad : Nat → Nat) (n : Nat) (hI : ad_I ad n) (hn : 117 ≤ n) (N : Nat) (a1 : Int32)  {p : Program} {e : Env} {s : State} {m : MethodId} {below : List Frame} {meth : Method} {c : Code} (S : CallFix p m c cX0_prove 5 s [.ref (ad 1), .int a1].toArray bg_B "SurvivorPurse$Book") (hr : meth.sig.returnType = (some .long)) (hlk : meth.locks = false) (hK : va_K E.1 vwCl (tysE E) s) (hN : NW s) (r : Int64) (M' : MM) : ∀ (fu : Nat) (v2 : Int64) (v4 : Int32)  (M : MM), F_X0_prove_15 N a1 fu v2 v4 M = some (r, M') → ∀ (H : Heap) (locs : List Loc) (ls : Array Slot), va_P E.1 vwCl (mw (entC E ad n M) ad n) H → va_S (AA ad n s.heap.size) s.heap H locs → lv_has ls 5 [(0, .ref (ad 1)), (1, .int a1), (2, .long v2), (4, .int v4)] → W p l e { frames := 5, cells := 0, slots := 0, locals := 122 } s m [.ref (ad 1), .int a1].toArray below meth c H locs 0 0 (MQ below (va_Ql (fun r0 (_ : Unit) => r0 = r) (fun _ t => QB E (entC E ad n M') ad n t) (AA ad n s.heap.size)) [.ref (ad 1), .int a1].toArray s 0 0 (AA ad n s.heap.size)) (F0 m 15 ls []) := by
  intro fu
  induction fu with
  | zero =>
    intro v2 v4 M hf
    rw [F_X0_prove_15] at hf
    cases hf
  | succ fu ih =>
    intro v2 v4 M hf H locs ls hP hS hl
    rw [F_X0_prove_15] at hf
    refine lv_iload S.1 S.2.1 dX0_prove_15 (lv_at hl 3 rfl) ?_
    refine lv_aload_n S.1 S.2.1 dX0_prove_17 rfl (lv_at hl 0 rfl) ?_
    refine x_get (v := .int (gI M 1 6)) S hK hP w_lay_X0 (ci := 0) rfl 1 (ok_lt (ok_b1 hn)) (e0 (ok_b1 hn).1) 6 (by decide) w_fl_X0_53 rfl rfl dX0_prove_18 ?_
    refine lv_icmp_ge (tgt := 69) S.1 S.2.1 dX0_prove_21 (by decide) (fun h3 => ?_) (fun h3 => ?_)
    · replace hf := ift h3 hf
      refine lv_lload_n S.1 S.2.1 dX0_prove_69 rfl (lv_at hl 2 rfl) ?_
      cases hf
      exact r_l S hr hlk hP hS dX0_prove_70
    · replace hf := iff_ h3 hf
      refine lv_aload_n S.1 S.2.1 dX0_prove_24 rfl (lv_at hl 0 rfl) ?_
      refine x_get (v := .ref (ad 6)) S hK hP w_lay_X0 (ci := 0) rfl 1 (ok_lt (ok_b1 hn)) (e0 (ok_b1 hn).1) 3 (by decide) w_fl_X0_32 rfl rfl dX0_prove_25 ?_
      refine lv_iload S.1 S.2.1 dX0_prove_28 (lv_at hl 3 rfl) ?_
      obtain ⟨h4, hf⟩ := gd_some hf
      refine x_aald S hK hP 6 (ok_lt (ok_sa1 hn)) e11_1 4 rfl h4 dX0_prove_30 ?_
      refine lv_iload_n S.1 S.2.1 dX0_prove_31 rfl (lv_at hl 1 rfl) ?_
      refine y_Vi (As := [.int a1]) S hK hN hP hS rfl (ok_lt (ok_s1 hn (ib_lt h4))) (e3 (ok_s1 hn (ib_lt h4)).1) rfl (K_X3_hasLife l E ad n hI hn _ (37 + (ix v4)) a1 (ok_s1 hn (ib_lt h4)) M _ rfl) (cV 1 S w_co_yX3_hasLife w_in_X3 w_ml_X0_205 w_im_yX3_hasLife w_se_yX3_hasLife hd_X3_hasLife ⟨Nat.le_of_ble_eq_true rfl, Nat.le_of_ble_eq_true rfl⟩) hl.1 rfl rfl (Nat.le_of_ble_eq_true rfl) dX0_prove_32 ⟨Nat.zero_le _, Nat.zero_le _⟩ (fun H locs hP hS => ?_)
      refine lv_if_eq (tgt := 63) S.1 S.2.1 dX0_prove_35 (by decide) (fun h5 => ?_) (fun h5 => ?_)
      · replace hf := ift h5 hf
        refine lv_iinc (v := v4 + (1 : Int32)) (lv' := [(4, .int (v4 + (1 : Int32))), (0, .ref (ad 1)), (1, .int a1), (2, .long v2)]) S.1 S.2.1 dX0_prove_63 hl (k := 3) rfl rfl (by decide) rfl (fun ls hl => ?_)
        refine lv_goto (tgt := 15) S.1 S.2.1 dX0_prove_66 (by decide) ?_
        exact ih v2 (v4 + (1 : Int32))  M hf _ _ _ hP hS (lv_sub hl [1, 2, 3, 0] rfl)
      · replace hf := iff_ h5 hf
        refine lv_lload_n S.1 S.2.1 dX0_prove_38 rfl (lv_at hl 2 rfl) ?_
        refine lv_aload_n S.1 S.2.1 dX0_prove_39 rfl (lv_at hl 0 rfl) ?_
        refine lv_aload_n S.1 S.2.1 dX0_prove_40 rfl (lv_at hl 0 rfl) ?_
        refine x_get (v := .ref (ad 6)) S hK hP w_lay_X0 (ci := 0) rfl 1 (ok_lt (ok_b1 hn)) (e0 (ok_b1 hn).1) 3 (by decide) w_fl_X0_32 rfl rfl dX0_prove_41 ?_
        refine lv_iload S.1 S.2.1 dX0_prove_44 (lv_at hl 3 rfl) ?_
        refine x_aald S hK hP 6 (ok_lt (ok_sa1 hn)) e11_1 4 rfl h4 dX0_prove_46 ?_
        obtain ⟨x7, M6, gM6, hf⟩ := bn2_some hf
        refine y_Vl (As := [.ref (ad (37 + (ix v4)))]) S hK hN hP hS rfl (ok_lt (ok_b1 hn)) (e0 (ok_b1 hn).1) rfl (K_X0_payHeld l E ad n hI hn _ N (37 + (ix v4)) (ok_s1 hn (ib_lt h4)) M x7 M6 gM6) (cV 1 S w_co_yX0_payHeld w_in_X0 w_ml_X0_208 w_im_yX0_payHeld w_se_yX0_payHeld hd_X0_payHeld ⟨Nat.le_of_ble_eq_true rfl, Nat.le_of_ble_eq_true rfl⟩) hl.1 rfl rfl (Nat.le_of_ble_eq_true rfl) dX0_prove_47 ⟨Nat.zero_le _, Nat.zero_le _⟩ (fun H locs hP hS => ?_)
        refine lv_ladd S.1 S.2.1 dX0_prove_50 ?_
        obtain ⟨x8, ex8, hf⟩ := bnd_some hf
        refine lv_rel ex8 ?_
        refine lv_lstore_n (lv' := [(2, .long x8), (0, .ref (ad 1)), (1, .int a1), (4, .int v4)]) S.1 S.2.1 dX0_prove_51 rfl hl (by decide) rfl (fun ls hl => ?_)
        refine lv_aload_n S.1 S.2.1 dX0_prove_52 rfl (lv_at hl 1 rfl) ?_
        refine x_get (v := .ref (ad 6)) S hK hP w_lay_X0 (ci := 0) rfl 1 (ok_lt (ok_b1 hn)) (e0 (ok_b1 hn).1) 3 (by decide) w_fl_X0_32 rfl rfl dX0_prove_53 ?_
        refine lv_iload S.1 S.2.1 dX0_prove_56 (lv_at hl 3 rfl) ?_
        refine x_aald S hK hP 6 (ok_lt (ok_sa1 hn)) e11_1 4 rfl h4 dX0_prove_58 ?_
        refine lv_iconst (v := (0 : Int32)) S.1 S.2.1 dX0_prove_59 (by decide) ?_
        refine x_put S hI hK hP hS w_lay_X3 tyX3 tyX3_ok nmX3 (ci := 3) rfl (37 + (ix v4)) (ok_lt (ok_s1 hn (ib_lt h4))) (e3 (ok_s1 hn (ib_lt h4)).1) 10 (by decide) w_fl_X0_162 rfl rfl rfl rfl (Nat.le_of_ble_eq_true rfl) (entC E ad n (sI M6 (37 + (ix v4)) 10 (0 : Int32))) (h1_X3_10 (ok_s1 hn (ib_lt h4)).1 ) (fun _ h => entC_sI _ h) dX0_prove_60 (fun H locs hP hS => ?_)
        obtain ⟨M9, eM9, hf⟩ := bnd_some hf
        rw [← eM9] at hP
        refine lv_iinc (v := v4 + (1 : Int32)) (lv' := [(4, .int (v4 + (1 : Int32))), (2, .long x8), (0, .ref (ad 1)), (1, .int a1)]) S.1 S.2.1 dX0_prove_63 hl (k := 3) rfl rfl (by decide) rfl (fun ls hl => ?_)
        refine lv_goto (tgt := 15) S.1 S.2.1 dX0_prove_66 (by decide) ?_
        exact ih x8 (v4 + (1 : Int32))  M9 hf _ _ _ hP hS (lv_sub hl [2, 3, 1, 0] rfl)
set_option maxHeartbeats 4000000 in
set_option maxRecDepth 100000 in
theorem K_X0_prove (l : Launch) (E : EE) (ad : Nat → Nat) (n : Nat) (hI : ad_I ad n) (hn : 117 ≤ n) (sz : Nat) (N : Nat) (a1 : Int32)  (M : MM) (r : Int64) (M' : MM) (hf : F_X0_prove N a1 M = some (r, M')) : CtL l yX0_prove cX0_prove 5 5 122 E (entC E ad n M) (entC E ad n M') ad n sz [.ref (ad 1), .int a1] (r) := by
  unfold CtL
  refine body_of (by decide) "SurvivorPurse$Book" rfl (Nat.le_of_ble_eq_true rfl) ?_
  intro p e s m below meth c hsz S hr hlk hP hK hN ls hl
  subst hsz
  have hS : va_S (AA ad n s.heap.size) s.heap s.heap [] := va_S.rf
  have hl : lv_has ls 5 [(0, .ref (ad 1)), (1, .int a1)] := hl
  rw [F_X0_prove] at hf
  refine lv_aload_n S.1 S.2.1 dX0_prove_0 rfl (lv_at hl 0 rfl) ?_
  refine x_get (v := .ref (ad 4)) S hK hP w_lay_X0 (ci := 0) rfl 1 (ok_lt (ok_b1 hn)) (e0 (ok_b1 hn).1) 1 (by decide) w_fl_X0_20 rfl rfl dX0_prove_1 ?_
  refine lv_iload_n S.1 S.2.1 dX0_prove_4 rfl (lv_at hl 1 rfl) ?_
  obtain ⟨h1, hf⟩ := gd_some hf
  refine x_aald S hK hP 4 (ok_lt (ok_ma1 hn)) e9_1 2 rfl h1 dX0_prove_5 ?_
  refine lv_iconst (v := (1 : Int32)) S.1 S.2.1 dX0_prove_6 (by decide) ?_
  refine x_put S hI hK hP hS w_lay_X1 tyX1 tyX1_ok nmX1 (ci := 1) rfl (7 + (ix a1)) (ok_lt (ok_m1 hn (ib_lt h1))) (e1 (ok_m1 hn (ib_lt h1)).1) 4 (by decide) w_fl_X0_146 rfl rfl (bo_nar (by decide)) (bo_fit (by decide)) (Nat.le_of_ble_eq_true rfl) (entC E ad n (sI M (7 + (ix a1)) 4 (1 : Int32))) (h1_X1_4 (ok_m1 hn (ib_lt h1)).1 (by decide)) (fun _ h => entC_sI _ h) dX0_prove_7 (fun H locs hP hS => ?_)
  obtain ⟨M2, eM2, hf⟩ := bnd_some hf
  rw [← eM2] at hP
  refine lv_lconst (v := (0 : Int64)) S.1 S.2.1 dX0_prove_10 (by decide) ?_
  refine lv_lstore_n (lv' := [(2, .long (0 : Int64)), (0, .ref (ad 1)), (1, .int a1)]) S.1 S.2.1 dX0_prove_11 rfl hl (by decide) rfl (fun ls hl => ?_)
  refine lv_iconst (v := (0 : Int32)) S.1 S.2.1 dX0_prove_12 (by decide) ?_
  refine lv_istore (lv' := [(4, .int (0 : Int32)), (2, .long (0 : Int64)), (0, .ref (ad 1)), (1, .int a1)]) S.1 S.2.1 dX0_prove_13 hl (by decide) rfl (fun ls hl => ?_)
  exact L_X0_prove_15 l E ad n hI hn N a1  S hr hlk hK hN _ _ N (0 : Int64) (0 : Int32)  M2 hf _ _ _ hP hS (lv_sub hl [2, 3, 1, 0] rfl)
theorem hd_X0_partPot : yX0_partPot.cls ≠ "java/lang/invoke/MethodHandle" ∧ yX0_partPot.cls ≠ "java/lang/invoke/VarHandle" ∧ (parseMethodDescriptor yX0_partPot.desc).map (fun d => d.parameters.length) = some 1 := by decide +kernel
set_option maxHeartbeats 4000000 in
set_option maxRecDepth 100000 in
theorem L_X0_partPot_33 (l : Launch) (E : EE) (ad : Nat → Nat) (n : Nat) (hI : ad_I ad n) (hn : 117 ≤ n) (N : Nat) (a1 : Int32)  {p : Program} {e : Env} {s : State} {m : MethodId} {below : List Frame} {meth : Method} {c : Code} (S : CallFix p m c cX0_partPot 8 s [.ref (ad 1), .int a1].toArray bg_B "SurvivorPurse$Book") (hr : meth.sig.returnType = none) (hlk : meth.locks = false) (hK : va_K E.1 vwCl (tysE E) s) (hN : NW s) (M' : MM) : ∀ (fu : Nat) (v2 : Int64) (v4 : Int64) (v6 : Int32)  (M : MM), F_X0_partPot_33 N a1 fu v2 v4 v6 M = some M' → ∀ (H : Heap) (locs : List Loc) (ls : Array Slot), va_P E.1 vwCl (mw (entC E ad n M) ad n) H → va_S (AA ad n s.heap.size) s.heap H locs → lv_has ls 8 [(0, .ref (ad 1)), (2, .long v2), (4, .long v4), (6, .int v6)] → W p l e { frames := 6, cells := 0, slots := 0, locals := 130 } s m [.ref (ad 1), .int a1].toArray below meth c H locs 0 0 (MQ below (va_Qv (fun (_ : Unit) => True) (fun _ t => QB E (entC E ad n M') ad n t) (AA ad n s.heap.size)) [.ref (ad 1), .int a1].toArray s 0 0 (AA ad n s.heap.size)) (F0 m 33 ls []) := by
  intro fu
  induction fu with
  | zero =>
    intro v2 v4 v6 M hf
    rw [F_X0_partPot_33] at hf
    cases hf
  | succ fu ih =>
    intro v2 v4 v6 M hf H locs ls hP hS hl
    rw [F_X0_partPot_33] at hf
    refine lv_iload S.1 S.2.1 dX0_partPot_33 (lv_at hl 3 rfl) ?_
    refine lv_aload_n S.1 S.2.1 dX0_partPot_35 rfl (lv_at hl 0 rfl) ?_
    refine x_get (v := .int (gI M 1 5)) S hK hP w_lay_X0 (ci := 0) rfl 1 (ok_lt (ok_b1 hn)) (e0 (ok_b1 hn).1) 5 (by decide) w_fl_X0_50 rfl rfl dX0_partPot_36 ?_
    refine lv_icmp_ge (tgt := 110) S.1 S.2.1 dX0_partPot_39 (by decide) (fun h4 => ?_) (fun h4 => ?_)
    · replace hf := ift h4 hf
      cases hf
      exact r_v S hr hlk hP hS dX0_partPot_110
    · replace hf := iff_ h4 hf
      refine lv_aload_n S.1 S.2.1 dX0_partPot_42 rfl (lv_at hl 0 rfl) ?_
      refine x_get (v := .ref (ad 5)) S hK hP w_lay_X0 (ci := 0) rfl 1 (ok_lt (ok_b1 hn)) (e0 (ok_b1 hn).1) 2 (by decide) w_fl_X0_26 rfl rfl dX0_partPot_43 ?_
      refine lv_iload S.1 S.2.1 dX0_partPot_46 (lv_at hl 3 rfl) ?_
      obtain ⟨h5, hf⟩ := gd_some hf
      refine x_aald S hK hP 5 (ok_lt (ok_ra1 hn)) e10_1 3 rfl h5 dX0_partPot_48 ?_
      refine lv_astore (lv' := [(7, .ref (ad (31 + (ix v6)))), (0, .ref (ad 1)), (2, .long v2), (4, .long v4), (6, .int v6)]) S.1 S.2.1 dX0_partPot_49 hl (by decide) rfl (fun ls hl => ?_)
      refine lv_aload S.1 S.2.1 dX0_partPot_51 (lv_at hl 0 rfl) ?_
      refine lv_aload_n S.1 S.2.1 dX0_partPot_53 rfl (lv_at hl 1 rfl) ?_
      refine lv_iload S.1 S.2.1 dX0_partPot_54 (lv_at hl 4 rfl) ?_
      obtain ⟨x6, gx6, hf⟩ := bn1_some hf
      refine y_Vl (As := [.int v6]) S hK hN hP hS rfl (ok_lt (ok_b1 hn)) (e0 (ok_b1 hn).1) rfl (K_X0_drawingUnits l E ad n hI hn _ N v6  M x6 gx6) (cV 1 S w_co_yX0_drawingUnits w_in_X0 w_ml_X0_229 w_im_yX0_drawingUnits w_se_yX0_drawingUnits hd_X0_drawingUnits ⟨Nat.le_of_ble_eq_true rfl, Nat.le_of_ble_eq_true rfl⟩) hl.1 rfl rfl (Nat.le_of_ble_eq_true rfl) dX0_partPot_56 ⟨Nat.zero_le _, Nat.zero_le _⟩ (fun H locs hP hS => ?_)
      refine x_put S hI hK hP hS w_lay_X2 tyX2 tyX2_ok nmX2 (ci := 2) rfl (31 + (ix v6)) (ok_lt (ok_r1 hn (ib_lt h5))) (e2 (ok_r1 hn (ib_lt h5)).1) 5 (by decide) w_fl_X0_232 rfl rfl rfl rfl (Nat.le_of_ble_eq_true rfl) (entC E ad n (sL M (31 + (ix v6)) 5 x6)) (h1_X2_5 (ok_r1 hn (ib_lt h5)).1 ) (fun _ h => entC_sL _ h) dX0_partPot_59 (fun H locs hP hS => ?_)
      obtain ⟨M7, eM7, hf⟩ := bnd_some hf
      rw [← eM7] at hP
      refine lv_aload S.1 S.2.1 dX0_partPot_62 (lv_at hl 0 rfl) ?_
      refine lv_lload S.1 S.2.1 dX0_partPot_64 (lv_at hl 3 rfl) ?_
      refine lv_aload_n S.1 S.2.1 dX0_partPot_66 rfl (lv_at hl 1 rfl) ?_
      refine x_get (v := .long (gL M7 1 10)) S hK hP w_lay_X0 (ci := 0) rfl 1 (ok_lt (ok_b1 hn)) (e0 (ok_b1 hn).1) 10 (by decide) w_fl_X0_62 rfl rfl dX0_partPot_67 ?_
      refine lv_aload S.1 S.2.1 dX0_partPot_70 (lv_at hl 0 rfl) ?_
      refine x_get (v := .long (gL M7 (31 + (ix v6)) 3)) S hK hP w_lay_X2 (ci := 2) rfl (31 + (ix v6)) (ok_lt (ok_r1 hn (ib_lt h5))) (e2 (ok_r1 hn (ib_lt h5)).1) 3 (by decide) w_fl_X0_110 rfl rfl dX0_partPot_72 ?_
      refine lv_lload_n S.1 S.2.1 dX0_partPot_75 rfl (lv_at hl 2 rfl) ?_
      refine y_Nl (As := [.long (gL M7 1 10), .long (gL M7 (31 + (ix v6)) 3), .long v2]) S hK hN hP hS rfl (K_X5_parted l E ad n hI hn _ (gL M7 1 10) (gL M7 (31 + (ix v6)) 3) v2  M7 _ rfl) (cN 3 S hN w_co_yX5_parted w_in_X5 w_ml_X0_174 w_st_yX5_parted hd_X5_parted ⟨Nat.le_of_ble_eq_true rfl, Nat.le_of_ble_eq_true rfl⟩) hl.1 rfl rfl (Nat.le_of_ble_eq_true rfl) dX0_partPot_76 ⟨Nat.zero_le _, Nat.zero_le _⟩ (fun H locs hP hS => ?_)
      refine lv_ladd S.1 S.2.1 dX0_partPot_79 ?_
      refine x_put S hI hK hP hS w_lay_X2 tyX2 tyX2_ok nmX2 (ci := 2) rfl (31 + (ix v6)) (ok_lt (ok_r1 hn (ib_lt h5))) (e2 (ok_r1 hn (ib_lt h5)).1) 4 (by decide) w_fl_X0_235 rfl rfl rfl rfl (Nat.le_of_ble_eq_true rfl) (entC E ad n (sL M7 (31 + (ix v6)) 4 (v4 + (F_X5_parted (gL M7 1 10) (gL M7 (31 + (ix v6)) 3) v2)))) (h1_X2_4 (ok_r1 hn (ib_lt h5)).1 ) (fun _ h => entC_sL _ h) dX0_partPot_80 (fun H locs hP hS => ?_)
      obtain ⟨M8, eM8, hf⟩ := bnd_some hf
      rw [← eM8] at hP
      refine lv_aload S.1 S.2.1 dX0_partPot_83 (lv_at hl 0 rfl) ?_
      refine x_get (v := .long (gL M8 (31 + (ix v6)) 5)) S hK hP w_lay_X2 (ci := 2) rfl (31 + (ix v6)) (ok_lt (ok_r1 hn (ib_lt h5))) (e2 (ok_r1 hn (ib_lt h5)).1) 5 (by decide) w_fl_X0_232 rfl rfl dX0_partPot_85 ?_
      refine lv_lconst (v := (0 : Int64)) S.1 S.2.1 dX0_partPot_88 (by decide) ?_
      refine ll_le (tgt := 97) S dX0_partPot_89 dX0_partPot_90 (by decide) (fun h9 => ?_) (fun h9 => ?_)
      · replace hf := ift h9 hf
        refine lv_aload S.1 S.2.1 dX0_partPot_97 (lv_at hl 0 rfl) ?_
        refine x_get (v := .long (gL M8 (31 + (ix v6)) 4)) S hK hP w_lay_X2 (ci := 2) rfl (31 + (ix v6)) (ok_lt (ok_r1 hn (ib_lt h5))) (e2 (ok_r1 hn (ib_lt h5)).1) 4 (by decide) w_fl_X0_235 rfl rfl dX0_partPot_99 ?_
        obtain ⟨x10, ex10, hf⟩ := bnd_some hf
        refine lv_rel ex10 ?_
        refine lv_lstore (lv' := [(4, .long x10), (7, .ref (ad (31 + (ix v6)))), (0, .ref (ad 1)), (2, .long v2), (6, .int v6)]) S.1 S.2.1 dX0_partPot_102 hl (by decide) rfl (fun ls hl => ?_)
        refine lv_iinc (v := v6 + (1 : Int32)) (lv' := [(6, .int (v6 + (1 : Int32))), (4, .long x10), (7, .ref (ad (31 + (ix v6)))), (0, .ref (ad 1)), (2, .long v2)]) S.1 S.2.1 dX0_partPot_104 hl (k := 4) rfl rfl (by decide) rfl (fun ls hl => ?_)
        refine lv_goto (tgt := 33) S.1 S.2.1 dX0_partPot_107 (by decide) ?_
        exact ih v2 x10 (v6 + (1 : Int32))  M8 hf _ _ _ hP hS (lv_sub hl [3, 4, 1, 0] rfl)
      · replace hf := iff_ h9 hf
        refine lv_lconst (v := (0 : Int64)) S.1 S.2.1 dX0_partPot_93 (by decide) ?_
        refine lv_goto (tgt := 102) S.1 S.2.1 dX0_partPot_94 (by decide) ?_
        refine lv_lstore (lv' := [(4, .long (0 : Int64)), (7, .ref (ad (31 + (ix v6)))), (0, .ref (ad 1)), (2, .long v2), (6, .int v6)]) S.1 S.2.1 dX0_partPot_102 hl (by decide) rfl (fun ls hl => ?_)
        refine lv_iinc (v := v6 + (1 : Int32)) (lv' := [(6, .int (v6 + (1 : Int32))), (4, .long (0 : Int64)), (7, .ref (ad (31 + (ix v6)))), (0, .ref (ad 1)), (2, .long v2)]) S.1 S.2.1 dX0_partPot_104 hl (k := 4) rfl rfl (by decide) rfl (fun ls hl => ?_)
        refine lv_goto (tgt := 33) S.1 S.2.1 dX0_partPot_107 (by decide) ?_
        exact ih v2 (0 : Int64) (v6 + (1 : Int32))  M8 hf _ _ _ hP hS (lv_sub hl [3, 4, 1, 0] rfl)
set_option maxHeartbeats 4000000 in
set_option maxRecDepth 100000 in
theorem K_X0_partPot (l : Launch) (E : EE) (ad : Nat → Nat) (n : Nat) (hI : ad_I ad n) (hn : 117 ≤ n) (sz : Nat) (N : Nat) (a1 : Int32)  (M : MM) (M' : MM) (hf : F_X0_partPot N a1 M = some M') : CtV l yX0_partPot cX0_partPot 8 6 130 E (entC E ad n M) (entC E ad n M') ad n sz [.ref (ad 1), .int a1] := by
  unfold CtV
  refine body_of (by decide) "SurvivorPurse$Book" rfl (Nat.le_of_ble_eq_true rfl) ?_
  intro p e s m below meth c hsz S hr hlk hP hK hN ls hl
  subst hsz
  have hS : va_S (AA ad n s.heap.size) s.heap s.heap [] := va_S.rf
  have hl : lv_has ls 8 [(0, .ref (ad 1)), (1, .int a1)] := hl
  rw [F_X0_partPot] at hf
  refine lv_aload_n S.1 S.2.1 dX0_partPot_0 rfl (lv_at hl 0 rfl) ?_
  refine lv_dup S.1 S.2.1 dX0_partPot_1 rfl ?_
  refine x_get (v := .long (gL M 1 10)) S hK hP w_lay_X0 (ci := 0) rfl 1 (ok_lt (ok_b1 hn)) (e0 (ok_b1 hn).1) 10 (by decide) w_fl_X0_62 rfl rfl dX0_partPot_2 ?_
  refine lv_iload_n S.1 S.2.1 dX0_partPot_5 rfl (lv_at hl 1 rfl) ?_
  refine lv_i2l (v := a1.toInt64) S.1 S.2.1 dX0_partPot_6 rfl ?_
  refine lv_ladd S.1 S.2.1 dX0_partPot_7 ?_
  refine x_put S hI hK hP hS w_lay_X0 tyX0 tyX0_ok nmX0 (ci := 0) rfl 1 (ok_lt (ok_b1 hn)) (e0 (ok_b1 hn).1) 10 (by decide) w_fl_X0_62 rfl rfl rfl rfl (Nat.le_of_ble_eq_true rfl) (entC E ad n (sL M 1 10 ((gL M 1 10) + a1.toInt64))) (h1_X0_10 (ok_b1 hn).1 ) (fun _ h => entC_sL _ h) dX0_partPot_8 (fun H locs hP hS => ?_)
  obtain ⟨M1, eM1, hf⟩ := bnd_some hf
  rw [← eM1] at hP
  refine lv_aload_n S.1 S.2.1 dX0_partPot_11 rfl (lv_at hl 0 rfl) ?_
  refine lv_dup S.1 S.2.1 dX0_partPot_12 rfl ?_
  refine x_get (v := .long (gL M1 1 12)) S hK hP w_lay_X0 (ci := 0) rfl 1 (ok_lt (ok_b1 hn)) (e0 (ok_b1 hn).1) 12 (by decide) w_fl_X0_69 rfl rfl dX0_partPot_13 ?_
  refine lv_iload_n S.1 S.2.1 dX0_partPot_16 rfl (lv_at hl 1 rfl) ?_
  refine lv_i2l (v := a1.toInt64) S.1 S.2.1 dX0_partPot_17 rfl ?_
  refine lv_ladd S.1 S.2.1 dX0_partPot_18 ?_
  refine x_put S hI hK hP hS w_lay_X0 tyX0 tyX0_ok nmX0 (ci := 0) rfl 1 (ok_lt (ok_b1 hn)) (e0 (ok_b1 hn).1) 12 (by decide) w_fl_X0_69 rfl rfl rfl rfl (Nat.le_of_ble_eq_true rfl) (entC E ad n (sL M1 1 12 ((gL M1 1 12) + a1.toInt64))) (h1_X0_12 (ok_b1 hn).1 ) (fun _ h => entC_sL _ h) dX0_partPot_19 (fun H locs hP hS => ?_)
  obtain ⟨M2, eM2, hf⟩ := bnd_some hf
  rw [← eM2] at hP
  refine lv_aload_n S.1 S.2.1 dX0_partPot_22 rfl (lv_at hl 0 rfl) ?_
  obtain ⟨x3, gx3, hf⟩ := bn1_some hf
  refine y_Vl (As := []) S hK hN hP hS rfl (ok_lt (ok_b1 hn)) (e0 (ok_b1 hn).1) rfl (K_X0_allStocks l E ad n hI hn _ N   M2 x3 gx3) (cV 0 S w_co_yX0_allStocks w_in_X0 w_ml_X0_225 w_im_yX0_allStocks w_se_yX0_allStocks hd_X0_allStocks ⟨Nat.le_of_ble_eq_true rfl, Nat.le_of_ble_eq_true rfl⟩) hl.1 rfl rfl (Nat.le_of_ble_eq_true rfl) dX0_partPot_23 ⟨Nat.zero_le _, Nat.zero_le _⟩ (fun H locs hP hS => ?_)
  refine lv_lstore_n (lv' := [(2, .long x3), (0, .ref (ad 1)), (1, .int a1)]) S.1 S.2.1 dX0_partPot_26 rfl hl (by decide) rfl (fun ls hl => ?_)
  refine lv_lconst (v := (0 : Int64)) S.1 S.2.1 dX0_partPot_27 (by decide) ?_
  refine lv_lstore (lv' := [(4, .long (0 : Int64)), (2, .long x3), (0, .ref (ad 1)), (1, .int a1)]) S.1 S.2.1 dX0_partPot_28 hl (by decide) rfl (fun ls hl => ?_)
  refine lv_iconst (v := (0 : Int32)) S.1 S.2.1 dX0_partPot_30 (by decide) ?_
  refine lv_istore (lv' := [(6, .int (0 : Int32)), (4, .long (0 : Int64)), (2, .long x3), (0, .ref (ad 1)), (1, .int a1)]) S.1 S.2.1 dX0_partPot_31 hl (by decide) rfl (fun ls hl => ?_)
  exact L_X0_partPot_33 l E ad n hI hn N a1  S hr hlk hK hN _ N x3 (0 : Int64) (0 : Int32)  M2 hf _ _ _ hP hS (lv_sub hl [3, 2, 1, 0] rfl)
theorem hd_X0_giveBack : yX0_giveBack.cls ≠ "java/lang/invoke/MethodHandle" ∧ yX0_giveBack.cls ≠ "java/lang/invoke/VarHandle" ∧ (parseMethodDescriptor yX0_giveBack.desc).map (fun d => d.parameters.length) = some 0 := by decide +kernel
set_option maxHeartbeats 4000000 in
set_option maxRecDepth 100000 in
theorem L_X0_giveBack_2 (l : Launch) (E : EE) (ad : Nat → Nat) (n : Nat) (hI : ad_I ad n) (hn : 117 ≤ n) (N : Nat)   {p : Program} {e : Env} {s : State} {m : MethodId} {below : List Frame} {meth : Method} {c : Code} (S : CallFix p m c cX0_giveBack 3 s [.ref (ad 1)].toArray bg_B "SurvivorPurse$Book") (hr : meth.sig.returnType = none) (hlk : meth.locks = false) (hK : va_K E.1 vwCl (tysE E) s) (hN : NW s) (M' : MM) : ∀ (fu : Nat) (v1 : Int32)  (M : MM), F_X0_giveBack_2 N  fu v1 M = some M' → ∀ (H : Heap) (locs : List Loc) (ls : Array Slot), va_P E.1 vwCl (mw (entC E ad n M) ad n) H → va_S (AA ad n s.heap.size) s.heap H locs → lv_has ls 3 [(0, .ref (ad 1)), (1, .int v1)] → W p l e { frames := 4, cells := 0, slots := 0, locals := 84 } s m [.ref (ad 1)].toArray below meth c H locs 0 0 (MQ below (va_Qv (fun (_ : Unit) => True) (fun _ t => QB E (entC E ad n M') ad n t) (AA ad n s.heap.size)) [.ref (ad 1)].toArray s 0 0 (AA ad n s.heap.size)) (F0 m 2 ls []) := by
  intro fu
  induction fu with
  | zero =>
    intro v1 M hf
    rw [F_X0_giveBack_2] at hf
    cases hf
  | succ fu ih =>
    intro v1 M hf H locs ls hP hS hl
    rw [F_X0_giveBack_2] at hf
    refine lv_iload_n S.1 S.2.1 dX0_giveBack_2 rfl (lv_at hl 1 rfl) ?_
    refine lv_aload_n S.1 S.2.1 dX0_giveBack_3 rfl (lv_at hl 0 rfl) ?_
    refine x_get (v := .int (gI M 1 6)) S hK hP w_lay_X0 (ci := 0) rfl 1 (ok_lt (ok_b1 hn)) (e0 (ok_b1 hn).1) 6 (by decide) w_fl_X0_53 rfl rfl dX0_giveBack_4 ?_
    refine lv_icmp_ge (tgt := 57) S.1 S.2.1 dX0_giveBack_7 (by decide) (fun h1 => ?_) (fun h1 => ?_)
    · replace hf := ift h1 hf
      cases hf
      exact r_v S hr hlk hP hS dX0_giveBack_57
    · replace hf := iff_ h1 hf
      refine lv_aload_n S.1 S.2.1 dX0_giveBack_10 rfl (lv_at hl 0 rfl) ?_
      refine x_get (v := .ref (ad 6)) S hK hP w_lay_X0 (ci := 0) rfl 1 (ok_lt (ok_b1 hn)) (e0 (ok_b1 hn).1) 3 (by decide) w_fl_X0_32 rfl rfl dX0_giveBack_11 ?_
      refine lv_iload_n S.1 S.2.1 dX0_giveBack_14 rfl (lv_at hl 1 rfl) ?_
      obtain ⟨h2, hf⟩ := gd_some hf
      refine x_aald S hK hP 6 (ok_lt (ok_sa1 hn)) e11_1 4 rfl h2 dX0_giveBack_15 ?_
      refine lv_astore_n (lv' := [(2, .ref (ad (37 + (ix v1)))), (0, .ref (ad 1)), (1, .int v1)]) S.1 S.2.1 dX0_giveBack_16 rfl hl (by decide) rfl (fun ls hl => ?_)
      refine lv_aload_n S.1 S.2.1 dX0_giveBack_17 rfl (lv_at hl 0 rfl) ?_
      refine x_get (v := .int (gI M (37 + (ix v1)) 5)) S hK hP w_lay_X3 (ci := 3) rfl (37 + (ix v1)) (ok_lt (ok_s1 hn (ib_lt h2))) (e3 (ok_s1 hn (ib_lt h2)).1) 5 (by decide) w_fl_X0_249 rfl rfl dX0_giveBack_18 ?_
      refine lv_iconst (v := (3 : Int32)) S.1 S.2.1 dX0_giveBack_21 (by decide) ?_
      refine lv_icmp_ne (tgt := 51) S.1 S.2.1 dX0_giveBack_22 (by decide) (fun h3 => ?_) (fun h3 => ?_)
      · replace hf := iff_ h3 hf
        refine lv_iinc (v := v1 + (1 : Int32)) (lv' := [(1, .int (v1 + (1 : Int32))), (2, .ref (ad (37 + (ix v1)))), (0, .ref (ad 1))]) S.1 S.2.1 dX0_giveBack_51 hl (k := 2) rfl rfl (by decide) rfl (fun ls hl => ?_)
        refine lv_goto (tgt := 2) S.1 S.2.1 dX0_giveBack_54 (by decide) ?_
        exact ih (v1 + (1 : Int32))  M hf _ _ _ hP hS (lv_sub hl [2, 0] rfl)
      · replace hf := ift h3 hf
        refine lv_aload_n S.1 S.2.1 dX0_giveBack_25 rfl (lv_at hl 0 rfl) ?_
        refine x_get (v := .int (bo (gI M (37 + (ix v1)) 13))) S hK hP w_lay_X3 (ci := 3) rfl (37 + (ix v1)) (ok_lt (ok_s1 hn (ib_lt h2))) (e3 (ok_s1 hn (ib_lt h2)).1) 13 (by decide) w_fl_X0_252 rfl rfl dX0_giveBack_26 ?_
        refine lv_if_ne (tgt := 51) S.1 S.2.1 dX0_giveBack_29 (by decide) (fun h4 => ?_) (fun h4 => ?_)
        · replace hf := iff_ h4 hf
          refine lv_iinc (v := v1 + (1 : Int32)) (lv' := [(1, .int (v1 + (1 : Int32))), (2, .ref (ad (37 + (ix v1)))), (0, .ref (ad 1))]) S.1 S.2.1 dX0_giveBack_51 hl (k := 2) rfl rfl (by decide) rfl (fun ls hl => ?_)
          refine lv_goto (tgt := 2) S.1 S.2.1 dX0_giveBack_54 (by decide) ?_
          exact ih (v1 + (1 : Int32))  M hf _ _ _ hP hS (lv_sub hl [2, 0] rfl)
        · replace hf := ift h4 hf
          refine lv_aload_n S.1 S.2.1 dX0_giveBack_32 rfl (lv_at hl 1 rfl) ?_
          refine lv_aload_n S.1 S.2.1 dX0_giveBack_33 rfl (lv_at hl 0 rfl) ?_
          obtain ⟨x5, gx5, hf⟩ := bn1_some hf
          refine y_Vi (As := [.ref (ad (37 + (ix v1)))]) S hK hN hP hS rfl (ok_lt (ok_b1 hn)) (e0 (ok_b1 hn).1) rfl (K_X0_howItIs l E ad n hI hn _ N (37 + (ix v1)) (ok_s1 hn (ib_lt h2)) M x5 gx5) (cV 1 S w_co_yX0_howItIs w_in_X0 w_ml_X0_165 w_im_yX0_howItIs w_se_yX0_howItIs hd_X0_howItIs ⟨Nat.le_of_ble_eq_true rfl, Nat.le_of_ble_eq_true rfl⟩) hl.1 rfl rfl (Nat.le_of_ble_eq_true rfl) dX0_giveBack_34 ⟨Nat.zero_le _, Nat.zero_le _⟩ (fun H locs hP hS => ?_)
          refine lv_iconst (v := (3 : Int32)) S.1 S.2.1 dX0_giveBack_37 (by decide) ?_
          refine lv_icmp_ne (tgt := 51) S.1 S.2.1 dX0_giveBack_38 (by decide) (fun h6 => ?_) (fun h6 => ?_)
          · replace hf := iff_ h6 hf
            refine lv_iinc (v := v1 + (1 : Int32)) (lv' := [(1, .int (v1 + (1 : Int32))), (2, .ref (ad (37 + (ix v1)))), (0, .ref (ad 1))]) S.1 S.2.1 dX0_giveBack_51 hl (k := 2) rfl rfl (by decide) rfl (fun ls hl => ?_)
            refine lv_goto (tgt := 2) S.1 S.2.1 dX0_giveBack_54 (by decide) ?_
            exact ih (v1 + (1 : Int32))  M hf _ _ _ hP hS (lv_sub hl [2, 0] rfl)
          · replace hf := ift h6 hf
            refine lv_aload_n S.1 S.2.1 dX0_giveBack_41 rfl (lv_at hl 0 rfl) ?_
            refine lv_iconst (v := (1 : Int32)) S.1 S.2.1 dX0_giveBack_42 (by decide) ?_
            refine x_put S hI hK hP hS w_lay_X3 tyX3 tyX3_ok nmX3 (ci := 3) rfl (37 + (ix v1)) (ok_lt (ok_s1 hn (ib_lt h2))) (e3 (ok_s1 hn (ib_lt h2)).1) 13 (by decide) w_fl_X0_252 rfl rfl (bo_nar (by decide)) (bo_fit (by decide)) (Nat.le_of_ble_eq_true rfl) (entC E ad n (sI M (37 + (ix v1)) 13 (1 : Int32))) (h1_X3_13 (ok_s1 hn (ib_lt h2)).1 (by decide)) (fun _ h => entC_sI _ h) dX0_giveBack_43 (fun H locs hP hS => ?_)
            obtain ⟨M7, eM7, hf⟩ := bnd_some hf
            rw [← eM7] at hP
            refine lv_aload_n S.1 S.2.1 dX0_giveBack_46 rfl (lv_at hl 1 rfl) ?_
            refine lv_aload_n S.1 S.2.1 dX0_giveBack_47 rfl (lv_at hl 0 rfl) ?_
            obtain ⟨M8, gM8, hf⟩ := bn1_some hf
            refine y_Vv (As := [.ref (ad (37 + (ix v1)))]) S hK hN hP hS rfl (ok_lt (ok_b1 hn)) (e0 (ok_b1 hn).1) rfl (K_X0_giveBackOf l E ad n hI hn _ N (37 + (ix v1)) (ok_s1 hn (ib_lt h2)) M7 M8 gM8) (cV 1 S w_co_yX0_giveBackOf w_in_X0 w_ml_X0_255 w_im_yX0_giveBackOf w_se_yX0_giveBackOf hd_X0_giveBackOf ⟨Nat.le_of_ble_eq_true rfl, Nat.le_of_ble_eq_true rfl⟩) hl.1 rfl rfl (Nat.le_of_ble_eq_true rfl) dX0_giveBack_48 ⟨Nat.zero_le _, Nat.zero_le _⟩ (fun H locs hP hS => ?_)
            refine lv_iinc (v := v1 + (1 : Int32)) (lv' := [(1, .int (v1 + (1 : Int32))), (2, .ref (ad (37 + (ix v1)))), (0, .ref (ad 1))]) S.1 S.2.1 dX0_giveBack_51 hl (k := 2) rfl rfl (by decide) rfl (fun ls hl => ?_)
            refine lv_goto (tgt := 2) S.1 S.2.1 dX0_giveBack_54 (by decide) ?_
            exact ih (v1 + (1 : Int32))  M8 hf _ _ _ hP hS (lv_sub hl [2, 0] rfl)
set_option maxHeartbeats 4000000 in
set_option maxRecDepth 100000 in
theorem K_X0_giveBack (l : Launch) (E : EE) (ad : Nat → Nat) (n : Nat) (hI : ad_I ad n) (hn : 117 ≤ n) (sz : Nat) (N : Nat)   (M : MM) (M' : MM) (hf : F_X0_giveBack N  M = some M') : CtV l yX0_giveBack cX0_giveBack 3 4 84 E (entC E ad n M) (entC E ad n M') ad n sz [.ref (ad 1)] := by
  unfold CtV
  refine body_of (by decide) "SurvivorPurse$Book" rfl (Nat.le_of_ble_eq_true rfl) ?_
  intro p e s m below meth c hsz S hr hlk hP hK hN ls hl
  subst hsz
  have hS : va_S (AA ad n s.heap.size) s.heap s.heap [] := va_S.rf
  have hl : lv_has ls 3 [(0, .ref (ad 1))] := hl
  rw [F_X0_giveBack] at hf
  refine lv_iconst (v := (0 : Int32)) S.1 S.2.1 dX0_giveBack_0 (by decide) ?_
  refine lv_istore_n (lv' := [(1, .int (0 : Int32)), (0, .ref (ad 1))]) S.1 S.2.1 dX0_giveBack_1 rfl hl (by decide) rfl (fun ls hl => ?_)
  exact L_X0_giveBack_2 l E ad n hI hn N   S hr hlk hK hN _ N (0 : Int32)  M hf _ _ _ hP hS (lv_sub hl [1, 0] rfl)
theorem hd_X0_allHeld : yX0_allHeld.cls ≠ "java/lang/invoke/MethodHandle" ∧ yX0_allHeld.cls ≠ "java/lang/invoke/VarHandle" ∧ (parseMethodDescriptor yX0_allHeld.desc).map (fun d => d.parameters.length) = some 0 := by decide +kernel
set_option maxHeartbeats 4000000 in
set_option maxRecDepth 100000 in
theorem L_X0_allHeld_4 (l : Launch) (E : EE) (ad : Nat → Nat) (n : Nat) (hI : ad_I ad n) (hn : 117 ≤ n) (N : Nat)   {p : Program} {e : Env} {s : State} {m : MethodId} {below : List Frame} {meth : Method} {c : Code} (S : CallFix p m c cX0_allHeld 4 s [.ref (ad 1)].toArray bg_B "SurvivorPurse$Book") (hr : meth.sig.returnType = (some .long)) (hlk : meth.locks = false) (hK : va_K E.1 vwCl (tysE E) s) (hN : NW s) (r : Int64) : ∀ (fu : Nat) (v1 : Int64) (v3 : Int32)  (M : MM), F_X0_allHeld_4 N  fu v1 v3 M = some r → ∀ (H : Heap) (locs : List Loc) (ls : Array Slot), va_P E.1 vwCl (mw (entC E ad n M) ad n) H → va_S (AA ad n s.heap.size) s.heap H locs → lv_has ls 4 [(0, .ref (ad 1)), (1, .long v1), (3, .int v3)] → W p l e { frames := 3, cells := 0, slots := 0, locals := 76 } s m [.ref (ad 1)].toArray below meth c H locs 0 0 (MQ below (va_Ql (fun r0 (_ : Unit) => r0 = r) (fun _ t => QB E (entC E ad n M) ad n t) (AA ad n s.heap.size)) [.ref (ad 1)].toArray s 0 0 (AA ad n s.heap.size)) (F0 m 4 ls []) := by
  intro fu
  induction fu with
  | zero =>
    intro v1 v3 M hf
    rw [F_X0_allHeld_4] at hf
    cases hf
  | succ fu ih =>
    intro v1 v3 M hf H locs ls hP hS hl
    rw [F_X0_allHeld_4] at hf
    refine lv_iload_n S.1 S.2.1 dX0_allHeld_4 rfl (lv_at hl 2 rfl) ?_
    refine lv_aload_n S.1 S.2.1 dX0_allHeld_5 rfl (lv_at hl 0 rfl) ?_
    refine x_get (v := .int (gI M 1 6)) S hK hP w_lay_X0 (ci := 0) rfl 1 (ok_lt (ok_b1 hn)) (e0 (ok_b1 hn).1) 6 (by decide) w_fl_X0_53 rfl rfl dX0_allHeld_6 ?_
    refine lv_icmp_ge (tgt := 34) S.1 S.2.1 dX0_allHeld_9 (by decide) (fun h1 => ?_) (fun h1 => ?_)
    · replace hf := ift h1 hf
      refine lv_lload_n S.1 S.2.1 dX0_allHeld_34 rfl (lv_at hl 1 rfl) ?_
      cases hf
      exact r_l S hr hlk hP hS dX0_allHeld_35
    · replace hf := iff_ h1 hf
      refine lv_lload_n S.1 S.2.1 dX0_allHeld_12 rfl (lv_at hl 1 rfl) ?_
      refine lv_aload_n S.1 S.2.1 dX0_allHeld_13 rfl (lv_at hl 0 rfl) ?_
      refine x_get (v := .ref (ad 6)) S hK hP w_lay_X0 (ci := 0) rfl 1 (ok_lt (ok_b1 hn)) (e0 (ok_b1 hn).1) 3 (by decide) w_fl_X0_32 rfl rfl dX0_allHeld_14 ?_
      refine lv_iload_n S.1 S.2.1 dX0_allHeld_17 rfl (lv_at hl 2 rfl) ?_
      obtain ⟨h2, hf⟩ := gd_some hf
      refine x_aald S hK hP 6 (ok_lt (ok_sa1 hn)) e11_1 4 rfl h2 dX0_allHeld_18 ?_
      refine lv_aload_n S.1 S.2.1 dX0_allHeld_19 rfl (lv_at hl 0 rfl) ?_
      refine x_get (v := .int (gI M 1 7)) S hK hP w_lay_X0 (ci := 0) rfl 1 (ok_lt (ok_b1 hn)) (e0 (ok_b1 hn).1) 7 (by decide) w_fl_X0_56 rfl rfl dX0_allHeld_20 ?_
      obtain ⟨x3, gx3, hf⟩ := bn1_some hf
      refine y_Vl (As := [.int (gI M 1 7)]) S hK hN hP hS rfl (ok_lt (ok_s1 hn (ib_lt h2))) (e3 (ok_s1 hn (ib_lt h2)).1) rfl (K_X3_heldAt l E ad n hI hn _ N (37 + (ix v3)) (gI M 1 7) (ok_s1 hn (ib_lt h2)) M x3 gx3) (cV 1 S w_co_yX3_heldAt w_in_X3 w_ml_X0_266 w_im_yX3_heldAt w_se_yX3_heldAt hd_X3_heldAt ⟨Nat.le_of_ble_eq_true rfl, Nat.le_of_ble_eq_true rfl⟩) hl.1 rfl rfl (Nat.le_of_ble_eq_true rfl) dX0_allHeld_23 ⟨Nat.zero_le _, Nat.zero_le _⟩ (fun H locs hP hS => ?_)
      refine lv_ladd S.1 S.2.1 dX0_allHeld_26 ?_
      obtain ⟨x4, ex4, hf⟩ := bnd_some hf
      refine lv_rel ex4 ?_
      refine lv_lstore_n (lv' := [(1, .long x4), (0, .ref (ad 1)), (3, .int v3)]) S.1 S.2.1 dX0_allHeld_27 rfl hl (by decide) rfl (fun ls hl => ?_)
      refine lv_iinc (v := v3 + (1 : Int32)) (lv' := [(3, .int (v3 + (1 : Int32))), (1, .long x4), (0, .ref (ad 1))]) S.1 S.2.1 dX0_allHeld_28 hl (k := 2) rfl rfl (by decide) rfl (fun ls hl => ?_)
      refine lv_goto (tgt := 4) S.1 S.2.1 dX0_allHeld_31 (by decide) ?_
      exact ih x4 (v3 + (1 : Int32))  M hf _ _ _ hP hS (lv_sub hl [2, 1, 0] rfl)
set_option maxHeartbeats 4000000 in
set_option maxRecDepth 100000 in
theorem K_X0_allHeld (l : Launch) (E : EE) (ad : Nat → Nat) (n : Nat) (hI : ad_I ad n) (hn : 117 ≤ n) (sz : Nat) (N : Nat)   (M : MM) (r : Int64) (hf : F_X0_allHeld N  M = some r) : CtL l yX0_allHeld cX0_allHeld 4 3 76 E (entC E ad n M) (entC E ad n M) ad n sz [.ref (ad 1)] (r) := by
  unfold CtL
  refine body_of (by decide) "SurvivorPurse$Book" rfl (Nat.le_of_ble_eq_true rfl) ?_
  intro p e s m below meth c hsz S hr hlk hP hK hN ls hl
  subst hsz
  have hS : va_S (AA ad n s.heap.size) s.heap s.heap [] := va_S.rf
  have hl : lv_has ls 4 [(0, .ref (ad 1))] := hl
  rw [F_X0_allHeld] at hf
  refine lv_lconst (v := (0 : Int64)) S.1 S.2.1 dX0_allHeld_0 (by decide) ?_
  refine lv_lstore_n (lv' := [(1, .long (0 : Int64)), (0, .ref (ad 1))]) S.1 S.2.1 dX0_allHeld_1 rfl hl (by decide) rfl (fun ls hl => ?_)
  refine lv_iconst (v := (0 : Int32)) S.1 S.2.1 dX0_allHeld_2 (by decide) ?_
  refine lv_istore_n (lv' := [(3, .int (0 : Int32)), (1, .long (0 : Int64)), (0, .ref (ad 1))]) S.1 S.2.1 dX0_allHeld_3 rfl hl (by decide) rfl (fun ls hl => ?_)
  exact L_X0_allHeld_4 l E ad n hI hn N   S hr hlk hK hN _ N (0 : Int64) (0 : Int32)  M hf _ _ _ hP hS (lv_sub hl [2, 1, 0] rfl)
theorem hd_X3_begin : yX3_begin.cls ≠ "java/lang/invoke/MethodHandle" ∧ yX3_begin.cls ≠ "java/lang/invoke/VarHandle" ∧ (parseMethodDescriptor yX3_begin.desc).map (fun d => d.parameters.length) = some 1 := by decide +kernel
set_option maxHeartbeats 4000000 in
set_option maxRecDepth 100000 in
theorem K_X3_begin (l : Launch) (E : EE) (ad : Nat → Nat) (n : Nat) (hI : ad_I ad n) (hn : 117 ≤ n) (sz : Nat) (N : Nat) (c0 : Nat) (a1 : Int32) (P0 : ok 3 n c0) (M : MM) (M' : MM) (hf : F_X3_begin N c0 a1 M = some M') : CtV l yX3_begin cX3_begin 2 1 24 E (entC E ad n M) (entC E ad n M') ad n sz [.ref (ad c0), .int a1] := by
  unfold CtV
  refine body_of (by decide) "SurvivorPurse$Share" rfl (Nat.le_of_ble_eq_true rfl) ?_
  intro p e s m below meth c hsz S hr hlk hP hK hN ls hl
  subst hsz
  have hS : va_S (AA ad n s.heap.size) s.heap s.heap [] := va_S.rf
  have hl : lv_has ls 2 [(0, .ref (ad c0)), (1, .int a1)] := hl
  rw [F_X3_begin] at hf
  refine lv_aload_n S.1 S.2.1 dX3_begin_0 rfl (lv_at hl 0 rfl) ?_
  refine lv_iconst (v := (0 : Int32)) S.1 S.2.1 dX3_begin_1 (by decide) ?_
  refine x_put S hI hK hP hS w_lay_X3 tyX3 tyX3_ok nmX3 (ci := 3) rfl c0 (ok_lt P0) (e3 P0.1) 5 (by decide) w_fl_X3_15 rfl rfl rfl rfl (Nat.le_of_ble_eq_true rfl) (entC E ad n (sI M c0 5 (0 : Int32))) (h1_X3_5 P0.1 ) (fun _ h => entC_sI _ h) dX3_begin_2 (fun H locs hP hS => ?_)
  obtain ⟨M1, eM1, hf⟩ := bnd_some hf
  rw [← eM1] at hP
  refine lv_aload_n S.1 S.2.1 dX3_begin_5 rfl (lv_at hl 0 rfl) ?_
  refine lv_lconst (v := (0 : Int64)) S.1 S.2.1 dX3_begin_6 (by decide) ?_
  refine x_put S hI hK hP hS w_lay_X3 tyX3 tyX3_ok nmX3 (ci := 3) rfl c0 (ok_lt P0) (e3 P0.1) 7 (by decide) w_fl_X3_19 rfl rfl rfl rfl (Nat.le_of_ble_eq_true rfl) (entC E ad n (sL M1 c0 7 (0 : Int64))) (h1_X3_7 P0.1 ) (fun _ h => entC_sL _ h) dX3_begin_7 (fun H locs hP hS => ?_)
  obtain ⟨M2, eM2, hf⟩ := bnd_some hf
  rw [← eM2] at hP
  refine lv_aload_n S.1 S.2.1 dX3_begin_10 rfl (lv_at hl 0 rfl) ?_
  refine lv_iload_n S.1 S.2.1 dX3_begin_11 rfl (lv_at hl 1 rfl) ?_
  refine x_put S hI hK hP hS w_lay_X3 tyX3 tyX3_ok nmX3 (ci := 3) rfl c0 (ok_lt P0) (e3 P0.1) 8 (by decide) w_fl_X3_23 rfl rfl rfl rfl (Nat.le_of_ble_eq_true rfl) (entC E ad n (sI M2 c0 8 a1)) (h1_X3_8 P0.1 ) (fun _ h => entC_sI _ h) dX3_begin_12 (fun H locs hP hS => ?_)
  obtain ⟨M3, eM3, hf⟩ := bnd_some hf
  rw [← eM3] at hP
  refine lv_aload_n S.1 S.2.1 dX3_begin_15 rfl (lv_at hl 0 rfl) ?_
  refine lv_iload_n S.1 S.2.1 dX3_begin_16 rfl (lv_at hl 1 rfl) ?_
  refine x_put S hI hK hP hS w_lay_X3 tyX3 tyX3_ok nmX3 (ci := 3) rfl c0 (ok_lt P0) (e3 P0.1) 9 (by decide) w_fl_X3_26 rfl rfl rfl rfl (Nat.le_of_ble_eq_true rfl) (entC E ad n (sI M3 c0 9 a1)) (h1_X3_9 P0.1 ) (fun _ h => entC_sI _ h) dX3_begin_17 (fun H locs hP hS => ?_)
  obtain ⟨M4, eM4, hf⟩ := bnd_some hf
  rw [← eM4] at hP
  refine lv_aload_n S.1 S.2.1 dX3_begin_20 rfl (lv_at hl 0 rfl) ?_
  refine lv_iconst (v := (0 : Int32)) S.1 S.2.1 dX3_begin_21 (by decide) ?_
  refine x_put S hI hK hP hS w_lay_X3 tyX3 tyX3_ok nmX3 (ci := 3) rfl c0 (ok_lt P0) (e3 P0.1) 10 (by decide) w_fl_X3_29 rfl rfl rfl rfl (Nat.le_of_ble_eq_true rfl) (entC E ad n (sI M4 c0 10 (0 : Int32))) (h1_X3_10 P0.1 ) (fun _ h => entC_sI _ h) dX3_begin_22 (fun H locs hP hS => ?_)
  obtain ⟨M5, eM5, hf⟩ := bnd_some hf
  rw [← eM5] at hP
  refine lv_aload_n S.1 S.2.1 dX3_begin_25 rfl (lv_at hl 0 rfl) ?_
  refine lv_lconst (v := (0 : Int64)) S.1 S.2.1 dX3_begin_26 (by decide) ?_
  refine x_put S hI hK hP hS w_lay_X3 tyX3 tyX3_ok nmX3 (ci := 3) rfl c0 (ok_lt P0) (e3 P0.1) 11 (by decide) w_fl_X3_32 rfl rfl rfl rfl (Nat.le_of_ble_eq_true rfl) (entC E ad n (sL M5 c0 11 (0 : Int64))) (h1_X3_11 P0.1 ) (fun _ h => entC_sL _ h) dX3_begin_27 (fun H locs hP hS => ?_)
  obtain ⟨M6, eM6, hf⟩ := bnd_some hf
  rw [← eM6] at hP
  refine lv_aload_n S.1 S.2.1 dX3_begin_30 rfl (lv_at hl 0 rfl) ?_
  refine lv_iconst (v := (-1 : Int32)) S.1 S.2.1 dX3_begin_31 (by decide) ?_
  refine x_put S hI hK hP hS w_lay_X3 tyX3 tyX3_ok nmX3 (ci := 3) rfl c0 (ok_lt P0) (e3 P0.1) 12 (by decide) w_fl_X3_35 rfl rfl rfl rfl (Nat.le_of_ble_eq_true rfl) (entC E ad n (sI M6 c0 12 (-1 : Int32))) (h1_X3_12 P0.1 ) (fun _ h => entC_sI _ h) dX3_begin_32 (fun H locs hP hS => ?_)
  obtain ⟨M7, eM7, hf⟩ := bnd_some hf
  rw [← eM7] at hP
  refine lv_aload_n S.1 S.2.1 dX3_begin_35 rfl (lv_at hl 0 rfl) ?_
  refine lv_iconst (v := (0 : Int32)) S.1 S.2.1 dX3_begin_36 (by decide) ?_
  refine x_put S hI hK hP hS w_lay_X3 tyX3 tyX3_ok nmX3 (ci := 3) rfl c0 (ok_lt P0) (e3 P0.1) 13 (by decide) w_fl_X3_38 rfl rfl (bo_nar (by decide)) (bo_fit (by decide)) (Nat.le_of_ble_eq_true rfl) (entC E ad n (sI M7 c0 13 (0 : Int32))) (h1_X3_13 P0.1 (by decide)) (fun _ h => entC_sI _ h) dX3_begin_37 (fun H locs hP hS => ?_)
  obtain ⟨M8, eM8, hf⟩ := bnd_some hf
  rw [← eM8] at hP
  refine lv_aload_n S.1 S.2.1 dX3_begin_40 rfl (lv_at hl 0 rfl) ?_
  refine lv_iload_n S.1 S.2.1 dX3_begin_41 rfl (lv_at hl 1 rfl) ?_
  refine x_put S hI hK hP hS w_lay_X3 tyX3 tyX3_ok nmX3 (ci := 3) rfl c0 (ok_lt P0) (e3 P0.1) 14 (by decide) w_fl_X3_42 rfl rfl rfl rfl (Nat.le_of_ble_eq_true rfl) (entC E ad n (sI M8 c0 14 a1)) (h1_X3_14 P0.1 ) (fun _ h => entC_sI _ h) dX3_begin_42 (fun H locs hP hS => ?_)
  obtain ⟨M9, eM9, hf⟩ := bnd_some hf
  rw [← eM9] at hP
  refine lv_aload_n S.1 S.2.1 dX3_begin_45 rfl (lv_at hl 0 rfl) ?_
  refine x_get (v := .ref (ad (c0 + 40))) S hK hP w_lay_X3 (ci := 3) rfl c0 (ok_lt P0) (e3 P0.1) 15 (by decide) w_fl_X3_9 rfl rfl dX3_begin_46 ?_
  refine lv_lconst (v := (0 : Int64)) S.1 S.2.1 dX3_begin_49 (by decide) ?_
  obtain ⟨M10, gM10, hf⟩ := bn1_some hf
  refine y_Sv (As := [.ref (ad (c0 + 40)), .long (0 : Int64)]) S hK hN hP hS rfl (K_J7_fill_d0a16 l E ad n hI hn _ N (c0 + 40) (0 : Int64) (ok_dr P0) M9 M10 gM10) (cS 2 S w_co_yJ7_fill_d0a16 w_in_J7 w_ml_X3_45 w_st_yJ7_fill_d0a16 hd_J7_fill_d0a16 ⟨Nat.le_of_ble_eq_true rfl, Nat.le_of_ble_eq_true rfl⟩) hl.1 rfl rfl (Nat.le_of_ble_eq_true rfl) dX3_begin_50 ⟨Nat.zero_le _, Nat.zero_le _⟩ (fun H locs hP hS => ?_)
  cases hf
  exact r_v S hr hlk hP hS dX3_begin_53
theorem hd_X3_note : yX3_note.cls ≠ "java/lang/invoke/MethodHandle" ∧ yX3_note.cls ≠ "java/lang/invoke/VarHandle" ∧ (parseMethodDescriptor yX3_note.desc).map (fun d => d.parameters.length) = some 2 := by decide +kernel
set_option maxHeartbeats 4000000 in
set_option maxRecDepth 100000 in
theorem K_X3_note (l : Launch) (E : EE) (ad : Nat → Nat) (n : Nat) (hI : ad_I ad n) (hn : 117 ≤ n) (sz : Nat) (N : Nat) (c0 : Nat) (a1 : Int32) (a2 : Int64) (P0 : ok 3 n c0) (M : MM) (M' : MM) (hf : F_X3_note N c0 a1 a2 M = some M') : CtV l yX3_note cX3_note 4 1 22 E (entC E ad n M) (entC E ad n M') ad n sz [.ref (ad c0), .int a1, .long a2] := by
  unfold CtV
  refine body_of (by decide) "SurvivorPurse$Share" rfl (Nat.le_of_ble_eq_true rfl) ?_
  intro p e s m below meth c hsz S hr hlk hP hK hN ls hl
  subst hsz
  have hS : va_S (AA ad n s.heap.size) s.heap s.heap [] := va_S.rf
  have hl : lv_has ls 4 [(0, .ref (ad c0)), (1, .int a1), (2, .long a2)] := hl
  rw [F_X3_note] at hf
  refine lv_iload_n S.1 S.2.1 dX3_note_0 rfl (lv_at hl 1 rfl) ?_
  refine lv_iconst (v := (0 : Int32)) S.1 S.2.1 dX3_note_1 (by decide) ?_
  refine lv_bipush (v := (59 : Int32)) S.1 S.2.1 dX3_note_2 (by decide) ?_
  refine y_Ni (As := [.int a1, .int (0 : Int32), .int (59 : Int32)]) S hK hN hP hS rfl (K_X5_isWithin l E ad n hI hn _ a1 (0 : Int32) (59 : Int32)  M _ rfl) (cN 3 S hN w_co_yX5_isWithin w_in_X5 w_ml_X3_67 w_st_yX5_isWithin hd_X5_isWithin ⟨Nat.le_of_ble_eq_true rfl, Nat.le_of_ble_eq_true rfl⟩) hl.1 rfl rfl (Nat.le_of_ble_eq_true rfl) dX3_note_4 ⟨Nat.zero_le _, Nat.zero_le _⟩ (fun H locs hP hS => ?_)
  refine lv_if_eq (tgt := 17) S.1 S.2.1 dX3_note_7 (by decide) (fun h1 => ?_) (fun h1 => ?_)
  · replace hf := ift h1 hf
    cases hf
    exact r_v S hr hlk hP hS dX3_note_17
  · replace hf := iff_ h1 hf
    refine lv_aload_n S.1 S.2.1 dX3_note_10 rfl (lv_at hl 0 rfl) ?_
    refine x_get (v := .ref (ad (c0 + 40))) S hK hP w_lay_X3 (ci := 3) rfl c0 (ok_lt P0) (e3 P0.1) 15 (by decide) w_fl_X3_9 rfl rfl dX3_note_11 ?_
    refine lv_iload_n S.1 S.2.1 dX3_note_14 rfl (lv_at hl 1 rfl) ?_
    refine lv_lload_n S.1 S.2.1 dX3_note_15 rfl (lv_at hl 2 rfl) ?_
    obtain ⟨h2, hf⟩ := gd_some hf
    refine x_last S hI hK hP hS (c0 + 40) (ok_lt (ok_dr P0)) (e8 (ok_dr P0).1) h2 (entC E ad n (sL M (c0 + 40) (ix a1) a2)) (h1_8 (ok_dr P0).1) (fun _ h => entC_sL _ h) dX3_note_16 (fun H locs hP hS => ?_)
    obtain ⟨M3, eM3, hf⟩ := bnd_some hf
    rw [← eM3] at hP
    cases hf
    exact r_v S hr hlk hP hS dX3_note_17
theorem hd_X3_forgetHeldAbove : yX3_forgetHeldAbove.cls ≠ "java/lang/invoke/MethodHandle" ∧ yX3_forgetHeldAbove.cls ≠ "java/lang/invoke/VarHandle" ∧ (parseMethodDescriptor yX3_forgetHeldAbove.desc).map (fun d => d.parameters.length) = some 2 := by decide +kernel
set_option maxHeartbeats 4000000 in
set_option maxRecDepth 100000 in
theorem L_X3_forgetHeldAbove_22 (l : Launch) (E : EE) (ad : Nat → Nat) (n : Nat) (hI : ad_I ad n) (hn : 117 ≤ n) (N : Nat) (c0 : Nat) (a1 : Int32) (a2 : Int32) (P0 : ok 3 n c0) {p : Program} {e : Env} {s : State} {m : MethodId} {below : List Frame} {meth : Method} {c : Code} (S : CallFix p m c cX3_forgetHeldAbove 7 s [.ref (ad c0), .int a1, .int a2].toArray bg_B "SurvivorPurse$Share") (hr : meth.sig.returnType = (some .long)) (hlk : meth.locks = false) (hK : va_K E.1 vwCl (tysE E) s) (hN : NW s) (r : Int64) (M' : MM) : ∀ (fu : Nat) (v4 : Int64) (v6 : Int32)  (M : MM), F_X3_forgetHeldAbove_22 N c0 a1 a2 fu v4 v6 M = some (r, M') → ∀ (H : Heap) (locs : List Loc) (ls : Array Slot), va_P E.1 vwCl (mw (entC E ad n M) ad n) H → va_S (AA ad n s.heap.size) s.heap H locs → lv_has ls 7 [(0, .ref (ad c0)), (2, .int a2), (4, .long v4), (6, .int v6)] → W p l e { frames := 2, cells := 0, slots := 0, locals := 55 } s m [.ref (ad c0), .int a1, .int a2].toArray below meth c H locs 0 0 (MQ below (va_Ql (fun r0 (_ : Unit) => r0 = r) (fun _ t => QB E (entC E ad n M') ad n t) (AA ad n s.heap.size)) [.ref (ad c0), .int a1, .int a2].toArray s 0 0 (AA ad n s.heap.size)) (F0 m 22 ls []) := by
  intro fu
  induction fu with
  | zero =>
    intro v4 v6 M hf
    rw [F_X3_forgetHeldAbove_22] at hf
    cases hf
  | succ fu ih =>
    intro v4 v6 M hf H locs ls hP hS hl
    rw [F_X3_forgetHeldAbove_22] at hf
    refine lv_iload S.1 S.2.1 dX3_forgetHeldAbove_22 (lv_at hl 3 rfl) ?_
    refine lv_iload_n S.1 S.2.1 dX3_forgetHeldAbove_24 rfl (lv_at hl 1 rfl) ?_
    refine lv_icmp_ge (tgt := 41) S.1 S.2.1 dX3_forgetHeldAbove_25 (by decide) (fun h3 => ?_) (fun h3 => ?_)
    · replace hf := ift h3 hf
      refine lv_lload S.1 S.2.1 dX3_forgetHeldAbove_41 (lv_at hl 2 rfl) ?_
      cases hf
      exact r_l S hr hlk hP hS dX3_forgetHeldAbove_43
    · replace hf := iff_ h3 hf
      refine lv_aload_n S.1 S.2.1 dX3_forgetHeldAbove_28 rfl (lv_at hl 0 rfl) ?_
      refine lv_iload S.1 S.2.1 dX3_forgetHeldAbove_29 (lv_at hl 3 rfl) ?_
      refine lv_lconst (v := (0 : Int64)) S.1 S.2.1 dX3_forgetHeldAbove_31 (by decide) ?_
      obtain ⟨M4, gM4, hf⟩ := bn1_some hf
      refine y_Vv (As := [.int v6, .long (0 : Int64)]) S hK hN hP hS rfl (ok_lt P0) (e3 P0.1) rfl (K_X3_note l E ad n hI hn _ N c0 v6 (0 : Int64) P0 M M4 gM4) (cV 2 S w_co_yX3_note w_in_X3 w_ml_X3_75 w_im_yX3_note w_se_yX3_note hd_X3_note ⟨Nat.le_of_ble_eq_true rfl, Nat.le_of_ble_eq_true rfl⟩) hl.1 rfl rfl (Nat.le_of_ble_eq_true rfl) dX3_forgetHeldAbove_32 ⟨Nat.zero_le _, Nat.zero_le _⟩ (fun H locs hP hS => ?_)
      refine lv_iinc (v := v6 + (1 : Int32)) (lv' := [(6, .int (v6 + (1 : Int32))), (0, .ref (ad c0)), (2, .int a2), (4, .long v4)]) S.1 S.2.1 dX3_forgetHeldAbove_35 hl (k := 3) rfl rfl (by decide) rfl (fun ls hl => ?_)
      refine lv_goto (tgt := 22) S.1 S.2.1 dX3_forgetHeldAbove_38 (by decide) ?_
      exact ih v4 (v6 + (1 : Int32))  M4 hf _ _ _ hP hS (lv_sub hl [1, 2, 3, 0] rfl)
set_option maxHeartbeats 4000000 in
set_option maxRecDepth 100000 in
theorem K_X3_forgetHeldAbove (l : Launch) (E : EE) (ad : Nat → Nat) (n : Nat) (hI : ad_I ad n) (hn : 117 ≤ n) (sz : Nat) (N : Nat) (c0 : Nat) (a1 : Int32) (a2 : Int32) (P0 : ok 3 n c0) (M : MM) (r : Int64) (M' : MM) (hf : F_X3_forgetHeldAbove N c0 a1 a2 M = some (r, M')) : CtL l yX3_forgetHeldAbove cX3_forgetHeldAbove 7 2 55 E (entC E ad n M) (entC E ad n M') ad n sz [.ref (ad c0), .int a1, .int a2] (r) := by
  unfold CtL
  refine body_of (by decide) "SurvivorPurse$Share" rfl (Nat.le_of_ble_eq_true rfl) ?_
  intro p e s m below meth c hsz S hr hlk hP hK hN ls hl
  subst hsz
  have hS : va_S (AA ad n s.heap.size) s.heap s.heap [] := va_S.rf
  have hl : lv_has ls 7 [(0, .ref (ad c0)), (1, .int a1), (2, .int a2)] := hl
  rw [F_X3_forgetHeldAbove] at hf
  refine lv_aload_n S.1 S.2.1 dX3_forgetHeldAbove_0 rfl (lv_at hl 0 rfl) ?_
  refine x_get (v := .int (gI M c0 14)) S hK hP w_lay_X3 (ci := 3) rfl c0 (ok_lt P0) (e3 P0.1) 14 (by decide) w_fl_X3_42 rfl rfl dX3_forgetHeldAbove_1 ?_
  refine lv_iload_n S.1 S.2.1 dX3_forgetHeldAbove_4 rfl (lv_at hl 1 rfl) ?_
  refine lv_iconst (v := (1 : Int32)) S.1 S.2.1 dX3_forgetHeldAbove_5 (by decide) ?_
  refine lv_iadd S.1 S.2.1 dX3_forgetHeldAbove_6 ?_
  refine x_mx S hl.1 w_ml_X3_57 (Nat.le_of_ble_eq_true rfl) (Nat.le_of_ble_eq_true rfl) (Nat.zero_le _) (Nat.zero_le _) dX3_forgetHeldAbove_7 ?_
  obtain ⟨x1, ex1, hf⟩ := bnd_some hf
  refine lv_rei ex1 ?_
  refine lv_istore_n (lv' := [(3, .int x1), (0, .ref (ad c0)), (1, .int a1), (2, .int a2)]) S.1 S.2.1 dX3_forgetHeldAbove_10 rfl hl (by decide) rfl (fun ls hl => ?_)
  refine lv_aload_n S.1 S.2.1 dX3_forgetHeldAbove_11 rfl (lv_at hl 1 rfl) ?_
  refine lv_iload_n S.1 S.2.1 dX3_forgetHeldAbove_12 rfl (lv_at hl 0 rfl) ?_
  refine lv_iload_n S.1 S.2.1 dX3_forgetHeldAbove_13 rfl (lv_at hl 3 rfl) ?_
  obtain ⟨x2, gx2, hf⟩ := bn1_some hf
  refine y_Vl (As := [.int x1, .int a2]) S hK hN hP hS rfl (ok_lt P0) (e3 P0.1) rfl (K_X3_drewIn l E ad n hI hn _ N c0 x1 a2 P0 M x2 gx2) (cV 2 S w_co_yX3_drewIn w_in_X3 w_ml_X3_63 w_im_yX3_drewIn w_se_yX3_drewIn hd_X3_drewIn ⟨Nat.le_of_ble_eq_true rfl, Nat.le_of_ble_eq_true rfl⟩) hl.1 rfl rfl (Nat.le_of_ble_eq_true rfl) dX3_forgetHeldAbove_14 ⟨Nat.zero_le _, Nat.zero_le _⟩ (fun H locs hP hS => ?_)
  refine lv_lstore (lv' := [(4, .long x2), (3, .int x1), (0, .ref (ad c0)), (1, .int a1), (2, .int a2)]) S.1 S.2.1 dX3_forgetHeldAbove_17 hl (by decide) rfl (fun ls hl => ?_)
  refine lv_iload_n S.1 S.2.1 dX3_forgetHeldAbove_19 rfl (lv_at hl 1 rfl) ?_
  refine lv_istore (lv' := [(6, .int x1), (4, .long x2), (3, .int x1), (0, .ref (ad c0)), (1, .int a1), (2, .int a2)]) S.1 S.2.1 dX3_forgetHeldAbove_20 hl (by decide) rfl (fun ls hl => ?_)
  exact L_X3_forgetHeldAbove_22 l E ad n hI hn N c0 a1 a2 P0 S hr hlk hK hN _ _ N x2 x1  M hf _ _ _ hP hS (lv_sub hl [3, 5, 1, 0] rfl)
theorem hd_X3_shrinkTo : yX3_shrinkTo.cls ≠ "java/lang/invoke/MethodHandle" ∧ yX3_shrinkTo.cls ≠ "java/lang/invoke/VarHandle" ∧ (parseMethodDescriptor yX3_shrinkTo.desc).map (fun d => d.parameters.length) = some 1 := by decide +kernel
set_option maxHeartbeats 4000000 in
set_option maxRecDepth 100000 in
theorem L_X3_shrinkTo_56 (l : Launch) (E : EE) (ad : Nat → Nat) (n : Nat) (hI : ad_I ad n) (hn : 117 ≤ n) (N : Nat) (c0 : Nat) (a1 : Int32) (P0 : ok 3 n c0) {p : Program} {e : Env} {s : State} {m : MethodId} {below : List Frame} {meth : Method} {c : Code} (S : CallFix p m c cX3_shrinkTo 3 s [.ref (ad c0), .int a1].toArray bg_B "SurvivorPurse$Share") (hr : meth.sig.returnType = none) (hlk : meth.locks = false) (hK : va_K E.1 vwCl (tysE E) s) (hN : NW s) (M' : MM) : ∀ (fu : Nat) (v2 : Int32)  (M : MM), F_X3_shrinkTo_56 N c0 a1 fu v2 M = some M' → ∀ (H : Heap) (locs : List Loc) (ls : Array Slot), va_P E.1 vwCl (mw (entC E ad n M) ad n) H → va_S (AA ad n s.heap.size) s.heap H locs → lv_has ls 3 [(0, .ref (ad c0)), (1, .int a1), (2, .int v2)] → W p l e { frames := 1, cells := 0, slots := 0, locals := 25 } s m [.ref (ad c0), .int a1].toArray below meth c H locs 0 0 (MQ below (va_Qv (fun (_ : Unit) => True) (fun _ t => QB E (entC E ad n M') ad n t) (AA ad n s.heap.size)) [.ref (ad c0), .int a1].toArray s 0 0 (AA ad n s.heap.size)) (F0 m 56 ls []) := by
  intro fu
  induction fu with
  | zero =>
    intro v2 M hf
    rw [F_X3_shrinkTo_56] at hf
    cases hf
  | succ fu ih =>
    intro v2 M hf H locs ls hP hS hl
    rw [F_X3_shrinkTo_56] at hf
    refine lv_iload_n S.1 S.2.1 dX3_shrinkTo_56 rfl (lv_at hl 2 rfl) ?_
    refine lv_bipush (v := (60 : Int32)) S.1 S.2.1 dX3_shrinkTo_57 (by decide) ?_
    refine lv_icmp_ge (tgt := 90) S.1 S.2.1 dX3_shrinkTo_59 (by decide) (fun h4 => ?_) (fun h4 => ?_)
    · replace hf := ift h4 hf
      refine lv_aload_n S.1 S.2.1 dX3_shrinkTo_90 rfl (lv_at hl 0 rfl) ?_
      refine lv_iload_n S.1 S.2.1 dX3_shrinkTo_91 rfl (lv_at hl 1 rfl) ?_
      refine x_put S hI hK hP hS w_lay_X3 tyX3 tyX3_ok nmX3 (ci := 3) rfl c0 (ok_lt P0) (e3 P0.1) 3 (by decide) w_fl_X3_82 rfl rfl rfl rfl (Nat.le_of_ble_eq_true rfl) (entC E ad n (sI M c0 3 a1)) (h1_X3_3 P0.1 ) (fun _ h => entC_sI _ h) dX3_shrinkTo_92 (fun H locs hP hS => ?_)
      obtain ⟨M5, eM5, hf⟩ := bnd_some hf
      rw [← eM5] at hP
      cases hf
      exact r_v S hr hlk hP hS dX3_shrinkTo_95
    · replace hf := iff_ h4 hf
      refine lv_aload_n S.1 S.2.1 dX3_shrinkTo_62 rfl (lv_at hl 0 rfl) ?_
      refine x_get (v := .ref (ad (c0 + 40))) S hK hP w_lay_X3 (ci := 3) rfl c0 (ok_lt P0) (e3 P0.1) 15 (by decide) w_fl_X3_9 rfl rfl dX3_shrinkTo_63 ?_
      refine lv_iload_n S.1 S.2.1 dX3_shrinkTo_66 rfl (lv_at hl 2 rfl) ?_
      refine lv_aload_n S.1 S.2.1 dX3_shrinkTo_67 rfl (lv_at hl 0 rfl) ?_
      refine x_get (v := .ref (ad (c0 + 40))) S hK hP w_lay_X3 (ci := 3) rfl c0 (ok_lt P0) (e3 P0.1) 15 (by decide) w_fl_X3_9 rfl rfl dX3_shrinkTo_68 ?_
      refine lv_iload_n S.1 S.2.1 dX3_shrinkTo_71 rfl (lv_at hl 2 rfl) ?_
      obtain ⟨h6, hf⟩ := gd_some hf
      refine x_lald S hK hP (c0 + 40) (ok_lt (ok_dr P0)) (e8 (ok_dr P0).1) h6 dX3_shrinkTo_72 ?_
      refine lv_iload_n S.1 S.2.1 dX3_shrinkTo_73 rfl (lv_at hl 1 rfl) ?_
      refine lv_i2l (v := a1.toInt64) S.1 S.2.1 dX3_shrinkTo_74 rfl ?_
      refine lv_aload_n S.1 S.2.1 dX3_shrinkTo_75 rfl (lv_at hl 0 rfl) ?_
      refine x_get (v := .int (gI M c0 3)) S hK hP w_lay_X3 (ci := 3) rfl c0 (ok_lt P0) (e3 P0.1) 3 (by decide) w_fl_X3_82 rfl rfl dX3_shrinkTo_76 ?_
      refine lv_i2l (v := (gI M c0 3).toInt64) S.1 S.2.1 dX3_shrinkTo_79 rfl ?_
      refine y_Nl (As := [.long (gL M (c0 + 40) (ix v2)), .long a1.toInt64, .long ((gI M c0 3).toInt64)]) S hK hN hP hS rfl (K_X5_parted l E ad n hI hn _ (gL M (c0 + 40) (ix v2)) a1.toInt64 ((gI M c0 3).toInt64)  M _ rfl) (cN 3 S hN w_co_yX5_parted w_in_X5 w_ml_X3_97 w_st_yX5_parted hd_X5_parted ⟨Nat.le_of_ble_eq_true rfl, Nat.le_of_ble_eq_true rfl⟩) hl.1 rfl rfl (Nat.le_of_ble_eq_true rfl) dX3_shrinkTo_80 ⟨Nat.zero_le _, Nat.zero_le _⟩ (fun H locs hP hS => ?_)
      refine x_last S hI hK hP hS (c0 + 40) (ok_lt (ok_dr P0)) (e8 (ok_dr P0).1) h6 (entC E ad n (sL M (c0 + 40) (ix v2) (F_X5_parted (gL M (c0 + 40) (ix v2)) a1.toInt64 ((gI M c0 3).toInt64)))) (h1_8 (ok_dr P0).1) (fun _ h => entC_sL _ h) dX3_shrinkTo_83 (fun H locs hP hS => ?_)
      obtain ⟨M7, eM7, hf⟩ := bnd_some hf
      rw [← eM7] at hP
      refine lv_iinc (v := v2 + (1 : Int32)) (lv' := [(2, .int (v2 + (1 : Int32))), (0, .ref (ad c0)), (1, .int a1)]) S.1 S.2.1 dX3_shrinkTo_84 hl (k := 2) rfl rfl (by decide) rfl (fun ls hl => ?_)
      refine lv_goto (tgt := 56) S.1 S.2.1 dX3_shrinkTo_87 (by decide) ?_
      exact ih (v2 + (1 : Int32))  M7 hf _ _ _ hP hS (lv_sub hl [1, 2, 0] rfl)
set_option maxHeartbeats 4000000 in
set_option maxRecDepth 100000 in
theorem K_X3_shrinkTo (l : Launch) (E : EE) (ad : Nat → Nat) (n : Nat) (hI : ad_I ad n) (hn : 117 ≤ n) (sz : Nat) (N : Nat) (c0 : Nat) (a1 : Int32) (P0 : ok 3 n c0) (M : MM) (M' : MM) (hf : F_X3_shrinkTo N c0 a1 M = some M') : CtV l yX3_shrinkTo cX3_shrinkTo 3 1 25 E (entC E ad n M) (entC E ad n M') ad n sz [.ref (ad c0), .int a1] := by
  unfold CtV
  refine body_of (by decide) "SurvivorPurse$Share" rfl (Nat.le_of_ble_eq_true rfl) ?_
  intro p e s m below meth c hsz S hr hlk hP hK hN ls hl
  subst hsz
  have hS : va_S (AA ad n s.heap.size) s.heap s.heap [] := va_S.rf
  have hl : lv_has ls 3 [(0, .ref (ad c0)), (1, .int a1)] := hl
  rw [F_X3_shrinkTo] at hf
  refine lv_aload_n S.1 S.2.1 dX3_shrinkTo_0 rfl (lv_at hl 0 rfl) ?_
  refine lv_aload_n S.1 S.2.1 dX3_shrinkTo_1 rfl (lv_at hl 0 rfl) ?_
  refine x_get (v := .long (gL M c0 6)) S hK hP w_lay_X3 (ci := 3) rfl c0 (ok_lt P0) (e3 P0.1) 6 (by decide) w_fl_X3_88 rfl rfl dX3_shrinkTo_2 ?_
  refine lv_iload_n S.1 S.2.1 dX3_shrinkTo_5 rfl (lv_at hl 1 rfl) ?_
  refine lv_i2l (v := a1.toInt64) S.1 S.2.1 dX3_shrinkTo_6 rfl ?_
  refine lv_aload_n S.1 S.2.1 dX3_shrinkTo_7 rfl (lv_at hl 0 rfl) ?_
  refine x_get (v := .int (gI M c0 3)) S hK hP w_lay_X3 (ci := 3) rfl c0 (ok_lt P0) (e3 P0.1) 3 (by decide) w_fl_X3_82 rfl rfl dX3_shrinkTo_8 ?_
  refine lv_i2l (v := (gI M c0 3).toInt64) S.1 S.2.1 dX3_shrinkTo_11 rfl ?_
  refine y_Nl (As := [.long (gL M c0 6), .long a1.toInt64, .long ((gI M c0 3).toInt64)]) S hK hN hP hS rfl (K_X5_parted l E ad n hI hn _ (gL M c0 6) a1.toInt64 ((gI M c0 3).toInt64)  M _ rfl) (cN 3 S hN w_co_yX5_parted w_in_X5 w_ml_X3_97 w_st_yX5_parted hd_X5_parted ⟨Nat.le_of_ble_eq_true rfl, Nat.le_of_ble_eq_true rfl⟩) hl.1 rfl rfl (Nat.le_of_ble_eq_true rfl) dX3_shrinkTo_12 ⟨Nat.zero_le _, Nat.zero_le _⟩ (fun H locs hP hS => ?_)
  refine x_put S hI hK hP hS w_lay_X3 tyX3 tyX3_ok nmX3 (ci := 3) rfl c0 (ok_lt P0) (e3 P0.1) 6 (by decide) w_fl_X3_88 rfl rfl rfl rfl (Nat.le_of_ble_eq_true rfl) (entC E ad n (sL M c0 6 (F_X5_parted (gL M c0 6) a1.toInt64 ((gI M c0 3).toInt64)))) (h1_X3_6 P0.1 ) (fun _ h => entC_sL _ h) dX3_shrinkTo_15 (fun H locs hP hS => ?_)
  obtain ⟨M1, eM1, hf⟩ := bnd_some hf
  rw [← eM1] at hP
  refine lv_aload_n S.1 S.2.1 dX3_shrinkTo_18 rfl (lv_at hl 0 rfl) ?_
  refine lv_aload_n S.1 S.2.1 dX3_shrinkTo_19 rfl (lv_at hl 0 rfl) ?_
  refine x_get (v := .long (gL M1 c0 7)) S hK hP w_lay_X3 (ci := 3) rfl c0 (ok_lt P0) (e3 P0.1) 7 (by decide) w_fl_X3_19 rfl rfl dX3_shrinkTo_20 ?_
  refine lv_iload_n S.1 S.2.1 dX3_shrinkTo_23 rfl (lv_at hl 1 rfl) ?_
  refine lv_i2l (v := a1.toInt64) S.1 S.2.1 dX3_shrinkTo_24 rfl ?_
  refine lv_aload_n S.1 S.2.1 dX3_shrinkTo_25 rfl (lv_at hl 0 rfl) ?_
  refine x_get (v := .int (gI M1 c0 3)) S hK hP w_lay_X3 (ci := 3) rfl c0 (ok_lt P0) (e3 P0.1) 3 (by decide) w_fl_X3_82 rfl rfl dX3_shrinkTo_26 ?_
  refine lv_i2l (v := (gI M1 c0 3).toInt64) S.1 S.2.1 dX3_shrinkTo_29 rfl ?_
  refine y_Nl (As := [.long (gL M1 c0 7), .long a1.toInt64, .long ((gI M1 c0 3).toInt64)]) S hK hN hP hS rfl (K_X5_parted l E ad n hI hn _ (gL M1 c0 7) a1.toInt64 ((gI M1 c0 3).toInt64)  M1 _ rfl) (cN 3 S hN w_co_yX5_parted w_in_X5 w_ml_X3_97 w_st_yX5_parted hd_X5_parted ⟨Nat.le_of_ble_eq_true rfl, Nat.le_of_ble_eq_true rfl⟩) hl.1 rfl rfl (Nat.le_of_ble_eq_true rfl) dX3_shrinkTo_30 ⟨Nat.zero_le _, Nat.zero_le _⟩ (fun H locs hP hS => ?_)
  refine x_put S hI hK hP hS w_lay_X3 tyX3 tyX3_ok nmX3 (ci := 3) rfl c0 (ok_lt P0) (e3 P0.1) 7 (by decide) w_fl_X3_19 rfl rfl rfl rfl (Nat.le_of_ble_eq_true rfl) (entC E ad n (sL M1 c0 7 (F_X5_parted (gL M1 c0 7) a1.toInt64 ((gI M1 c0 3).toInt64)))) (h1_X3_7 P0.1 ) (fun _ h => entC_sL _ h) dX3_shrinkTo_33 (fun H locs hP hS => ?_)
  obtain ⟨M2, eM2, hf⟩ := bnd_some hf
  rw [← eM2] at hP
  refine lv_aload_n S.1 S.2.1 dX3_shrinkTo_36 rfl (lv_at hl 0 rfl) ?_
  refine lv_aload_n S.1 S.2.1 dX3_shrinkTo_37 rfl (lv_at hl 0 rfl) ?_
  refine x_get (v := .long (gL M2 c0 11)) S hK hP w_lay_X3 (ci := 3) rfl c0 (ok_lt P0) (e3 P0.1) 11 (by decide) w_fl_X3_32 rfl rfl dX3_shrinkTo_38 ?_
  refine lv_iload_n S.1 S.2.1 dX3_shrinkTo_41 rfl (lv_at hl 1 rfl) ?_
  refine lv_i2l (v := a1.toInt64) S.1 S.2.1 dX3_shrinkTo_42 rfl ?_
  refine lv_aload_n S.1 S.2.1 dX3_shrinkTo_43 rfl (lv_at hl 0 rfl) ?_
  refine x_get (v := .int (gI M2 c0 3)) S hK hP w_lay_X3 (ci := 3) rfl c0 (ok_lt P0) (e3 P0.1) 3 (by decide) w_fl_X3_82 rfl rfl dX3_shrinkTo_44 ?_
  refine lv_i2l (v := (gI M2 c0 3).toInt64) S.1 S.2.1 dX3_shrinkTo_47 rfl ?_
  refine y_Nl (As := [.long (gL M2 c0 11), .long a1.toInt64, .long ((gI M2 c0 3).toInt64)]) S hK hN hP hS rfl (K_X5_parted l E ad n hI hn _ (gL M2 c0 11) a1.toInt64 ((gI M2 c0 3).toInt64)  M2 _ rfl) (cN 3 S hN w_co_yX5_parted w_in_X5 w_ml_X3_97 w_st_yX5_parted hd_X5_parted ⟨Nat.le_of_ble_eq_true rfl, Nat.le_of_ble_eq_true rfl⟩) hl.1 rfl rfl (Nat.le_of_ble_eq_true rfl) dX3_shrinkTo_48 ⟨Nat.zero_le _, Nat.zero_le _⟩ (fun H locs hP hS => ?_)
  refine x_put S hI hK hP hS w_lay_X3 tyX3 tyX3_ok nmX3 (ci := 3) rfl c0 (ok_lt P0) (e3 P0.1) 11 (by decide) w_fl_X3_32 rfl rfl rfl rfl (Nat.le_of_ble_eq_true rfl) (entC E ad n (sL M2 c0 11 (F_X5_parted (gL M2 c0 11) a1.toInt64 ((gI M2 c0 3).toInt64)))) (h1_X3_11 P0.1 ) (fun _ h => entC_sL _ h) dX3_shrinkTo_51 (fun H locs hP hS => ?_)
  obtain ⟨M3, eM3, hf⟩ := bnd_some hf
  rw [← eM3] at hP
  refine lv_iconst (v := (0 : Int32)) S.1 S.2.1 dX3_shrinkTo_54 (by decide) ?_
  refine lv_istore_n (lv' := [(2, .int (0 : Int32)), (0, .ref (ad c0)), (1, .int a1)]) S.1 S.2.1 dX3_shrinkTo_55 rfl hl (by decide) rfl (fun ls hl => ?_)
  exact L_X3_shrinkTo_56 l E ad n hI hn N c0 a1 P0 S hr hlk hK hN _ N (0 : Int32)  M3 hf _ _ _ hP hS (lv_sub hl [1, 2, 0] rfl)
theorem hd_X4_at : yX4_at.cls ≠ "java/lang/invoke/MethodHandle" ∧ yX4_at.cls ≠ "java/lang/invoke/VarHandle" ∧ (parseMethodDescriptor yX4_at.desc).map (fun d => d.parameters.length) = some 1 := by decide +kernel
set_option maxHeartbeats 4000000 in
set_option maxRecDepth 100000 in
theorem K_X4_at (l : Launch) (E : EE) (ad : Nat → Nat) (n : Nat) (hI : ad_I ad n) (hn : 117 ≤ n) (sz : Nat) (N : Nat) (c0 : Nat) (a1 : Int32) (P0 : ok 4 n c0) (M : MM) (r : Int64) (hf : F_X4_at N c0 a1 M = some r) : CtL l yX4_at cX4_at 2 2 42 E (entC E ad n M) (entC E ad n M) ad n sz [.ref (ad c0), .int a1] (r) := by
  unfold CtL
  refine body_of (by decide) "SurvivorPurse$Table" rfl (Nat.le_of_ble_eq_true rfl) ?_
  intro p e s m below meth c hsz S hr hlk hP hK hN ls hl
  subst hsz
  have hS : va_S (AA ad n s.heap.size) s.heap s.heap [] := va_S.rf
  have hl : lv_has ls 2 [(0, .ref (ad c0)), (1, .int a1)] := hl
  rw [F_X4_at] at hf
  refine lv_iload_n S.1 S.2.1 dX4_at_0 rfl (lv_at hl 1 rfl) ?_
  refine y_Ni (As := [.int a1]) S hK hN hP hS rfl (K_X5_isAge l E ad n hI hn _ a1  M _ rfl) (cN 1 S hN w_co_yX5_isAge w_in_X5 w_ml_X4_16 w_st_yX5_isAge hd_X5_isAge ⟨Nat.le_of_ble_eq_true rfl, Nat.le_of_ble_eq_true rfl⟩) hl.1 rfl rfl (Nat.le_of_ble_eq_true rfl) dX4_at_1 ⟨Nat.zero_le _, Nat.zero_le _⟩ (fun H locs hP hS => ?_)
  refine lv_if_eq (tgt := 17) S.1 S.2.1 dX4_at_4 (by decide) (fun h1 => ?_) (fun h1 => ?_)
  · replace hf := ift h1 hf
    refine lv_lconst (v := (0 : Int64)) S.1 S.2.1 dX4_at_17 (by decide) ?_
    cases hf
    exact r_l S hr hlk hP hS dX4_at_18
  · replace hf := iff_ h1 hf
    refine lv_aload_n S.1 S.2.1 dX4_at_7 rfl (lv_at hl 0 rfl) ?_
    refine x_get (v := .ref (ad (c0 + 1))) S hK hP w_lay_X4 (ci := 4) rfl c0 (ok_lt P0) (e4 P0.1) 0 (by decide) w_fl_X4_9 rfl rfl dX4_at_8 ?_
    refine lv_iload_n S.1 S.2.1 dX4_at_11 rfl (lv_at hl 1 rfl) ?_
    obtain ⟨h2, hf⟩ := gd_some hf
    refine x_iald S hK hP (c0 + 1) (ok_lt (ok_al P0)) (e7 (ok_al P0).1) h2 dX4_at_12 ?_
    refine lv_i2l (v := (gI M (c0 + 1) (ix a1)).toInt64) S.1 S.2.1 dX4_at_13 rfl ?_
    refine lv_goto (tgt := 18) S.1 S.2.1 dX4_at_14 (by decide) ?_
    cases hf
    exact r_l S hr hlk hP hS dX4_at_18
theorem hd_X4_fits : yX4_fits.cls ≠ "java/lang/invoke/MethodHandle" ∧ yX4_fits.cls ≠ "java/lang/invoke/VarHandle" ∧ (parseMethodDescriptor yX4_fits.desc).map (fun d => d.parameters.length) = some 2 := by decide +kernel
set_option maxHeartbeats 4000000 in
set_option maxRecDepth 100000 in
theorem L_X4_fits_17 (l : Launch) (E : EE) (ad : Nat → Nat) (n : Nat) (hI : ad_I ad n) (hn : 117 ≤ n) (N : Nat) (c0 : Nat) (a1 : Int32) (a2 : Int32) (P0 : ok 4 n c0) {p : Program} {e : Env} {s : State} {m : MethodId} {below : List Frame} {meth : Method} {c : Code} (S : CallFix p m c cX4_fits 5 s [.ref (ad c0), .int a1, .int a2].toArray bg_B "SurvivorPurse$Table") (hr : meth.sig.returnType = (some .boolean)) (hlk : meth.locks = false) (hK : va_K E.1 vwCl (tysE E) s) (hN : NW s) (r : Bool) : ∀   (M : MM), F_X4_fits_17 N c0 a1 a2  M = some r → ∀ (H : Heap) (locs : List Loc) (ls : Array Slot), va_P E.1 vwCl (mw (entC E ad n M) ad n) H → va_S (AA ad n s.heap.size) s.heap H locs → lv_has ls 5 [(0, .ref (ad c0)), (1, .int a1), (2, .int a2)] → W p l e { frames := 3, cells := 0, slots := 0, locals := 63 } s m [.ref (ad c0), .int a1, .int a2].toArray below meth c H locs 0 0 (MQ below (va_Qi (fun r0 (_ : Unit) => r0 = bI r) (fun _ t => QB E (entC E ad n M) ad n t) (AA ad n s.heap.size)) [.ref (ad c0), .int a1, .int a2].toArray s 0 0 (AA ad n s.heap.size)) (F0 m 17 ls []) := by
  intro M hf H locs ls hP hS hl
  rw [F_X4_fits_17] at hf
  refine lv_iconst (v := (1 : Int32)) S.1 S.2.1 dX4_fits_17 (by decide) ?_
  refine lv_goto (tgt := 22) S.1 S.2.1 dX4_fits_18 (by decide) ?_
  refine lv_istore_n (lv' := [(3, .int (1 : Int32)), (0, .ref (ad c0)), (1, .int a1), (2, .int a2)]) S.1 S.2.1 dX4_fits_22 rfl hl (by decide) rfl (fun ls hl => ?_)
  refine lv_iload_n S.1 S.2.1 dX4_fits_23 rfl (lv_at hl 2 rfl) ?_
  refine lv_bipush (v := (110 : Int32)) S.1 S.2.1 dX4_fits_24 (by decide) ?_
  refine lv_icmp_ge (tgt := 42) S.1 S.2.1 dX4_fits_26 (by decide) (fun h7 => ?_) (fun h7 => ?_)
  · replace hf := ift h7 hf
    refine lv_iconst (v := (1 : Int32)) S.1 S.2.1 dX4_fits_42 (by decide) ?_
    refine lv_goto (tgt := 47) S.1 S.2.1 dX4_fits_43 (by decide) ?_
    refine lv_istore (lv' := [(4, .int (1 : Int32)), (3, .int (1 : Int32)), (0, .ref (ad c0)), (1, .int a1), (2, .int a2)]) S.1 S.2.1 dX4_fits_47 hl (by decide) rfl (fun ls hl => ?_)
    refine lv_iload_n S.1 S.2.1 dX4_fits_49 rfl (lv_at hl 1 rfl) ?_
    refine lv_if_eq (tgt := 62) S.1 S.2.1 dX4_fits_50 (by decide) (fun q9 => absurd q9 (by decide)) (fun _ => ?_)
    refine lv_iload S.1 S.2.1 dX4_fits_53 (lv_at hl 0 rfl) ?_
    refine lv_if_eq (tgt := 62) S.1 S.2.1 dX4_fits_55 (by decide) (fun q9 => absurd q9 (by decide)) (fun _ => ?_)
    refine lv_iconst (v := (1 : Int32)) S.1 S.2.1 dX4_fits_58 (by decide) ?_
    refine lv_goto (tgt := 63) S.1 S.2.1 dX4_fits_59 (by decide) ?_
    cases hf
    exact r_z S hr hlk hP hS dX4_fits_63
  · replace hf := iff_ h7 hf
    refine lv_iload_n S.1 S.2.1 dX4_fits_29 rfl (lv_at hl 3 rfl) ?_
    refine lv_i2l (v := a2.toInt64) S.1 S.2.1 dX4_fits_30 rfl ?_
    refine lv_aload_n S.1 S.2.1 dX4_fits_31 rfl (lv_at hl 1 rfl) ?_
    refine lv_iload_n S.1 S.2.1 dX4_fits_32 rfl (lv_at hl 2 rfl) ?_
    refine lv_iconst (v := (1 : Int32)) S.1 S.2.1 dX4_fits_33 (by decide) ?_
    refine lv_iadd S.1 S.2.1 dX4_fits_34 ?_
    obtain ⟨x8, gx8, hf⟩ := bn1_some hf
    refine y_Vl (As := [.int (a1 + (1 : Int32))]) S hK hN hP hS rfl (ok_lt P0) (e4 P0.1) rfl (K_X4_at l E ad n hI hn _ N c0 (a1 + (1 : Int32)) P0 M x8 gx8) (cV 1 S w_co_yX4_at w_in_X4 w_ml_X4_20 w_im_yX4_at w_se_yX4_at hd_X4_at ⟨Nat.le_of_ble_eq_true rfl, Nat.le_of_ble_eq_true rfl⟩) hl.1 rfl rfl (Nat.le_of_ble_eq_true rfl) dX4_fits_35 ⟨Nat.zero_le _, Nat.zero_le _⟩ (fun H locs hP hS => ?_)
    refine ll_lt (tgt := 46) S dX4_fits_38 dX4_fits_39 (by decide) (fun h9 => ?_) (fun h9 => ?_)
    · replace hf := ift h9 hf
      refine lv_iconst (v := (0 : Int32)) S.1 S.2.1 dX4_fits_46 (by decide) ?_
      refine lv_istore (lv' := [(4, .int (0 : Int32)), (3, .int (1 : Int32)), (0, .ref (ad c0)), (1, .int a1), (2, .int a2)]) S.1 S.2.1 dX4_fits_47 hl (by decide) rfl (fun ls hl => ?_)
      refine lv_iload_n S.1 S.2.1 dX4_fits_49 rfl (lv_at hl 1 rfl) ?_
      refine lv_if_eq (tgt := 62) S.1 S.2.1 dX4_fits_50 (by decide) (fun q9 => absurd q9 (by decide)) (fun _ => ?_)
      refine lv_iload S.1 S.2.1 dX4_fits_53 (lv_at hl 0 rfl) ?_
      refine lv_if_eq (tgt := 62) S.1 S.2.1 dX4_fits_55 (by decide) (fun _ => ?_) (fun q9 => absurd (by decide) q9)
      refine lv_iconst (v := (0 : Int32)) S.1 S.2.1 dX4_fits_62 (by decide) ?_
      cases hf
      exact r_z S hr hlk hP hS dX4_fits_63
    · replace hf := iff_ h9 hf
      refine lv_iconst (v := (1 : Int32)) S.1 S.2.1 dX4_fits_42 (by decide) ?_
      refine lv_goto (tgt := 47) S.1 S.2.1 dX4_fits_43 (by decide) ?_
      refine lv_istore (lv' := [(4, .int (1 : Int32)), (3, .int (1 : Int32)), (0, .ref (ad c0)), (1, .int a1), (2, .int a2)]) S.1 S.2.1 dX4_fits_47 hl (by decide) rfl (fun ls hl => ?_)
      refine lv_iload_n S.1 S.2.1 dX4_fits_49 rfl (lv_at hl 1 rfl) ?_
      refine lv_if_eq (tgt := 62) S.1 S.2.1 dX4_fits_50 (by decide) (fun q9 => absurd q9 (by decide)) (fun _ => ?_)
      refine lv_iload S.1 S.2.1 dX4_fits_53 (lv_at hl 0 rfl) ?_
      refine lv_if_eq (tgt := 62) S.1 S.2.1 dX4_fits_55 (by decide) (fun q9 => absurd q9 (by decide)) (fun _ => ?_)
      refine lv_iconst (v := (1 : Int32)) S.1 S.2.1 dX4_fits_58 (by decide) ?_
      refine lv_goto (tgt := 63) S.1 S.2.1 dX4_fits_59 (by decide) ?_
      cases hf
      exact r_z S hr hlk hP hS dX4_fits_63
set_option maxHeartbeats 4000000 in
set_option maxRecDepth 100000 in
theorem K_X4_fits (l : Launch) (E : EE) (ad : Nat → Nat) (n : Nat) (hI : ad_I ad n) (hn : 117 ≤ n) (sz : Nat) (N : Nat) (c0 : Nat) (a1 : Int32) (a2 : Int32) (P0 : ok 4 n c0) (M : MM) (r : Bool) (hf : F_X4_fits N c0 a1 a2 M = some r) : CtI l yX4_fits cX4_fits 5 3 63 .boolean E (entC E ad n M) (entC E ad n M) ad n sz [.ref (ad c0), .int a1, .int a2] (bI r) := by
  unfold CtI
  refine body_of (by decide) "SurvivorPurse$Table" rfl (Nat.le_of_ble_eq_true rfl) ?_
  intro p e s m below meth c hsz S hr hlk hP hK hN ls hl
  subst hsz
  have hS : va_S (AA ad n s.heap.size) s.heap s.heap [] := va_S.rf
  have hl : lv_has ls 5 [(0, .ref (ad c0)), (1, .int a1), (2, .int a2)] := hl
  rw [F_X4_fits] at hf
  refine lv_iload_n S.1 S.2.1 dX4_fits_0 rfl (lv_at hl 1 rfl) ?_
  refine lv_if_le (tgt := 17) S.1 S.2.1 dX4_fits_1 (by decide) (fun h1 => ?_) (fun h1 => ?_)
  · replace hf := ift h1 hf
    exact L_X4_fits_17 l E ad n hI hn N c0 a1 a2 P0 S hr hlk hK hN _    M hf _ _ _ hP hS (lv_sub hl [0, 1, 2] rfl)
  · replace hf := iff_ h1 hf
    refine lv_iload_n S.1 S.2.1 dX4_fits_4 rfl (lv_at hl 2 rfl) ?_
    refine lv_i2l (v := a2.toInt64) S.1 S.2.1 dX4_fits_5 rfl ?_
    refine lv_aload_n S.1 S.2.1 dX4_fits_6 rfl (lv_at hl 0 rfl) ?_
    refine lv_iload_n S.1 S.2.1 dX4_fits_7 rfl (lv_at hl 1 rfl) ?_
    refine lv_iconst (v := (1 : Int32)) S.1 S.2.1 dX4_fits_8 (by decide) ?_
    refine lv_isub S.1 S.2.1 dX4_fits_9 ?_
    obtain ⟨x2, gx2, hf⟩ := bn1_some hf
    refine y_Vl (As := [.int (a1 - (1 : Int32))]) S hK hN hP hS rfl (ok_lt P0) (e4 P0.1) rfl (K_X4_at l E ad n hI hn _ N c0 (a1 - (1 : Int32)) P0 M x2 gx2) (cV 1 S w_co_yX4_at w_in_X4 w_ml_X4_20 w_im_yX4_at w_se_yX4_at hd_X4_at ⟨Nat.le_of_ble_eq_true rfl, Nat.le_of_ble_eq_true rfl⟩) hl.1 rfl rfl (Nat.le_of_ble_eq_true rfl) dX4_fits_10 ⟨Nat.zero_le _, Nat.zero_le _⟩ (fun H locs hP hS => ?_)
    refine ll_gt (tgt := 21) S dX4_fits_13 dX4_fits_14 (by decide) (fun h3 => ?_) (fun h3 => ?_)
    · replace hf := ift h3 hf
      refine lv_iconst (v := (0 : Int32)) S.1 S.2.1 dX4_fits_21 (by decide) ?_
      refine lv_istore_n (lv' := [(3, .int (0 : Int32)), (0, .ref (ad c0)), (1, .int a1), (2, .int a2)]) S.1 S.2.1 dX4_fits_22 rfl hl (by decide) rfl (fun ls hl => ?_)
      refine lv_iload_n S.1 S.2.1 dX4_fits_23 rfl (lv_at hl 2 rfl) ?_
      refine lv_bipush (v := (110 : Int32)) S.1 S.2.1 dX4_fits_24 (by decide) ?_
      refine lv_icmp_ge (tgt := 42) S.1 S.2.1 dX4_fits_26 (by decide) (fun h4 => ?_) (fun h4 => ?_)
      · replace hf := ift h4 hf
        refine lv_iconst (v := (1 : Int32)) S.1 S.2.1 dX4_fits_42 (by decide) ?_
        refine lv_goto (tgt := 47) S.1 S.2.1 dX4_fits_43 (by decide) ?_
        refine lv_istore (lv' := [(4, .int (1 : Int32)), (3, .int (0 : Int32)), (0, .ref (ad c0)), (1, .int a1), (2, .int a2)]) S.1 S.2.1 dX4_fits_47 hl (by decide) rfl (fun ls hl => ?_)
        refine lv_iload_n S.1 S.2.1 dX4_fits_49 rfl (lv_at hl 1 rfl) ?_
        refine lv_if_eq (tgt := 62) S.1 S.2.1 dX4_fits_50 (by decide) (fun _ => ?_) (fun q9 => absurd (by decide) q9)
        refine lv_iconst (v := (0 : Int32)) S.1 S.2.1 dX4_fits_62 (by decide) ?_
        cases hf
        exact r_z S hr hlk hP hS dX4_fits_63
      · replace hf := iff_ h4 hf
        refine lv_iload_n S.1 S.2.1 dX4_fits_29 rfl (lv_at hl 3 rfl) ?_
        refine lv_i2l (v := a2.toInt64) S.1 S.2.1 dX4_fits_30 rfl ?_
        refine lv_aload_n S.1 S.2.1 dX4_fits_31 rfl (lv_at hl 1 rfl) ?_
        refine lv_iload_n S.1 S.2.1 dX4_fits_32 rfl (lv_at hl 2 rfl) ?_
        refine lv_iconst (v := (1 : Int32)) S.1 S.2.1 dX4_fits_33 (by decide) ?_
        refine lv_iadd S.1 S.2.1 dX4_fits_34 ?_
        obtain ⟨x5, gx5, hf⟩ := bn1_some hf
        refine y_Vl (As := [.int (a1 + (1 : Int32))]) S hK hN hP hS rfl (ok_lt P0) (e4 P0.1) rfl (K_X4_at l E ad n hI hn _ N c0 (a1 + (1 : Int32)) P0 M x5 gx5) (cV 1 S w_co_yX4_at w_in_X4 w_ml_X4_20 w_im_yX4_at w_se_yX4_at hd_X4_at ⟨Nat.le_of_ble_eq_true rfl, Nat.le_of_ble_eq_true rfl⟩) hl.1 rfl rfl (Nat.le_of_ble_eq_true rfl) dX4_fits_35 ⟨Nat.zero_le _, Nat.zero_le _⟩ (fun H locs hP hS => ?_)
        refine ll_lt (tgt := 46) S dX4_fits_38 dX4_fits_39 (by decide) (fun h6 => ?_) (fun h6 => ?_)
        · replace hf := ift h6 hf
          refine lv_iconst (v := (0 : Int32)) S.1 S.2.1 dX4_fits_46 (by decide) ?_
          refine lv_istore (lv' := [(4, .int (0 : Int32)), (3, .int (0 : Int32)), (0, .ref (ad c0)), (1, .int a1), (2, .int a2)]) S.1 S.2.1 dX4_fits_47 hl (by decide) rfl (fun ls hl => ?_)
          refine lv_iload_n S.1 S.2.1 dX4_fits_49 rfl (lv_at hl 1 rfl) ?_
          refine lv_if_eq (tgt := 62) S.1 S.2.1 dX4_fits_50 (by decide) (fun _ => ?_) (fun q9 => absurd (by decide) q9)
          refine lv_iconst (v := (0 : Int32)) S.1 S.2.1 dX4_fits_62 (by decide) ?_
          cases hf
          exact r_z S hr hlk hP hS dX4_fits_63
        · replace hf := iff_ h6 hf
          refine lv_iconst (v := (1 : Int32)) S.1 S.2.1 dX4_fits_42 (by decide) ?_
          refine lv_goto (tgt := 47) S.1 S.2.1 dX4_fits_43 (by decide) ?_
          refine lv_istore (lv' := [(4, .int (1 : Int32)), (3, .int (0 : Int32)), (0, .ref (ad c0)), (1, .int a1), (2, .int a2)]) S.1 S.2.1 dX4_fits_47 hl (by decide) rfl (fun ls hl => ?_)
          refine lv_iload_n S.1 S.2.1 dX4_fits_49 rfl (lv_at hl 1 rfl) ?_
          refine lv_if_eq (tgt := 62) S.1 S.2.1 dX4_fits_50 (by decide) (fun _ => ?_) (fun q9 => absurd (by decide) q9)
          refine lv_iconst (v := (0 : Int32)) S.1 S.2.1 dX4_fits_62 (by decide) ?_
          cases hf
          exact r_z S hr hlk hP hS dX4_fits_63
    · replace hf := iff_ h3 hf
      exact L_X4_fits_17 l E ad n hI hn N c0 a1 a2 P0 S hr hlk hK hN _    M hf _ _ _ hP hS (lv_sub hl [0, 1, 2] rfl)
theorem hd_X4_replace : yX4_replace.cls ≠ "java/lang/invoke/MethodHandle" ∧ yX4_replace.cls ≠ "java/lang/invoke/VarHandle" ∧ (parseMethodDescriptor yX4_replace.desc).map (fun d => d.parameters.length) = some 2 := by decide +kernel
set_option maxHeartbeats 4000000 in
set_option maxRecDepth 100000 in
theorem K_X4_replace (l : Launch) (E : EE) (ad : Nat → Nat) (n : Nat) (hI : ad_I ad n) (hn : 117 ≤ n) (sz : Nat) (N : Nat) (c0 : Nat) (a1 : Int32) (a2 : Int32) (P0 : ok 4 n c0) (M : MM) (r : Int64) (M' : MM) (hf : F_X4_replace N c0 a1 a2 M = some (r, M')) : CtL l yX4_replace cX4_replace 5 3 63 E (entC E ad n M) (entC E ad n M') ad n sz [.ref (ad c0), .int a1, .int a2] (r) := by
  unfold CtL
  refine body_of (by decide) "SurvivorPurse$Table" rfl (Nat.le_of_ble_eq_true rfl) ?_
  intro p e s m below meth c hsz S hr hlk hP hK hN ls hl
  subst hsz
  have hS : va_S (AA ad n s.heap.size) s.heap s.heap [] := va_S.rf
  have hl : lv_has ls 5 [(0, .ref (ad c0)), (1, .int a1), (2, .int a2)] := hl
  rw [F_X4_replace] at hf
  refine lv_aload_n S.1 S.2.1 dX4_replace_0 rfl (lv_at hl 0 rfl) ?_
  refine lv_iload_n S.1 S.2.1 dX4_replace_1 rfl (lv_at hl 1 rfl) ?_
  obtain ⟨x1, gx1, hf⟩ := bn1_some hf
  refine y_Vl (As := [.int a1]) S hK hN hP hS rfl (ok_lt P0) (e4 P0.1) rfl (K_X4_at l E ad n hI hn _ N c0 a1 P0 M x1 gx1) (cV 1 S w_co_yX4_at w_in_X4 w_ml_X4_20 w_im_yX4_at w_se_yX4_at hd_X4_at ⟨Nat.le_of_ble_eq_true rfl, Nat.le_of_ble_eq_true rfl⟩) hl.1 rfl rfl (Nat.le_of_ble_eq_true rfl) dX4_replace_2 ⟨Nat.zero_le _, Nat.zero_le _⟩ (fun H locs hP hS => ?_)
  refine lv_lstore_n (lv' := [(3, .long x1), (0, .ref (ad c0)), (1, .int a1), (2, .int a2)]) S.1 S.2.1 dX4_replace_5 rfl hl (by decide) rfl (fun ls hl => ?_)
  refine lv_iload_n S.1 S.2.1 dX4_replace_6 rfl (lv_at hl 2 rfl) ?_
  refine y_Ni (As := [.int a1]) S hK hN hP hS rfl (K_X5_isAge l E ad n hI hn _ a1  M _ rfl) (cN 1 S hN w_co_yX5_isAge w_in_X5 w_ml_X4_16 w_st_yX5_isAge hd_X5_isAge ⟨Nat.le_of_ble_eq_true rfl, Nat.le_of_ble_eq_true rfl⟩) hl.1 rfl rfl (Nat.le_of_ble_eq_true rfl) dX4_replace_7 ⟨Nat.zero_le _, Nat.zero_le _⟩ (fun H locs hP hS => ?_)
  refine lv_if_eq (tgt := 20) S.1 S.2.1 dX4_replace_10 (by decide) (fun h2 => ?_) (fun h2 => ?_)
  · replace hf := ift h2 hf
    refine lv_lload_n S.1 S.2.1 dX4_replace_20 rfl (lv_at hl 0 rfl) ?_
    cases hf
    exact r_l S hr hlk hP hS dX4_replace_21
  · replace hf := iff_ h2 hf
    refine lv_aload_n S.1 S.2.1 dX4_replace_13 rfl (lv_at hl 1 rfl) ?_
    refine x_get (v := .ref (ad (c0 + 1))) S hK hP w_lay_X4 (ci := 4) rfl c0 (ok_lt P0) (e4 P0.1) 0 (by decide) w_fl_X4_9 rfl rfl dX4_replace_14 ?_
    refine lv_iload_n S.1 S.2.1 dX4_replace_17 rfl (lv_at hl 2 rfl) ?_
    refine lv_iload_n S.1 S.2.1 dX4_replace_18 rfl (lv_at hl 3 rfl) ?_
    obtain ⟨h3, hf⟩ := gd_some hf
    refine x_iast S hI hK hP hS (c0 + 1) (ok_lt (ok_al P0)) (e7 (ok_al P0).1) h3 (entC E ad n (sI M (c0 + 1) (ix a1) a2)) (h1_7 (ok_al P0).1) (fun _ h => entC_sI _ h) dX4_replace_19 (fun H locs hP hS => ?_)
    obtain ⟨M4, eM4, hf⟩ := bnd_some hf
    rw [← eM4] at hP
    refine lv_lload_n S.1 S.2.1 dX4_replace_20 rfl (lv_at hl 0 rfl) ?_
    cases hf
    exact r_l S hr hlk hP hS dX4_replace_21

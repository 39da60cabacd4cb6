def F_X3_copyFrom (N : Nat) (c0 : Nat) (c1 : Nat) (M : MM) : Option MM :=
  bnd (sI M c0 0 (gI M c1 0)) (fun M1 =>
  bnd (sI M1 c0 1 (gI M1 c1 1)) (fun M2 =>
  bnd (sI M2 c0 2 (gI M2 c1 2)) (fun M3 =>
  bnd (sI M3 c0 3 (gI M3 c1 3)) (fun M4 =>
  bnd (sI M4 c0 4 (gI M4 c1 4)) (fun M5 =>
  bnd (sI M5 c0 5 (gI M5 c1 5)) (fun M6 =>
  bnd (sL M6 c0 6 (gL M6 c1 6)) (fun M7 =>
  bnd (sL M7 c0 7 (gL M7 c1 7)) (fun M8 =>
  bnd (sI M8 c0 8 (gI M8 c1 8)) (fun M9 =>
  bnd (sI M9 c0 9 (gI M9 c1 9)) (fun M10 =>
  bnd (sI M10 c0 10 (gI M10 c1 10)) (fun M11 =>
  bnd (sL M11 c0 11 (gL M11 c1 11)) (fun M12 =>
  bnd (sI M12 c0 12 (gI M12 c1 12)) (fun M13 =>
  bnd (sI M13 c0 13 (bo (gI M13 c1 13))) (fun M14 =>
  bnd (sI M14 c0 14 (gI M14 c1 14)) (fun M15 =>
  bnd (cpL M15 (c1 + 40) (c0 + 40) 60) (fun M16 =>
  some M16
  ))))))))))))))))
def F_X3_loseTo_54 (N : Nat) (c0 : Nat) (c1 : Nat) : Nat → Int32 → MM → Option MM
  | 0, _, _ => none
  | fu + 1, v2, M =>
    if (60 : Int32) ≤ v2 then
      some M
    else
      gd (ib v2 60) (
      bnd (sL M (c0 + 40) (ix v2) ((gL M (c0 + 40) (ix v2)) - (gL M (c1 + 40) (ix v2)))) (fun M7 =>
      F_X3_loseTo_54 N c0 c1 fu (v2 + (1 : Int32)) M7
      ))
def F_X3_loseTo (N : Nat) (c0 : Nat) (c1 : Nat) (M : MM) : Option MM :=
  bnd (sI M c0 3 ((gI M c0 3) - (gI M c1 3))) (fun M1 =>
  bnd (sL M1 c0 6 ((gL M1 c0 6) - (gL M1 c1 6))) (fun M2 =>
  bnd (sL M2 c0 7 ((gL M2 c0 7) - (gL M2 c1 7))) (fun M3 =>
  bnd (sL M3 c0 11 ((gL M3 c0 11) - (gL M3 c1 11))) (fun M4 =>
  F_X3_loseTo_54 N c0 c1 N (0 : Int32) M4
  ))))
def F_X4_copyFrom (N : Nat) (c0 : Nat) (c1 : Nat) (M : MM) : Option MM :=
  bnd (cpI M (c1 + 1) (c0 + 1) 111) (fun M1 =>
  some M1
  )
def F_X5_heir (N : Nat) (a1 : Int32) (a2 : Int32) (M : MM) : Option (Int64 × MM) :=
  if bI (F_X0_isMember a1 M) = (0 : Int32) then
    some ((-1000000000000000 : Int64), M)
  else
    if a2 = a1 then
      some ((-1000000000000000 : Int64), M)
    else
      if a2 = (-1 : Int32) then
        gd (ib a1 24) (
        bnd (gI M (7 + (ix a1)) 3) (fun x5 =>
        bnd (sI M (7 + (ix a1)) 3 a2) (fun M6 =>
        some (x5.toInt64, M6)
        )))
      else
        if bI (F_X0_isMember a2 M) = (0 : Int32) then
          some ((-1000000000000000 : Int64), M)
        else
          gd (ib a1 24) (
          bnd (gI M (7 + (ix a1)) 3) (fun x9 =>
          bnd (sI M (7 + (ix a1)) 3 a2) (fun M10 =>
          some (x9.toInt64, M10)
          )))
def F_X5_sell (N : Nat) (a1 : Int32) (a2 : Int32) (M : MM) : Option (Int64 × MM) :=
  if bI (F_X0_isShare a1 M) = (0 : Int32) then
    some ((-1000000000000000 : Int64), M)
  else
    if bI (F_X0_isMember a2 M) = (0 : Int32) then
      some ((-1000000000000000 : Int64), M)
    else
      gd (ib a1 40) (
      bnd (gI M (37 + (ix a1)) 0) (fun x4 =>
      bnd (sI M (37 + (ix a1)) 0 a2) (fun M5 =>
      some (x4.toInt64, M5)
      )))
def F_X5_share (N : Nat) (a1 : Int32) (a2 : Int32) (M : MM) : Option Int64 :=
  if bI (F_X0_isShare a1 M) = (0 : Int32) then
    some (-1000000000000000 : Int64)
  else
    gd (ib a1 40) (
    if a2 = (0 : Int32) then
      some ((gI M (37 + (ix a1)) 0).toInt64)
    else
      if a2 = (1 : Int32) then
        some ((gI M (37 + (ix a1)) 1).toInt64)
      else
        if a2 = (2 : Int32) then
          some ((gI M (37 + (ix a1)) 2).toInt64)
        else
          if a2 = (3 : Int32) then
            some ((gI M (37 + (ix a1)) 3).toInt64)
          else
            if a2 = (4 : Int32) then
              some ((gI M (37 + (ix a1)) 4).toInt64)
            else
              if a2 = (5 : Int32) then
                some ((gI M (37 + (ix a1)) 5).toInt64)
              else
                if a2 = (6 : Int32) then
                  some (gL M (37 + (ix a1)) 6)
                else
                  if a2 = (7 : Int32) then
                    some (gL M (37 + (ix a1)) 7)
                  else
                    if a2 = (8 : Int32) then
                      bn1 (F_X3_heldAt N (37 + (ix a1)) (gI M 1 7) M) (fun x12 =>
                      some x12
                      )
                    else
                      if a2 = (9 : Int32) then
                        some ((gI M (37 + (ix a1)) 8).toInt64)
                      else
                        if a2 = (10 : Int32) then
                          some ((gI M (37 + (ix a1)) 10).toInt64)
                        else
                          if a2 = (11 : Int32) then
                            bn1 (F_X0_howItIs N (37 + (ix a1)) M) (fun x16 =>
                            some x16.toInt64
                            )
                          else
                            if a2 = (12 : Int32) then
                              some (gL M (37 + (ix a1)) 11)
                            else
                              some (-1000000000000000 : Int64)
    )
def F_X5_of (N : Nat) (a1 : Int32) (a2 : Int32) (M : MM) : Option Int64 :=
  if bI (F_X0_isMember a1 M) = (0 : Int32) then
    some (-1000000000000000 : Int64)
  else
    gd (ib a1 24) (
    if a2 = (0 : Int32) then
      some (gL M (7 + (ix a1)) 1)
    else
      if a2 = (1 : Int32) then
        some (gL M (7 + (ix a1)) 2)
      else
        if a2 = (2 : Int32) then
          some ((gI M (7 + (ix a1)) 0).toInt64)
        else
          if a2 = (3 : Int32) then
            if bo (gI M (7 + (ix a1)) 4) = (0 : Int32) then
              some (0 : Int64)
            else
              some (1 : Int64)
          else
            if a2 = (4 : Int32) then
              if bo (gI M (7 + (ix a1)) 5) = (0 : Int32) then
                some (-1000000000000000 : Int64)
              else
                some ((gI M (7 + (ix a1)) 6).toInt64)
            else
              if a2 = (5 : Int32) then
                some ((gI M (7 + (ix a1)) 3).toInt64)
              else
                some (-1000000000000000 : Int64)
    )
def F_X5_about (N : Nat) (a1 : Int32) (a2 : Int32) (M : MM) : Option Int64 :=
  if bI (F_X0_isRank a1 M) = (0 : Int32) then
    some (-1000000000000000 : Int64)
  else
    gd (ib a1 6) (
    if a2 = (0 : Int32) then
      some ((gI M (31 + (ix a1)) 0).toInt64)
    else
      if a2 = (1 : Int32) then
        some ((gI M (31 + (ix a1)) 1).toInt64)
      else
        if a2 = (2 : Int32) then
          some ((gI M (31 + (ix a1)) 2).toInt64)
        else
          if a2 = (3 : Int32) then
            some (gL M (31 + (ix a1)) 3)
          else
            if a2 = (4 : Int32) then
              bn1 (F_X0_drawingUnits N a1 M) (fun x8 =>
              some x8
              )
            else
              if a2 = (5 : Int32) then
                bn1 (F_X0_sharesIn N a1 M) (fun x10 =>
                some x10
                )
              else
                some (-1000000000000000 : Int64)
    )
def F_X5_isWithin (a1 : Int32) (a2 : Int32) (a3 : Int32) : Bool :=
  if a1 < a2 then
    false
  else
    if a3 < a1 then
      false
    else
      true
def F_X5_isAge (a1 : Int32) : Bool :=
  F_X5_isWithin a1 (0 : Int32) (110 : Int32)
def F_X5_sign (a1 : Int64) (a2 : Int64) : Int64 :=
  if a1 ≤ a2 then
    if a2 ≤ a1 then
      (0 : Int64)
    else
      (-1 : Int64)
  else
    (1 : Int64)
def F_X5_parted (a1 : Int64) (a2 : Int64) (a3 : Int64) : Int64 :=
  if a3 ≤ (0 : Int64) then
    (0 : Int64)
  else
    (a1 * a2) / a3
def F_J7_fill_d0a16_6 (N : Nat) (c1 : Nat) (a2 : Int64) : Nat → Int32 → Int32 → MM → Option MM
  | 0, _, _, _ => none
  | fu + 1, v3, v4, M =>
    if v4 ≤ v3 then
      some M
    else
      gd (ib v3 60) (
      bnd (sL M c1 (ix v3) a2) (fun M3 =>
      F_J7_fill_d0a16_6 N c1 a2 fu (v3 + (1 : Int32)) v4 M3
      ))
def F_J7_fill_d0a16 (N : Nat) (c1 : Nat) (a2 : Int64) (M : MM) : Option MM :=
  F_J7_fill_d0a16_6 N c1 a2 N (0 : Int32) (60 : Int32) M
def F_X0_copyFrom_147 (N : Nat) (c0 : Nat) (c1 : Nat) : Nat → Int32 → MM → Option MM
  | 0, _, _ => none
  | fu + 1, v2, M =>
    if gI M c0 6 ≤ v2 then
      some M
    else
      gd (ib v2 40) (
      bn1 (F_X3_copyFrom N ((c0 + 5) + 31 + (ix v2)) ((c1 + 5) + 31 + (ix v2)) M) (fun M19 =>
      F_X0_copyFrom_147 N c0 c1 fu (v2 + (1 : Int32)) M19
      ))
def F_X0_copyFrom_116 (N : Nat) (c0 : Nat) (c1 : Nat) : Nat → Int32 → MM → Option MM
  | 0, _, _ => none
  | fu + 1, v2, M =>
    if gI M c0 5 ≤ v2 then
      F_X0_copyFrom_147 N c0 c1 N (0 : Int32) M
    else
      gd (ib v2 6) (
      bn1 (F_X2_copyFrom N ((c0 + 4) + 26 + (ix v2)) ((c1 + 4) + 26 + (ix v2)) M) (fun M16 =>
      F_X0_copyFrom_116 N c0 c1 fu (v2 + (1 : Int32)) M16
      ))
def F_X0_copyFrom_85 (N : Nat) (c0 : Nat) (c1 : Nat) : Nat → Int32 → MM → Option MM
  | 0, _, _ => none
  | fu + 1, v2, M =>
    if gI M c0 4 ≤ v2 then
      F_X0_copyFrom_116 N c0 c1 N (0 : Int32) M
    else
      gd (ib v2 24) (
      bn1 (F_X1_copyFrom N ((c0 + 3) + 3 + (ix v2)) ((c1 + 3) + 3 + (ix v2)) M) (fun M13 =>
      F_X0_copyFrom_85 N c0 c1 fu (v2 + (1 : Int32)) M13
      ))
def F_X0_copyFrom (N : Nat) (c0 : Nat) (c1 : Nat) (M : MM) : Option MM :=
  bn1 (F_X4_copyFrom N (c0 + 1) (c1 + 1) M) (fun M1 =>
  bnd (sI M1 c0 4 (gI M1 c1 4)) (fun M2 =>
  bnd (sI M2 c0 5 (gI M2 c1 5)) (fun M3 =>
  bnd (sI M3 c0 6 (gI M3 c1 6)) (fun M4 =>
  bnd (sI M4 c0 7 (gI M4 c1 7)) (fun M5 =>
  bnd (sI M5 c0 8 (gI M5 c1 8)) (fun M6 =>
  bnd (sI M6 c0 9 (gI M6 c1 9)) (fun M7 =>
  bnd (sL M7 c0 10 (gL M7 c1 10)) (fun M8 =>
  bnd (sL M8 c0 11 (gL M8 c1 11)) (fun M9 =>
  bnd (sL M9 c0 12 (gL M9 c1 12)) (fun M10 =>
  F_X0_copyFrom_85 N c0 c1 N (0 : Int32) M10
  ))))))))))
def F_X0_addMember (N : Nat) (a1 : Int32) (M : MM) : Option (Int32 × MM) :=
  gd (ib (gI M 1 4) 24) (
  bn1 (F_X1_begin N (7 + (ix (gI M 1 4))) a1 M) (fun M2 =>
  bnd (sI M2 1 4 ((gI M2 1 4) + (1 : Int32))) (fun M3 =>
  some ((gI M3 1 4) - (1 : Int32), M3)
  )))
theorem hd_X3_copyFrom : yX3_copyFrom.cls ≠ "java/lang/invoke/MethodHandle" ∧ yX3_copyFrom.cls ≠ "java/lang/invoke/VarHandle" ∧ (parseMethodDescriptor yX3_copyFrom.desc).map (fun d => d.parameters.length) = some 1 := by decide +kernel
set_option maxHeartbeats 4000000 in
set_option maxRecDepth 100000 in
theorem K_X3_copyFrom (l : Launch) (E : EE) (ad : Nat → Nat) (n : Nat) (hI : ad_I ad n) (hn : 117 ≤ n) (sz : Nat) (N : Nat) (c0 : Nat) (c1 : Nat) (P0 : ok 3 n c0) (P1 : ok 3 n c1) (M : MM) (M' : MM) (hf : F_X3_copyFrom N c0 c1 M = some M') : CtV l yX3_copyFrom cX3_copyFrom 2 1 60 E (entC E ad n M) (entC E ad n M') ad n sz [.ref (ad c0), .ref (ad c1)] := by
  unfold CtV
  refine body_of (by decide) "SurvivorPurse$Share" rfl (Nat.le_of_ble_eq_true rfl) ?_
  intro p e s m below meth c hsz S hr hlk hP hK hN ls hl
  subst hsz
  have hS : va_S (AA ad n s.heap.size) s.heap s.heap [] := va_S.rf
  have hl : lv_has ls 2 [(0, .ref (ad c0)), (1, .ref (ad c1))] := hl
  rw [F_X3_copyFrom] at hf
  refine lv_aload_n S.1 S.2.1 dX3_copyFrom_0 rfl (lv_at hl 0 rfl) ?_
  refine lv_aload_n S.1 S.2.1 dX3_copyFrom_1 rfl (lv_at hl 1 rfl) ?_
  refine x_get (v := .int (gI M c1 0)) S hK hP w_lay_X3 (ci := 3) rfl c1 (ok_lt P1) (e3 P1.1) 0 (by decide) w_fl_X3_79 rfl rfl dX3_copyFrom_2 ?_
  refine x_put S hI hK hP hS w_lay_X3 tyX3 tyX3_ok nmX3 (ci := 3) rfl c0 (ok_lt P0) (e3 P0.1) 0 (by decide) w_fl_X3_79 rfl rfl rfl rfl (Nat.le_of_ble_eq_true rfl) (entC E ad n (sI M c0 0 (gI M c1 0))) (h1_X3_0 P0.1 ) (fun _ h => entC_sI _ h) dX3_copyFrom_5 (fun H locs hP hS => ?_)
  obtain ⟨M1, eM1, hf⟩ := bnd_some hf
  rw [← eM1] at hP
  refine lv_aload_n S.1 S.2.1 dX3_copyFrom_8 rfl (lv_at hl 0 rfl) ?_
  refine lv_aload_n S.1 S.2.1 dX3_copyFrom_9 rfl (lv_at hl 1 rfl) ?_
  refine x_get (v := .int (gI M1 c1 1)) S hK hP w_lay_X3 (ci := 3) rfl c1 (ok_lt P1) (e3 P1.1) 1 (by decide) w_fl_X3_51 rfl rfl dX3_copyFrom_10 ?_
  refine x_put S hI hK hP hS w_lay_X3 tyX3 tyX3_ok nmX3 (ci := 3) rfl c0 (ok_lt P0) (e3 P0.1) 1 (by decide) w_fl_X3_51 rfl rfl rfl rfl (Nat.le_of_ble_eq_true rfl) (entC E ad n (sI M1 c0 1 (gI M1 c1 1))) (h1_X3_1 P0.1 ) (fun _ h => entC_sI _ h) dX3_copyFrom_13 (fun H locs hP hS => ?_)
  obtain ⟨M2, eM2, hf⟩ := bnd_some hf
  rw [← eM2] at hP
  refine lv_aload_n S.1 S.2.1 dX3_copyFrom_16 rfl (lv_at hl 0 rfl) ?_
  refine lv_aload_n S.1 S.2.1 dX3_copyFrom_17 rfl (lv_at hl 1 rfl) ?_
  refine x_get (v := .int (gI M2 c1 2)) S hK hP w_lay_X3 (ci := 3) rfl c1 (ok_lt P1) (e3 P1.1) 2 (by decide) w_fl_X3_54 rfl rfl dX3_copyFrom_18 ?_
  refine x_put S hI hK hP hS w_lay_X3 tyX3 tyX3_ok nmX3 (ci := 3) rfl c0 (ok_lt P0) (e3 P0.1) 2 (by decide) w_fl_X3_54 rfl rfl rfl rfl (Nat.le_of_ble_eq_true rfl) (entC E ad n (sI M2 c0 2 (gI M2 c1 2))) (h1_X3_2 P0.1 ) (fun _ h => entC_sI _ h) dX3_copyFrom_21 (fun H locs hP hS => ?_)
  obtain ⟨M3, eM3, hf⟩ := bnd_some hf
  rw [← eM3] at hP
  refine lv_aload_n S.1 S.2.1 dX3_copyFrom_24 rfl (lv_at hl 0 rfl) ?_
  refine lv_aload_n S.1 S.2.1 dX3_copyFrom_25 rfl (lv_at hl 1 rfl) ?_
  refine x_get (v := .int (gI M3 c1 3)) S hK hP w_lay_X3 (ci := 3) rfl c1 (ok_lt P1) (e3 P1.1) 3 (by decide) w_fl_X3_82 rfl rfl dX3_copyFrom_26 ?_
  refine x_put S hI hK hP hS w_lay_X3 tyX3 tyX3_ok nmX3 (ci := 3) rfl c0 (ok_lt P0) (e3 P0.1) 3 (by decide) w_fl_X3_82 rfl rfl rfl rfl (Nat.le_of_ble_eq_true rfl) (entC E ad n (sI M3 c0 3 (gI M3 c1 3))) (h1_X3_3 P0.1 ) (fun _ h => entC_sI _ h) dX3_copyFrom_29 (fun H locs hP hS => ?_)
  obtain ⟨M4, eM4, hf⟩ := bnd_some hf
  rw [← eM4] at hP
  refine lv_aload_n S.1 S.2.1 dX3_copyFrom_32 rfl (lv_at hl 0 rfl) ?_
  refine lv_aload_n S.1 S.2.1 dX3_copyFrom_33 rfl (lv_at hl 1 rfl) ?_
  refine x_get (v := .int (gI M4 c1 4)) S hK hP w_lay_X3 (ci := 3) rfl c1 (ok_lt P1) (e3 P1.1) 4 (by decide) w_fl_X3_85 rfl rfl dX3_copyFrom_34 ?_
  refine x_put S hI hK hP hS w_lay_X3 tyX3 tyX3_ok nmX3 (ci := 3) rfl c0 (ok_lt P0) (e3 P0.1) 4 (by decide) w_fl_X3_85 rfl rfl rfl rfl (Nat.le_of_ble_eq_true rfl) (entC E ad n (sI M4 c0 4 (gI M4 c1 4))) (h1_X3_4 P0.1 ) (fun _ h => entC_sI _ h) dX3_copyFrom_37 (fun H locs hP hS => ?_)
  obtain ⟨M5, eM5, hf⟩ := bnd_some hf
  rw [← eM5] at hP
  refine lv_aload_n S.1 S.2.1 dX3_copyFrom_40 rfl (lv_at hl 0 rfl) ?_
  refine lv_aload_n S.1 S.2.1 dX3_copyFrom_41 rfl (lv_at hl 1 rfl) ?_
  refine x_get (v := .int (gI M5 c1 5)) S hK hP w_lay_X3 (ci := 3) rfl c1 (ok_lt P1) (e3 P1.1) 5 (by decide) w_fl_X3_15 rfl rfl dX3_copyFrom_42 ?_
  refine x_put S hI hK hP hS w_lay_X3 tyX3 tyX3_ok nmX3 (ci := 3) rfl c0 (ok_lt P0) (e3 P0.1) 5 (by decide) w_fl_X3_15 rfl rfl rfl rfl (Nat.le_of_ble_eq_true rfl) (entC E ad n (sI M5 c0 5 (gI M5 c1 5))) (h1_X3_5 P0.1 ) (fun _ h => entC_sI _ h) dX3_copyFrom_45 (fun H locs hP hS => ?_)
  obtain ⟨M6, eM6, hf⟩ := bnd_some hf
  rw [← eM6] at hP
  refine lv_aload_n S.1 S.2.1 dX3_copyFrom_48 rfl (lv_at hl 0 rfl) ?_
  refine lv_aload_n S.1 S.2.1 dX3_copyFrom_49 rfl (lv_at hl 1 rfl) ?_
  refine x_get (v := .long (gL M6 c1 6)) S hK hP w_lay_X3 (ci := 3) rfl c1 (ok_lt P1) (e3 P1.1) 6 (by decide) w_fl_X3_88 rfl rfl dX3_copyFrom_50 ?_
  refine x_put S hI hK hP hS w_lay_X3 tyX3 tyX3_ok nmX3 (ci := 3) rfl c0 (ok_lt P0) (e3 P0.1) 6 (by decide) w_fl_X3_88 rfl rfl rfl rfl (Nat.le_of_ble_eq_true rfl) (entC E ad n (sL M6 c0 6 (gL M6 c1 6))) (h1_X3_6 P0.1 ) (fun _ h => entC_sL _ h) dX3_copyFrom_53 (fun H locs hP hS => ?_)
  obtain ⟨M7, eM7, hf⟩ := bnd_some hf
  rw [← eM7] at hP
  refine lv_aload_n S.1 S.2.1 dX3_copyFrom_56 rfl (lv_at hl 0 rfl) ?_
  refine lv_aload_n S.1 S.2.1 dX3_copyFrom_57 rfl (lv_at hl 1 rfl) ?_
  refine x_get (v := .long (gL M7 c1 7)) S hK hP w_lay_X3 (ci := 3) rfl c1 (ok_lt P1) (e3 P1.1) 7 (by decide) w_fl_X3_19 rfl rfl dX3_copyFrom_58 ?_
  refine x_put S hI hK hP hS w_lay_X3 tyX3 tyX3_ok nmX3 (ci := 3) rfl c0 (ok_lt P0) (e3 P0.1) 7 (by decide) w_fl_X3_19 rfl rfl rfl rfl (Nat.le_of_ble_eq_true rfl) (entC E ad n (sL M7 c0 7 (gL M7 c1 7))) (h1_X3_7 P0.1 ) (fun _ h => entC_sL _ h) dX3_copyFrom_61 (fun H locs hP hS => ?_)
  obtain ⟨M8, eM8, hf⟩ := bnd_some hf
  rw [← eM8] at hP
  refine lv_aload_n S.1 S.2.1 dX3_copyFrom_64 rfl (lv_at hl 0 rfl) ?_
  refine lv_aload_n S.1 S.2.1 dX3_copyFrom_65 rfl (lv_at hl 1 rfl) ?_
  refine x_get (v := .int (gI M8 c1 8)) S hK hP w_lay_X3 (ci := 3) rfl c1 (ok_lt P1) (e3 P1.1) 8 (by decide) w_fl_X3_23 rfl rfl dX3_copyFrom_66 ?_
  refine x_put S hI hK hP hS w_lay_X3 tyX3 tyX3_ok nmX3 (ci := 3) rfl c0 (ok_lt P0) (e3 P0.1) 8 (by decide) w_fl_X3_23 rfl rfl rfl rfl (Nat.le_of_ble_eq_true rfl) (entC E ad n (sI M8 c0 8 (gI M8 c1 8))) (h1_X3_8 P0.1 ) (fun _ h => entC_sI _ h) dX3_copyFrom_69 (fun H locs hP hS => ?_)
  obtain ⟨M9, eM9, hf⟩ := bnd_some hf
  rw [← eM9] at hP
  refine lv_aload_n S.1 S.2.1 dX3_copyFrom_72 rfl (lv_at hl 0 rfl) ?_
  refine lv_aload_n S.1 S.2.1 dX3_copyFrom_73 rfl (lv_at hl 1 rfl) ?_
  refine x_get (v := .int (gI M9 c1 9)) S hK hP w_lay_X3 (ci := 3) rfl c1 (ok_lt P1) (e3 P1.1) 9 (by decide) w_fl_X3_26 rfl rfl dX3_copyFrom_74 ?_
  refine x_put S hI hK hP hS w_lay_X3 tyX3 tyX3_ok nmX3 (ci := 3) rfl c0 (ok_lt P0) (e3 P0.1) 9 (by decide) w_fl_X3_26 rfl rfl rfl rfl (Nat.le_of_ble_eq_true rfl) (entC E ad n (sI M9 c0 9 (gI M9 c1 9))) (h1_X3_9 P0.1 ) (fun _ h => entC_sI _ h) dX3_copyFrom_77 (fun H locs hP hS => ?_)
  obtain ⟨M10, eM10, hf⟩ := bnd_some hf
  rw [← eM10] at hP
  refine lv_aload_n S.1 S.2.1 dX3_copyFrom_80 rfl (lv_at hl 0 rfl) ?_
  refine lv_aload_n S.1 S.2.1 dX3_copyFrom_81 rfl (lv_at hl 1 rfl) ?_
  refine x_get (v := .int (gI M10 c1 10)) S hK hP w_lay_X3 (ci := 3) rfl c1 (ok_lt P1) (e3 P1.1) 10 (by decide) w_fl_X3_29 rfl rfl dX3_copyFrom_82 ?_
  refine x_put S hI hK hP hS w_lay_X3 tyX3 tyX3_ok nmX3 (ci := 3) rfl c0 (ok_lt P0) (e3 P0.1) 10 (by decide) w_fl_X3_29 rfl rfl rfl rfl (Nat.le_of_ble_eq_true rfl) (entC E ad n (sI M10 c0 10 (gI M10 c1 10))) (h1_X3_10 P0.1 ) (fun _ h => entC_sI _ h) dX3_copyFrom_85 (fun H locs hP hS => ?_)
  obtain ⟨M11, eM11, hf⟩ := bnd_some hf
  rw [← eM11] at hP
  refine lv_aload_n S.1 S.2.1 dX3_copyFrom_88 rfl (lv_at hl 0 rfl) ?_
  refine lv_aload_n S.1 S.2.1 dX3_copyFrom_89 rfl (lv_at hl 1 rfl) ?_
  refine x_get (v := .long (gL M11 c1 11)) S hK hP w_lay_X3 (ci := 3) rfl c1 (ok_lt P1) (e3 P1.1) 11 (by decide) w_fl_X3_32 rfl rfl dX3_copyFrom_90 ?_
  refine x_put S hI hK hP hS w_lay_X3 tyX3 tyX3_ok nmX3 (ci := 3) rfl c0 (ok_lt P0) (e3 P0.1) 11 (by decide) w_fl_X3_32 rfl rfl rfl rfl (Nat.le_of_ble_eq_true rfl) (entC E ad n (sL M11 c0 11 (gL M11 c1 11))) (h1_X3_11 P0.1 ) (fun _ h => entC_sL _ h) dX3_copyFrom_93 (fun H locs hP hS => ?_)
  obtain ⟨M12, eM12, hf⟩ := bnd_some hf
  rw [← eM12] at hP
  refine lv_aload_n S.1 S.2.1 dX3_copyFrom_96 rfl (lv_at hl 0 rfl) ?_
  refine lv_aload_n S.1 S.2.1 dX3_copyFrom_97 rfl (lv_at hl 1 rfl) ?_
  refine x_get (v := .int (gI M12 c1 12)) S hK hP w_lay_X3 (ci := 3) rfl c1 (ok_lt P1) (e3 P1.1) 12 (by decide) w_fl_X3_35 rfl rfl dX3_copyFrom_98 ?_
  refine x_put S hI hK hP hS w_lay_X3 tyX3 tyX3_ok nmX3 (ci := 3) rfl c0 (ok_lt P0) (e3 P0.1) 12 (by decide) w_fl_X3_35 rfl rfl rfl rfl (Nat.le_of_ble_eq_true rfl) (entC E ad n (sI M12 c0 12 (gI M12 c1 12))) (h1_X3_12 P0.1 ) (fun _ h => entC_sI _ h) dX3_copyFrom_101 (fun H locs hP hS => ?_)
  obtain ⟨M13, eM13, hf⟩ := bnd_some hf
  rw [← eM13] at hP
  refine lv_aload_n S.1 S.2.1 dX3_copyFrom_104 rfl (lv_at hl 0 rfl) ?_
  refine lv_aload_n S.1 S.2.1 dX3_copyFrom_105 rfl (lv_at hl 1 rfl) ?_
  refine x_get (v := .int (bo (gI M13 c1 13))) S hK hP w_lay_X3 (ci := 3) rfl c1 (ok_lt P1) (e3 P1.1) 13 (by decide) w_fl_X3_38 rfl rfl dX3_copyFrom_106 ?_
  refine x_put S hI hK hP hS w_lay_X3 tyX3 tyX3_ok nmX3 (ci := 3) rfl c0 (ok_lt P0) (e3 P0.1) 13 (by decide) w_fl_X3_38 rfl rfl (bo_nar (bo_bo _)) (bo_fit (bo_bo _)) (Nat.le_of_ble_eq_true rfl) (entC E ad n (sI M13 c0 13 (bo (gI M13 c1 13)))) (h1_X3_13 P0.1 (bo_bo _)) (fun _ h => entC_sI _ h) dX3_copyFrom_109 (fun H locs hP hS => ?_)
  obtain ⟨M14, eM14, hf⟩ := bnd_some hf
  rw [← eM14] at hP
  refine lv_aload_n S.1 S.2.1 dX3_copyFrom_112 rfl (lv_at hl 0 rfl) ?_
  refine lv_aload_n S.1 S.2.1 dX3_copyFrom_113 rfl (lv_at hl 1 rfl) ?_
  refine x_get (v := .int (gI M14 c1 14)) S hK hP w_lay_X3 (ci := 3) rfl c1 (ok_lt P1) (e3 P1.1) 14 (by decide) w_fl_X3_42 rfl rfl dX3_copyFrom_114 ?_
  refine x_put S hI hK hP hS w_lay_X3 tyX3 tyX3_ok nmX3 (ci := 3) rfl c0 (ok_lt P0) (e3 P0.1) 14 (by decide) w_fl_X3_42 rfl rfl rfl rfl (Nat.le_of_ble_eq_true rfl) (entC E ad n (sI M14 c0 14 (gI M14 c1 14))) (h1_X3_14 P0.1 ) (fun _ h => entC_sI _ h) dX3_copyFrom_117 (fun H locs hP hS => ?_)
  obtain ⟨M15, eM15, hf⟩ := bnd_some hf
  rw [← eM15] at hP
  refine lv_aload_n S.1 S.2.1 dX3_copyFrom_120 rfl (lv_at hl 1 rfl) ?_
  refine x_get (v := .ref (ad (c1 + 40))) S hK hP w_lay_X3 (ci := 3) rfl c1 (ok_lt P1) (e3 P1.1) 15 (by decide) w_fl_X3_9 rfl rfl dX3_copyFrom_121 ?_
  refine lv_iconst (v := (0 : Int32)) S.1 S.2.1 dX3_copyFrom_124 (by decide) ?_
  refine lv_aload_n S.1 S.2.1 dX3_copyFrom_125 rfl (lv_at hl 0 rfl) ?_
  refine x_get (v := .ref (ad (c0 + 40))) S hK hP w_lay_X3 (ci := 3) rfl c0 (ok_lt P0) (e3 P0.1) 15 (by decide) w_fl_X3_9 rfl rfl dX3_copyFrom_126 ?_
  refine lv_iconst (v := (0 : Int32)) S.1 S.2.1 dX3_copyFrom_129 (by decide) ?_
  refine lv_bipush (v := (60 : Int32)) S.1 S.2.1 dX3_copyFrom_130 (by decide) ?_
  refine x_cpL S hI hK hP hS (c1 + 40) (c0 + 40) (ok_dr P1) (ok_dr P0) w_ml_X3_91 hl.1 (Nat.le_of_ble_eq_true rfl) (Nat.le_of_ble_eq_true rfl) dX3_copyFrom_132 (fun H locs hP hS => ?_)
  obtain ⟨M16, eM16, hf⟩ := bnd_some hf
  rw [← eM16] at hP
  cases hf
  exact r_v S hr hlk hP hS dX3_copyFrom_135
theorem hd_X3_loseTo : yX3_loseTo.cls ≠ "java/lang/invoke/MethodHandle" ∧ yX3_loseTo.cls ≠ "java/lang/invoke/VarHandle" ∧ (parseMethodDescriptor yX3_loseTo.desc).map (fun d => d.parameters.length) = some 1 := by decide +kernel
set_option maxHeartbeats 4000000 in
set_option maxRecDepth 100000 in
theorem L_X3_loseTo_54 (l : Launch) (E : EE) (ad : Nat → Nat) (n : Nat) (hI : ad_I ad n) (hn : 117 ≤ n) (N : Nat) (c0 : Nat) (c1 : Nat) (P0 : ok 3 n c0) (P1 : ok 3 n c1) {p : Program} {e : Env} {s : State} {m : MethodId} {below : List Frame} {meth : Method} {c : Code} (S : CallFix p m c cX3_loseTo 3 s [.ref (ad c0), .ref (ad c1)].toArray bg_B "SurvivorPurse$Share") (hr : meth.sig.returnType = none) (hlk : meth.locks = false) (hK : va_K E.1 vwCl (tysE E) s) (hN : NW s) (M' : MM) : ∀ (fu : Nat) (v2 : Int32)  (M : MM), F_X3_loseTo_54 N c0 c1 fu v2 M = some M' → ∀ (H : Heap) (locs : List Loc) (ls : Array Slot), va_P E.1 vwCl (mw (entC E ad n M) ad n) H → va_S (AA ad n s.heap.size) s.heap H locs → lv_has ls 3 [(0, .ref (ad c0)), (1, .ref (ad c1)), (2, .int v2)] → W p l e { frames := 0, cells := 0, slots := 0, locals := 0 } s m [.ref (ad c0), .ref (ad c1)].toArray below meth c H locs 0 0 (MQ below (va_Qv (fun (_ : Unit) => True) (fun _ t => QB E (entC E ad n M') ad n t) (AA ad n s.heap.size)) [.ref (ad c0), .ref (ad c1)].toArray s 0 0 (AA ad n s.heap.size)) (F0 m 54 ls []) := by
  intro fu
  induction fu with
  | zero =>
    intro v2 M hf
    rw [F_X3_loseTo_54] at hf
    cases hf
  | succ fu ih =>
    intro v2 M hf H locs ls hP hS hl
    rw [F_X3_loseTo_54] at hf
    refine lv_iload_n S.1 S.2.1 dX3_loseTo_54 rfl (lv_at hl 2 rfl) ?_
    refine lv_bipush (v := (60 : Int32)) S.1 S.2.1 dX3_loseTo_55 (by decide) ?_
    refine lv_icmp_ge (tgt := 81) S.1 S.2.1 dX3_loseTo_57 (by decide) (fun h5 => ?_) (fun h5 => ?_)
    · replace hf := ift h5 hf
      cases hf
      exact r_v S hr hlk hP hS dX3_loseTo_81
    · replace hf := iff_ h5 hf
      refine lv_aload_n S.1 S.2.1 dX3_loseTo_60 rfl (lv_at hl 0 rfl) ?_
      refine x_get (v := .ref (ad (c0 + 40))) S hK hP w_lay_X3 (ci := 3) rfl c0 (ok_lt P0) (e3 P0.1) 15 (by decide) w_fl_X3_9 rfl rfl dX3_loseTo_61 ?_
      refine lv_iload_n S.1 S.2.1 dX3_loseTo_64 rfl (lv_at hl 2 rfl) ?_
      refine lv_dup2_11 S.1 S.2.1 dX3_loseTo_65 rfl rfl ?_
      obtain ⟨h6, hf⟩ := gd_some hf
      refine x_lald S hK hP (c0 + 40) (ok_lt (ok_dr P0)) (e8 (ok_dr P0).1) h6 dX3_loseTo_66 ?_
      refine lv_aload_n S.1 S.2.1 dX3_loseTo_67 rfl (lv_at hl 1 rfl) ?_
      refine x_get (v := .ref (ad (c1 + 40))) S hK hP w_lay_X3 (ci := 3) rfl c1 (ok_lt P1) (e3 P1.1) 15 (by decide) w_fl_X3_9 rfl rfl dX3_loseTo_68 ?_
      refine lv_iload_n S.1 S.2.1 dX3_loseTo_71 rfl (lv_at hl 2 rfl) ?_
      refine x_lald S hK hP (c1 + 40) (ok_lt (ok_dr P1)) (e8 (ok_dr P1).1) h6 dX3_loseTo_72 ?_
      refine lv_lsub S.1 S.2.1 dX3_loseTo_73 ?_
      refine x_last S hI hK hP hS (c0 + 40) (ok_lt (ok_dr P0)) (e8 (ok_dr P0).1) h6 (entC E ad n (sL M (c0 + 40) (ix v2) ((gL M (c0 + 40) (ix v2)) - (gL M (c1 + 40) (ix v2))))) (h1_8 (ok_dr P0).1) (fun _ h => entC_sL _ h) dX3_loseTo_74 (fun H locs hP hS => ?_)
      obtain ⟨M7, eM7, hf⟩ := bnd_some hf
      rw [← eM7] at hP
      refine lv_iinc (v := v2 + (1 : Int32)) (lv' := [(2, .int (v2 + (1 : Int32))), (0, .ref (ad c0)), (1, .ref (ad c1))]) S.1 S.2.1 dX3_loseTo_75 hl (k := 2) rfl rfl (by decide) rfl (fun ls hl => ?_)
      refine lv_goto (tgt := 54) S.1 S.2.1 dX3_loseTo_78 (by decide) ?_
      exact ih (v2 + (1 : Int32))  M7 hf _ _ _ hP hS (lv_sub hl [1, 2, 0] rfl)
set_option maxHeartbeats 4000000 in
set_option maxRecDepth 100000 in
theorem K_X3_loseTo (l : Launch) (E : EE) (ad : Nat → Nat) (n : Nat) (hI : ad_I ad n) (hn : 117 ≤ n) (sz : Nat) (N : Nat) (c0 : Nat) (c1 : Nat) (P0 : ok 3 n c0) (P1 : ok 3 n c1) (M : MM) (M' : MM) (hf : F_X3_loseTo N c0 c1 M = some M') : CtV l yX3_loseTo cX3_loseTo 3 0 0 E (entC E ad n M) (entC E ad n M') ad n sz [.ref (ad c0), .ref (ad c1)] := by
  unfold CtV
  refine body_of (by decide) "SurvivorPurse$Share" rfl (Nat.le_of_ble_eq_true rfl) ?_
  intro p e s m below meth c hsz S hr hlk hP hK hN ls hl
  subst hsz
  have hS : va_S (AA ad n s.heap.size) s.heap s.heap [] := va_S.rf
  have hl : lv_has ls 3 [(0, .ref (ad c0)), (1, .ref (ad c1))] := hl
  rw [F_X3_loseTo] at hf
  refine lv_aload_n S.1 S.2.1 dX3_loseTo_0 rfl (lv_at hl 0 rfl) ?_
  refine lv_dup S.1 S.2.1 dX3_loseTo_1 rfl ?_
  refine x_get (v := .int (gI M c0 3)) S hK hP w_lay_X3 (ci := 3) rfl c0 (ok_lt P0) (e3 P0.1) 3 (by decide) w_fl_X3_82 rfl rfl dX3_loseTo_2 ?_
  refine lv_aload_n S.1 S.2.1 dX3_loseTo_5 rfl (lv_at hl 1 rfl) ?_
  refine x_get (v := .int (gI M c1 3)) S hK hP w_lay_X3 (ci := 3) rfl c1 (ok_lt P1) (e3 P1.1) 3 (by decide) w_fl_X3_82 rfl rfl dX3_loseTo_6 ?_
  refine lv_isub S.1 S.2.1 dX3_loseTo_9 ?_
  refine x_put S hI hK hP hS w_lay_X3 tyX3 tyX3_ok nmX3 (ci := 3) rfl c0 (ok_lt P0) (e3 P0.1) 3 (by decide) w_fl_X3_82 rfl rfl rfl rfl (Nat.le_of_ble_eq_true rfl) (entC E ad n (sI M c0 3 ((gI M c0 3) - (gI M c1 3)))) (h1_X3_3 P0.1 ) (fun _ h => entC_sI _ h) dX3_loseTo_10 (fun H locs hP hS => ?_)
  obtain ⟨M1, eM1, hf⟩ := bnd_some hf
  rw [← eM1] at hP
  refine lv_aload_n S.1 S.2.1 dX3_loseTo_13 rfl (lv_at hl 0 rfl) ?_
  refine lv_dup S.1 S.2.1 dX3_loseTo_14 rfl ?_
  refine x_get (v := .long (gL M1 c0 6)) S hK hP w_lay_X3 (ci := 3) rfl c0 (ok_lt P0) (e3 P0.1) 6 (by decide) w_fl_X3_88 rfl rfl dX3_loseTo_15 ?_
  refine lv_aload_n S.1 S.2.1 dX3_loseTo_18 rfl (lv_at hl 1 rfl) ?_
  refine x_get (v := .long (gL M1 c1 6)) S hK hP w_lay_X3 (ci := 3) rfl c1 (ok_lt P1) (e3 P1.1) 6 (by decide) w_fl_X3_88 rfl rfl dX3_loseTo_19 ?_
  refine lv_lsub S.1 S.2.1 dX3_loseTo_22 ?_
  refine x_put S hI hK hP hS w_lay_X3 tyX3 tyX3_ok nmX3 (ci := 3) rfl c0 (ok_lt P0) (e3 P0.1) 6 (by decide) w_fl_X3_88 rfl rfl rfl rfl (Nat.le_of_ble_eq_true rfl) (entC E ad n (sL M1 c0 6 ((gL M1 c0 6) - (gL M1 c1 6)))) (h1_X3_6 P0.1 ) (fun _ h => entC_sL _ h) dX3_loseTo_23 (fun H locs hP hS => ?_)
  obtain ⟨M2, eM2, hf⟩ := bnd_some hf
  rw [← eM2] at hP
  refine lv_aload_n S.1 S.2.1 dX3_loseTo_26 rfl (lv_at hl 0 rfl) ?_
  refine lv_dup S.1 S.2.1 dX3_loseTo_27 rfl ?_
  refine x_get (v := .long (gL M2 c0 7)) S hK hP w_lay_X3 (ci := 3) rfl c0 (ok_lt P0) (e3 P0.1) 7 (by decide) w_fl_X3_19 rfl rfl dX3_loseTo_28 ?_
  refine lv_aload_n S.1 S.2.1 dX3_loseTo_31 rfl (lv_at hl 1 rfl) ?_
  refine x_get (v := .long (gL M2 c1 7)) S hK hP w_lay_X3 (ci := 3) rfl c1 (ok_lt P1) (e3 P1.1) 7 (by decide) w_fl_X3_19 rfl rfl dX3_loseTo_32 ?_
  refine lv_lsub S.1 S.2.1 dX3_loseTo_35 ?_
  refine x_put S hI hK hP hS w_lay_X3 tyX3 tyX3_ok nmX3 (ci := 3) rfl c0 (ok_lt P0) (e3 P0.1) 7 (by decide) w_fl_X3_19 rfl rfl rfl rfl (Nat.le_of_ble_eq_true rfl) (entC E ad n (sL M2 c0 7 ((gL M2 c0 7) - (gL M2 c1 7)))) (h1_X3_7 P0.1 ) (fun _ h => entC_sL _ h) dX3_loseTo_36 (fun H locs hP hS => ?_)
  obtain ⟨M3, eM3, hf⟩ := bnd_some hf
  rw [← eM3] at hP
  refine lv_aload_n S.1 S.2.1 dX3_loseTo_39 rfl (lv_at hl 0 rfl) ?_
  refine lv_dup S.1 S.2.1 dX3_loseTo_40 rfl ?_
  refine x_get (v := .long (gL M3 c0 11)) S hK hP w_lay_X3 (ci := 3) rfl c0 (ok_lt P0) (e3 P0.1) 11 (by decide) w_fl_X3_32 rfl rfl dX3_loseTo_41 ?_
  refine lv_aload_n S.1 S.2.1 dX3_loseTo_44 rfl (lv_at hl 1 rfl) ?_
  refine x_get (v := .long (gL M3 c1 11)) S hK hP w_lay_X3 (ci := 3) rfl c1 (ok_lt P1) (e3 P1.1) 11 (by decide) w_fl_X3_32 rfl rfl dX3_loseTo_45 ?_
  refine lv_lsub S.1 S.2.1 dX3_loseTo_48 ?_
  refine x_put S hI hK hP hS w_lay_X3 tyX3 tyX3_ok nmX3 (ci := 3) rfl c0 (ok_lt P0) (e3 P0.1) 11 (by decide) w_fl_X3_32 rfl rfl rfl rfl (Nat.le_of_ble_eq_true rfl) (entC E ad n (sL M3 c0 11 ((gL M3 c0 11) - (gL M3 c1 11)))) (h1_X3_11 P0.1 ) (fun _ h => entC_sL _ h) dX3_loseTo_49 (fun H locs hP hS => ?_)
  obtain ⟨M4, eM4, hf⟩ := bnd_some hf
  rw [← eM4] at hP
  refine lv_iconst (v := (0 : Int32)) S.1 S.2.1 dX3_loseTo_52 (by decide) ?_
  refine lv_istore_n (lv' := [(2, .int (0 : Int32)), (0, .ref (ad c0)), (1, .ref (ad c1))]) S.1 S.2.1 dX3_loseTo_53 rfl hl (by decide) rfl (fun ls hl => ?_)
  exact L_X3_loseTo_54 l E ad n hI hn N c0 c1 P0 P1 S hr hlk hK hN _ N (0 : Int32)  M4 hf _ _ _ hP hS (lv_sub hl [1, 2, 0] rfl)
theorem hd_X4_copyFrom : yX4_copyFrom.cls ≠ "java/lang/invoke/MethodHandle" ∧ yX4_copyFrom.cls ≠ "java/lang/invoke/VarHandle" ∧ (parseMethodDescriptor yX4_copyFrom.desc).map (fun d => d.parameters.length) = some 1 := by decide +kernel
set_option maxHeartbeats 4000000 in
set_option maxRecDepth 100000 in
theorem K_X4_copyFrom (l : Launch) (E : EE) (ad : Nat → Nat) (n : Nat) (hI : ad_I ad n) (hn : 117 ≤ n) (sz : Nat) (N : Nat) (c0 : Nat) (c1 : Nat) (P0 : ok 4 n c0) (P1 : ok 4 n c1) (M : MM) (M' : MM) (hf : F_X4_copyFrom N c0 c1 M = some M') : CtV l yX4_copyFrom cX4_copyFrom 2 1 60 E (entC E ad n M) (entC E ad n M') ad n sz [.ref (ad c0), .ref (ad c1)] := by
  unfold CtV
  refine body_of (by decide) "SurvivorPurse$Table" rfl (Nat.le_of_ble_eq_true rfl) ?_
  intro p e s m below meth c hsz S hr hlk hP hK hN ls hl
  subst hsz
  have hS : va_S (AA ad n s.heap.size) s.heap s.heap [] := va_S.rf
  have hl : lv_has ls 2 [(0, .ref (ad c0)), (1, .ref (ad c1))] := hl
  rw [F_X4_copyFrom] at hf
  refine lv_aload_n S.1 S.2.1 dX4_copyFrom_0 rfl (lv_at hl 1 rfl) ?_
  refine x_get (v := .ref (ad (c1 + 1))) S hK hP w_lay_X4 (ci := 4) rfl c1 (ok_lt P1) (e4 P1.1) 0 (by decide) w_fl_X4_9 rfl rfl dX4_copyFrom_1 ?_
  refine lv_iconst (v := (0 : Int32)) S.1 S.2.1 dX4_copyFrom_4 (by decide) ?_
  refine lv_aload_n S.1 S.2.1 dX4_copyFrom_5 rfl (lv_at hl 0 rfl) ?_
  refine x_get (v := .ref (ad (c0 + 1))) S hK hP w_lay_X4 (ci := 4) rfl c0 (ok_lt P0) (e4 P0.1) 0 (by decide) w_fl_X4_9 rfl rfl dX4_copyFrom_6 ?_
  refine lv_iconst (v := (0 : Int32)) S.1 S.2.1 dX4_copyFrom_9 (by decide) ?_
  refine lv_bipush (v := (111 : Int32)) S.1 S.2.1 dX4_copyFrom_10 (by decide) ?_
  refine x_cpI S hI hK hP hS (c1 + 1) (c0 + 1) (ok_al P1) (ok_al P0) w_ml_X4_24 hl.1 (Nat.le_of_ble_eq_true rfl) (Nat.le_of_ble_eq_true rfl) dX4_copyFrom_12 (fun H locs hP hS => ?_)
  obtain ⟨M1, eM1, hf⟩ := bnd_some hf
  rw [← eM1] at hP
  cases hf
  exact r_v S hr hlk hP hS dX4_copyFrom_15
theorem hd_X5_heir : yX5_heir.cls ≠ "java/lang/invoke/MethodHandle" ∧ yX5_heir.cls ≠ "java/lang/invoke/VarHandle" ∧ (parseMethodDescriptor yX5_heir.desc).map (fun d => d.parameters.length) = some 2 := by decide +kernel
set_option maxHeartbeats 4000000 in
set_option maxRecDepth 100000 in
theorem K_X5_heir (l : Launch) (E : EE) (ad : Nat → Nat) (n : Nat) (hI : ad_I ad n) (hn : 117 ≤ n) (sz : Nat) (N : Nat) (a1 : Int32) (a2 : Int32)  (M : MM) (r : Int64) (M' : MM) (hf : F_X5_heir N a1 a2 M = some (r, M')) : CtL l yX5_heir cX5_heir 4 1 21 E (entC E ad n M) (entC E ad n M') ad n sz [.ref (ad 0), .int a1, .int a2] (r) := by
  unfold CtL
  refine body_of (by decide) "SurvivorPurse" rfl (Nat.le_of_ble_eq_true rfl) ?_
  intro p e s m below meth c hsz S hr hlk hP hK hN ls hl
  subst hsz
  have hS : va_S (AA ad n s.heap.size) s.heap s.heap [] := va_S.rf
  have hl : lv_has ls 4 [(0, .ref (ad 0)), (1, .int a1), (2, .int a2)] := hl
  rw [F_X5_heir] at hf
  refine lv_aload_n S.1 S.2.1 dX5_heir_0 rfl (lv_at hl 0 rfl) ?_
  refine x_get (v := .ref (ad 1)) S hK hP w_lay_X5 (ci := 5) rfl 0 (ok_lt (ok_p hn)) (e5 (ok_p hn).1) 0 (by decide) w_fl_X5_10 rfl rfl dX5_heir_1 ?_
  refine lv_iload_n S.1 S.2.1 dX5_heir_4 rfl (lv_at hl 1 rfl) ?_
  refine y_Vi (As := [.int a1]) S hK hN hP hS rfl (ok_lt (ok_b1 hn)) (e0 (ok_b1 hn).1) rfl (K_X0_isMember l E ad n hI hn _ a1  M _ rfl) (cV 1 S w_co_yX0_isMember w_in_X0 w_ml_X5_85 w_im_yX0_isMember w_se_yX0_isMember hd_X0_isMember ⟨Nat.le_of_ble_eq_true rfl, Nat.le_of_ble_eq_true rfl⟩) hl.1 rfl rfl (Nat.le_of_ble_eq_true rfl) dX5_heir_5 ⟨Nat.zero_le _, Nat.zero_le _⟩ (fun H locs hP hS => ?_)
  refine lv_if_eq (tgt := 32) S.1 S.2.1 dX5_heir_8 (by decide) (fun h1 => ?_) (fun h1 => ?_)
  · replace hf := ift h1 hf
    refine lv_ldc2 (own := "SurvivorPurse") (v := (-1000000000000000 : Int64)) S.1 S.2.1 S.2.2.2.1 (S.2.2.2.2 _ w_kl_X5_34) dX5_heir_32 ?_
    cases hf
    exact r_l S hr hlk hP hS dX5_heir_35
  · replace hf := iff_ h1 hf
    refine lv_iload_n S.1 S.2.1 dX5_heir_11 rfl (lv_at hl 2 rfl) ?_
    refine lv_iload_n S.1 S.2.1 dX5_heir_12 rfl (lv_at hl 1 rfl) ?_
    refine lv_icmp_eq (tgt := 32) S.1 S.2.1 dX5_heir_13 (by decide) (fun h2 => ?_) (fun h2 => ?_)
    · replace hf := ift h2 hf
      refine lv_ldc2 (own := "SurvivorPurse") (v := (-1000000000000000 : Int64)) S.1 S.2.1 S.2.2.2.1 (S.2.2.2.2 _ w_kl_X5_34) dX5_heir_32 ?_
      cases hf
      exact r_l S hr hlk hP hS dX5_heir_35
    · replace hf := iff_ h2 hf
      refine lv_iload_n S.1 S.2.1 dX5_heir_16 rfl (lv_at hl 2 rfl) ?_
      refine lv_iconst (v := (-1 : Int32)) S.1 S.2.1 dX5_heir_17 (by decide) ?_
      refine lv_icmp_eq (tgt := 36) S.1 S.2.1 dX5_heir_18 (by decide) (fun h3 => ?_) (fun h3 => ?_)
      · replace hf := ift h3 hf
        refine lv_aload_n S.1 S.2.1 dX5_heir_36 rfl (lv_at hl 0 rfl) ?_
        refine x_get (v := .ref (ad 1)) S hK hP w_lay_X5 (ci := 5) rfl 0 (ok_lt (ok_p hn)) (e5 (ok_p hn).1) 0 (by decide) w_fl_X5_10 rfl rfl dX5_heir_37 ?_
        refine x_get (v := .ref (ad 4)) S hK hP w_lay_X0 (ci := 0) rfl 1 (ok_lt (ok_b1 hn)) (e0 (ok_b1 hn).1) 1 (by decide) w_fl_X5_88 rfl rfl dX5_heir_40 ?_
        refine lv_iload_n S.1 S.2.1 dX5_heir_43 rfl (lv_at hl 1 rfl) ?_
        obtain ⟨h4, hf⟩ := gd_some hf
        refine x_aald S hK hP 4 (ok_lt (ok_ma1 hn)) e9_1 2 rfl h4 dX5_heir_44 ?_
        refine x_get (v := .int (gI M (7 + (ix a1)) 3)) S hK hP w_lay_X1 (ci := 1) rfl (7 + (ix a1)) (ok_lt (ok_m1 hn (ib_lt h4))) (e1 (ok_m1 hn (ib_lt h4)).1) 3 (by decide) w_fl_X5_92 rfl rfl dX5_heir_45 ?_
        obtain ⟨x5, ex5, hf⟩ := bnd_some hf
        refine lv_rei ex5 ?_
        refine lv_istore_n (lv' := [(3, .int x5), (0, .ref (ad 0)), (1, .int a1), (2, .int a2)]) S.1 S.2.1 dX5_heir_48 rfl hl (by decide) rfl (fun ls hl => ?_)
        refine lv_aload_n S.1 S.2.1 dX5_heir_49 rfl (lv_at hl 1 rfl) ?_
        refine x_get (v := .ref (ad 1)) S hK hP w_lay_X5 (ci := 5) rfl 0 (ok_lt (ok_p hn)) (e5 (ok_p hn).1) 0 (by decide) w_fl_X5_10 rfl rfl dX5_heir_50 ?_
        refine x_get (v := .ref (ad 4)) S hK hP w_lay_X0 (ci := 0) rfl 1 (ok_lt (ok_b1 hn)) (e0 (ok_b1 hn).1) 1 (by decide) w_fl_X5_88 rfl rfl dX5_heir_53 ?_
        refine lv_iload_n S.1 S.2.1 dX5_heir_56 rfl (lv_at hl 2 rfl) ?_
        refine x_aald S hK hP 4 (ok_lt (ok_ma1 hn)) e9_1 2 rfl h4 dX5_heir_57 ?_
        refine lv_iload_n S.1 S.2.1 dX5_heir_58 rfl (lv_at hl 3 rfl) ?_
        refine x_put S hI hK hP hS w_lay_X1 tyX1 tyX1_ok nmX1 (ci := 1) rfl (7 + (ix a1)) (ok_lt (ok_m1 hn (ib_lt h4))) (e1 (ok_m1 hn (ib_lt h4)).1) 3 (by decide) w_fl_X5_92 rfl rfl rfl rfl (Nat.le_of_ble_eq_true rfl) (entC E ad n (sI M (7 + (ix a1)) 3 a2)) (h1_X1_3 (ok_m1 hn (ib_lt h4)).1 ) (fun _ h => entC_sI _ h) dX5_heir_59 (fun H locs hP hS => ?_)
        obtain ⟨M6, eM6, hf⟩ := bnd_some hf
        rw [← eM6] at hP
        refine lv_iload_n S.1 S.2.1 dX5_heir_62 rfl (lv_at hl 0 rfl) ?_
        refine lv_i2l (v := x5.toInt64) S.1 S.2.1 dX5_heir_63 rfl ?_
        cases hf
        exact r_l S hr hlk hP hS dX5_heir_64
      · replace hf := iff_ h3 hf
        refine lv_aload_n S.1 S.2.1 dX5_heir_21 rfl (lv_at hl 0 rfl) ?_
        refine x_get (v := .ref (ad 1)) S hK hP w_lay_X5 (ci := 5) rfl 0 (ok_lt (ok_p hn)) (e5 (ok_p hn).1) 0 (by decide) w_fl_X5_10 rfl rfl dX5_heir_22 ?_
        refine lv_iload_n S.1 S.2.1 dX5_heir_25 rfl (lv_at hl 2 rfl) ?_
        refine y_Vi (As := [.int a2]) S hK hN hP hS rfl (ok_lt (ok_b1 hn)) (e0 (ok_b1 hn).1) rfl (K_X0_isMember l E ad n hI hn _ a2  M _ rfl) (cV 1 S w_co_yX0_isMember w_in_X0 w_ml_X5_85 w_im_yX0_isMember w_se_yX0_isMember hd_X0_isMember ⟨Nat.le_of_ble_eq_true rfl, Nat.le_of_ble_eq_true rfl⟩) hl.1 rfl rfl (Nat.le_of_ble_eq_true rfl) dX5_heir_26 ⟨Nat.zero_le _, Nat.zero_le _⟩ (fun H locs hP hS => ?_)
        refine lv_if_ne (tgt := 36) S.1 S.2.1 dX5_heir_29 (by decide) (fun h7 => ?_) (fun h7 => ?_)
        · replace hf := iff_ h7 hf
          refine lv_aload_n S.1 S.2.1 dX5_heir_36 rfl (lv_at hl 0 rfl) ?_
          refine x_get (v := .ref (ad 1)) S hK hP w_lay_X5 (ci := 5) rfl 0 (ok_lt (ok_p hn)) (e5 (ok_p hn).1) 0 (by decide) w_fl_X5_10 rfl rfl dX5_heir_37 ?_
          refine x_get (v := .ref (ad 4)) S hK hP w_lay_X0 (ci := 0) rfl 1 (ok_lt (ok_b1 hn)) (e0 (ok_b1 hn).1) 1 (by decide) w_fl_X5_88 rfl rfl dX5_heir_40 ?_
          refine lv_iload_n S.1 S.2.1 dX5_heir_43 rfl (lv_at hl 1 rfl) ?_
          obtain ⟨h8, hf⟩ := gd_some hf
          refine x_aald S hK hP 4 (ok_lt (ok_ma1 hn)) e9_1 2 rfl h8 dX5_heir_44 ?_
          refine x_get (v := .int (gI M (7 + (ix a1)) 3)) S hK hP w_lay_X1 (ci := 1) rfl (7 + (ix a1)) (ok_lt (ok_m1 hn (ib_lt h8))) (e1 (ok_m1 hn (ib_lt h8)).1) 3 (by decide) w_fl_X5_92 rfl rfl dX5_heir_45 ?_
          obtain ⟨x9, ex9, hf⟩ := bnd_some hf
          refine lv_rei ex9 ?_
          refine lv_istore_n (lv' := [(3, .int x9), (0, .ref (ad 0)), (1, .int a1), (2, .int a2)]) S.1 S.2.1 dX5_heir_48 rfl hl (by decide) rfl (fun ls hl => ?_)
          refine lv_aload_n S.1 S.2.1 dX5_heir_49 rfl (lv_at hl 1 rfl) ?_
          refine x_get (v := .ref (ad 1)) S hK hP w_lay_X5 (ci := 5) rfl 0 (ok_lt (ok_p hn)) (e5 (ok_p hn).1) 0 (by decide) w_fl_X5_10 rfl rfl dX5_heir_50 ?_
          refine x_get (v := .ref (ad 4)) S hK hP w_lay_X0 (ci := 0) rfl 1 (ok_lt (ok_b1 hn)) (e0 (ok_b1 hn).1) 1 (by decide) w_fl_X5_88 rfl rfl dX5_heir_53 ?_
          refine lv_iload_n S.1 S.2.1 dX5_heir_56 rfl (lv_at hl 2 rfl) ?_
          refine x_aald S hK hP 4 (ok_lt (ok_ma1 hn)) e9_1 2 rfl h8 dX5_heir_57 ?_
          refine lv_iload_n S.1 S.2.1 dX5_heir_58 rfl (lv_at hl 3 rfl) ?_
          refine x_put S hI hK hP hS w_lay_X1 tyX1 tyX1_ok nmX1 (ci := 1) rfl (7 + (ix a1)) (ok_lt (ok_m1 hn (ib_lt h8))) (e1 (ok_m1 hn (ib_lt h8)).1) 3 (by decide) w_fl_X5_92 rfl rfl rfl rfl (Nat.le_of_ble_eq_true rfl) (entC E ad n (sI M (7 + (ix a1)) 3 a2)) (h1_X1_3 (ok_m1 hn (ib_lt h8)).1 ) (fun _ h => entC_sI _ h) dX5_heir_59 (fun H locs hP hS => ?_)
          obtain ⟨M10, eM10, hf⟩ := bnd_some hf
          rw [← eM10] at hP
          refine lv_iload_n S.1 S.2.1 dX5_heir_62 rfl (lv_at hl 0 rfl) ?_
          refine lv_i2l (v := x9.toInt64) S.1 S.2.1 dX5_heir_63 rfl ?_
          cases hf
          exact r_l S hr hlk hP hS dX5_heir_64
        · replace hf := ift h7 hf
          refine lv_ldc2 (own := "SurvivorPurse") (v := (-1000000000000000 : Int64)) S.1 S.2.1 S.2.2.2.1 (S.2.2.2.2 _ w_kl_X5_34) dX5_heir_32 ?_
          cases hf
          exact r_l S hr hlk hP hS dX5_heir_35
theorem hd_X5_sell : yX5_sell.cls ≠ "java/lang/invoke/MethodHandle" ∧ yX5_sell.cls ≠ "java/lang/invoke/VarHandle" ∧ (parseMethodDescriptor yX5_sell.desc).map (fun d => d.parameters.length) = some 2 := by decide +kernel
set_option maxHeartbeats 4000000 in
set_option maxRecDepth 100000 in
theorem K_X5_sell (l : Launch) (E : EE) (ad : Nat → Nat) (n : Nat) (hI : ad_I ad n) (hn : 117 ≤ n) (sz : Nat) (N : Nat) (a1 : Int32) (a2 : Int32)  (M : MM) (r : Int64) (M' : MM) (hf : F_X5_sell N a1 a2 M = some (r, M')) : CtL l yX5_sell cX5_sell 4 1 21 E (entC E ad n M) (entC E ad n M') ad n sz [.ref (ad 0), .int a1, .int a2] (r) := by
  unfold CtL
  refine body_of (by decide) "SurvivorPurse" rfl (Nat.le_of_ble_eq_true rfl) ?_
  intro p e s m below meth c hsz S hr hlk hP hK hN ls hl
  subst hsz
  have hS : va_S (AA ad n s.heap.size) s.heap s.heap [] := va_S.rf
  have hl : lv_has ls 4 [(0, .ref (ad 0)), (1, .int a1), (2, .int a2)] := hl
  rw [F_X5_sell] at hf
  refine lv_aload_n S.1 S.2.1 dX5_sell_0 rfl (lv_at hl 0 rfl) ?_
  refine x_get (v := .ref (ad 1)) S hK hP w_lay_X5 (ci := 5) rfl 0 (ok_lt (ok_p hn)) (e5 (ok_p hn).1) 0 (by decide) w_fl_X5_10 rfl rfl dX5_sell_1 ?_
  refine lv_iload_n S.1 S.2.1 dX5_sell_4 rfl (lv_at hl 1 rfl) ?_
  refine y_Vi (As := [.int a1]) S hK hN hP hS rfl (ok_lt (ok_b1 hn)) (e0 (ok_b1 hn).1) rfl (K_X0_isShare l E ad n hI hn _ a1  M _ rfl) (cV 1 S w_co_yX0_isShare w_in_X0 w_ml_X5_141 w_im_yX0_isShare w_se_yX0_isShare hd_X0_isShare ⟨Nat.le_of_ble_eq_true rfl, Nat.le_of_ble_eq_true rfl⟩) hl.1 rfl rfl (Nat.le_of_ble_eq_true rfl) dX5_sell_5 ⟨Nat.zero_le _, Nat.zero_le _⟩ (fun H locs hP hS => ?_)
  refine lv_if_eq (tgt := 22) S.1 S.2.1 dX5_sell_8 (by decide) (fun h1 => ?_) (fun h1 => ?_)
  · replace hf := ift h1 hf
    refine lv_ldc2 (own := "SurvivorPurse") (v := (-1000000000000000 : Int64)) S.1 S.2.1 S.2.2.2.1 (S.2.2.2.2 _ w_kl_X5_34) dX5_sell_22 ?_
    cases hf
    exact r_l S hr hlk hP hS dX5_sell_25
  · replace hf := iff_ h1 hf
    refine lv_aload_n S.1 S.2.1 dX5_sell_11 rfl (lv_at hl 0 rfl) ?_
    refine x_get (v := .ref (ad 1)) S hK hP w_lay_X5 (ci := 5) rfl 0 (ok_lt (ok_p hn)) (e5 (ok_p hn).1) 0 (by decide) w_fl_X5_10 rfl rfl dX5_sell_12 ?_
    refine lv_iload_n S.1 S.2.1 dX5_sell_15 rfl (lv_at hl 2 rfl) ?_
    refine y_Vi (As := [.int a2]) S hK hN hP hS rfl (ok_lt (ok_b1 hn)) (e0 (ok_b1 hn).1) rfl (K_X0_isMember l E ad n hI hn _ a2  M _ rfl) (cV 1 S w_co_yX0_isMember w_in_X0 w_ml_X5_85 w_im_yX0_isMember w_se_yX0_isMember hd_X0_isMember ⟨Nat.le_of_ble_eq_true rfl, Nat.le_of_ble_eq_true rfl⟩) hl.1 rfl rfl (Nat.le_of_ble_eq_true rfl) dX5_sell_16 ⟨Nat.zero_le _, Nat.zero_le _⟩ (fun H locs hP hS => ?_)
    refine lv_if_ne (tgt := 26) S.1 S.2.1 dX5_sell_19 (by decide) (fun h2 => ?_) (fun h2 => ?_)
    · replace hf := iff_ h2 hf
      refine lv_aload_n S.1 S.2.1 dX5_sell_26 rfl (lv_at hl 0 rfl) ?_
      refine x_get (v := .ref (ad 1)) S hK hP w_lay_X5 (ci := 5) rfl 0 (ok_lt (ok_p hn)) (e5 (ok_p hn).1) 0 (by decide) w_fl_X5_10 rfl rfl dX5_sell_27 ?_
      refine x_get (v := .ref (ad 6)) S hK hP w_lay_X0 (ci := 0) rfl 1 (ok_lt (ok_b1 hn)) (e0 (ok_b1 hn).1) 3 (by decide) w_fl_X5_129 rfl rfl dX5_sell_30 ?_
      refine lv_iload_n S.1 S.2.1 dX5_sell_33 rfl (lv_at hl 1 rfl) ?_
      obtain ⟨h3, hf⟩ := gd_some hf
      refine x_aald S hK hP 6 (ok_lt (ok_sa1 hn)) e11_1 4 rfl h3 dX5_sell_34 ?_
      refine x_get (v := .int (gI M (37 + (ix a1)) 0)) S hK hP w_lay_X3 (ci := 3) rfl (37 + (ix a1)) (ok_lt (ok_s1 hn (ib_lt h3))) (e3 (ok_s1 hn (ib_lt h3)).1) 0 (by decide) w_fl_X5_144 rfl rfl dX5_sell_35 ?_
      obtain ⟨x4, ex4, hf⟩ := bnd_some hf
      refine lv_rei ex4 ?_
      refine lv_istore_n (lv' := [(3, .int x4), (0, .ref (ad 0)), (1, .int a1), (2, .int a2)]) S.1 S.2.1 dX5_sell_38 rfl hl (by decide) rfl (fun ls hl => ?_)
      refine lv_aload_n S.1 S.2.1 dX5_sell_39 rfl (lv_at hl 1 rfl) ?_
      refine x_get (v := .ref (ad 1)) S hK hP w_lay_X5 (ci := 5) rfl 0 (ok_lt (ok_p hn)) (e5 (ok_p hn).1) 0 (by decide) w_fl_X5_10 rfl rfl dX5_sell_40 ?_
      refine x_get (v := .ref (ad 6)) S hK hP w_lay_X0 (ci := 0) rfl 1 (ok_lt (ok_b1 hn)) (e0 (ok_b1 hn).1) 3 (by decide) w_fl_X5_129 rfl rfl dX5_sell_43 ?_
      refine lv_iload_n S.1 S.2.1 dX5_sell_46 rfl (lv_at hl 2 rfl) ?_
      refine x_aald S hK hP 6 (ok_lt (ok_sa1 hn)) e11_1 4 rfl h3 dX5_sell_47 ?_
      refine lv_iload_n S.1 S.2.1 dX5_sell_48 rfl (lv_at hl 3 rfl) ?_
      refine x_put S hI hK hP hS w_lay_X3 tyX3 tyX3_ok nmX3 (ci := 3) rfl (37 + (ix a1)) (ok_lt (ok_s1 hn (ib_lt h3))) (e3 (ok_s1 hn (ib_lt h3)).1) 0 (by decide) w_fl_X5_144 rfl rfl rfl rfl (Nat.le_of_ble_eq_true rfl) (entC E ad n (sI M (37 + (ix a1)) 0 a2)) (h1_X3_0 (ok_s1 hn (ib_lt h3)).1 ) (fun _ h => entC_sI _ h) dX5_sell_49 (fun H locs hP hS => ?_)
      obtain ⟨M5, eM5, hf⟩ := bnd_some hf
      rw [← eM5] at hP
      refine lv_iload_n S.1 S.2.1 dX5_sell_52 rfl (lv_at hl 0 rfl) ?_
      refine lv_i2l (v := x4.toInt64) S.1 S.2.1 dX5_sell_53 rfl ?_
      cases hf
      exact r_l S hr hlk hP hS dX5_sell_54
    · replace hf := ift h2 hf
      refine lv_ldc2 (own := "SurvivorPurse") (v := (-1000000000000000 : Int64)) S.1 S.2.1 S.2.2.2.1 (S.2.2.2.2 _ w_kl_X5_34) dX5_sell_22 ?_
      cases hf
      exact r_l S hr hlk hP hS dX5_sell_25
theorem hd_X5_share : yX5_share.cls ≠ "java/lang/invoke/MethodHandle" ∧ yX5_share.cls ≠ "java/lang/invoke/VarHandle" ∧ (parseMethodDescriptor yX5_share.desc).map (fun d => d.parameters.length) = some 2 := by decide +kernel
set_option maxHeartbeats 4000000 in
set_option maxRecDepth 100000 in
theorem K_X5_share (l : Launch) (E : EE) (ad : Nat → Nat) (n : Nat) (hI : ad_I ad n) (hn : 117 ≤ n) (sz : Nat) (N : Nat) (a1 : Int32) (a2 : Int32)  (M : MM) (r : Int64) (hf : F_X5_share N a1 a2 M = some r) : CtL l yX5_share cX5_share 4 4 84 E (entC E ad n M) (entC E ad n M) ad n sz [.ref (ad 0), .int a1, .int a2] (r) := by
  unfold CtL
  refine body_of (by decide) "SurvivorPurse" rfl (Nat.le_of_ble_eq_true rfl) ?_
  intro p e s m below meth c hsz S hr hlk hP hK hN ls hl
  subst hsz
  have hS : va_S (AA ad n s.heap.size) s.heap s.heap [] := va_S.rf
  have hl : lv_has ls 4 [(0, .ref (ad 0)), (1, .int a1), (2, .int a2)] := hl
  rw [F_X5_share] at hf
  refine lv_aload_n S.1 S.2.1 dX5_share_0 rfl (lv_at hl 0 rfl) ?_
  refine x_get (v := .ref (ad 1)) S hK hP w_lay_X5 (ci := 5) rfl 0 (ok_lt (ok_p hn)) (e5 (ok_p hn).1) 0 (by decide) w_fl_X5_10 rfl rfl dX5_share_1 ?_
  refine lv_iload_n S.1 S.2.1 dX5_share_4 rfl (lv_at hl 1 rfl) ?_
  refine y_Vi (As := [.int a1]) S hK hN hP hS rfl (ok_lt (ok_b1 hn)) (e0 (ok_b1 hn).1) rfl (K_X0_isShare l E ad n hI hn _ a1  M _ rfl) (cV 1 S w_co_yX0_isShare w_in_X0 w_ml_X5_141 w_im_yX0_isShare w_se_yX0_isShare hd_X0_isShare ⟨Nat.le_of_ble_eq_true rfl, Nat.le_of_ble_eq_true rfl⟩) hl.1 rfl rfl (Nat.le_of_ble_eq_true rfl) dX5_share_5 ⟨Nat.zero_le _, Nat.zero_le _⟩ (fun H locs hP hS => ?_)
  refine lv_if_ne (tgt := 15) S.1 S.2.1 dX5_share_8 (by decide) (fun h1 => ?_) (fun h1 => ?_)
  · replace hf := iff_ h1 hf
    refine lv_aload_n S.1 S.2.1 dX5_share_15 rfl (lv_at hl 0 rfl) ?_
    refine x_get (v := .ref (ad 1)) S hK hP w_lay_X5 (ci := 5) rfl 0 (ok_lt (ok_p hn)) (e5 (ok_p hn).1) 0 (by decide) w_fl_X5_10 rfl rfl dX5_share_16 ?_
    refine x_get (v := .ref (ad 6)) S hK hP w_lay_X0 (ci := 0) rfl 1 (ok_lt (ok_b1 hn)) (e0 (ok_b1 hn).1) 3 (by decide) w_fl_X5_129 rfl rfl dX5_share_19 ?_
    refine lv_iload_n S.1 S.2.1 dX5_share_22 rfl (lv_at hl 1 rfl) ?_
    obtain ⟨h2, hf⟩ := gd_some hf
    refine x_aald S hK hP 6 (ok_lt (ok_sa1 hn)) e11_1 4 rfl h2 dX5_share_23 ?_
    refine lv_astore_n (lv' := [(3, .ref (ad (37 + (ix a1)))), (0, .ref (ad 0)), (1, .int a1), (2, .int a2)]) S.1 S.2.1 dX5_share_24 rfl hl (by decide) rfl (fun ls hl => ?_)
    refine lv_iload_n S.1 S.2.1 dX5_share_25 rfl (lv_at hl 3 rfl) ?_
    by_cases h3 : a2 = (0 : Int32)
    · replace hf := ift h3 hf
      refine lv_tableIn (tgt := 92) (off := 66) S.1 S.2.1 dX5_share_26 (by rw [h3]; decide) (by rw [h3]; decide) (by rw [h3]; rfl) (by decide) ?_
      refine lv_aload_n S.1 S.2.1 dX5_share_92 rfl (lv_at hl 0 rfl) ?_
      refine x_get (v := .int (gI M (37 + (ix a1)) 0)) S hK hP w_lay_X3 (ci := 3) rfl (37 + (ix a1)) (ok_lt (ok_s1 hn (ib_lt h2))) (e3 (ok_s1 hn (ib_lt h2)).1) 0 (by decide) w_fl_X5_144 rfl rfl dX5_share_93 ?_
      refine lv_i2l (v := (gI M (37 + (ix a1)) 0).toInt64) S.1 S.2.1 dX5_share_96 rfl ?_
      cases hf
      exact r_l S hr hlk hP hS dX5_share_97
    · replace hf := iff_ h3 hf
      by_cases h4 : a2 = (1 : Int32)
      · replace hf := ift h4 hf
        refine lv_tableIn (tgt := 98) (off := 72) S.1 S.2.1 dX5_share_26 (by rw [h4]; decide) (by rw [h4]; decide) (by rw [h4]; rfl) (by decide) ?_
        refine lv_aload_n S.1 S.2.1 dX5_share_98 rfl (lv_at hl 0 rfl) ?_
        refine x_get (v := .int (gI M (37 + (ix a1)) 1)) S hK hP w_lay_X3 (ci := 3) rfl (37 + (ix a1)) (ok_lt (ok_s1 hn (ib_lt h2))) (e3 (ok_s1 hn (ib_lt h2)).1) 1 (by decide) w_fl_X5_162 rfl rfl dX5_share_99 ?_
        refine lv_i2l (v := (gI M (37 + (ix a1)) 1).toInt64) S.1 S.2.1 dX5_share_102 rfl ?_
        cases hf
        exact r_l S hr hlk hP hS dX5_share_103
      · replace hf := iff_ h4 hf
        by_cases h5 : a2 = (2 : Int32)
        · replace hf := ift h5 hf
          refine lv_tableIn (tgt := 104) (off := 78) S.1 S.2.1 dX5_share_26 (by rw [h5]; decide) (by rw [h5]; decide) (by rw [h5]; rfl) (by decide) ?_
          refine lv_aload_n S.1 S.2.1 dX5_share_104 rfl (lv_at hl 0 rfl) ?_
          refine x_get (v := .int (gI M (37 + (ix a1)) 2)) S hK hP w_lay_X3 (ci := 3) rfl (37 + (ix a1)) (ok_lt (ok_s1 hn (ib_lt h2))) (e3 (ok_s1 hn (ib_lt h2)).1) 2 (by decide) w_fl_X5_165 rfl rfl dX5_share_105 ?_
          refine lv_i2l (v := (gI M (37 + (ix a1)) 2).toInt64) S.1 S.2.1 dX5_share_108 rfl ?_
          cases hf
          exact r_l S hr hlk hP hS dX5_share_109
        · replace hf := iff_ h5 hf
          by_cases h6 : a2 = (3 : Int32)
          · replace hf := ift h6 hf
            refine lv_tableIn (tgt := 110) (off := 84) S.1 S.2.1 dX5_share_26 (by rw [h6]; decide) (by rw [h6]; decide) (by rw [h6]; rfl) (by decide) ?_
            refine lv_aload_n S.1 S.2.1 dX5_share_110 rfl (lv_at hl 0 rfl) ?_
            refine x_get (v := .int (gI M (37 + (ix a1)) 3)) S hK hP w_lay_X3 (ci := 3) rfl (37 + (ix a1)) (ok_lt (ok_s1 hn (ib_lt h2))) (e3 (ok_s1 hn (ib_lt h2)).1) 3 (by decide) w_fl_X5_147 rfl rfl dX5_share_111 ?_
            refine lv_i2l (v := (gI M (37 + (ix a1)) 3).toInt64) S.1 S.2.1 dX5_share_114 rfl ?_
            cases hf
            exact r_l S hr hlk hP hS dX5_share_115
          · replace hf := iff_ h6 hf
            by_cases h7 : a2 = (4 : Int32)
            · replace hf := ift h7 hf
              refine lv_tableIn (tgt := 116) (off := 90) S.1 S.2.1 dX5_share_26 (by rw [h7]; decide) (by rw [h7]; decide) (by rw [h7]; rfl) (by decide) ?_
              refine lv_aload_n S.1 S.2.1 dX5_share_116 rfl (lv_at hl 0 rfl) ?_
              refine x_get (v := .int (gI M (37 + (ix a1)) 4)) S hK hP w_lay_X3 (ci := 3) rfl (37 + (ix a1)) (ok_lt (ok_s1 hn (ib_lt h2))) (e3 (ok_s1 hn (ib_lt h2)).1) 4 (by decide) w_fl_X5_168 rfl rfl dX5_share_117 ?_
              refine lv_i2l (v := (gI M (37 + (ix a1)) 4).toInt64) S.1 S.2.1 dX5_share_120 rfl ?_
              cases hf
              exact r_l S hr hlk hP hS dX5_share_121
            · replace hf := iff_ h7 hf
              by_cases h8 : a2 = (5 : Int32)
              · replace hf := ift h8 hf
                refine lv_tableIn (tgt := 122) (off := 96) S.1 S.2.1 dX5_share_26 (by rw [h8]; decide) (by rw [h8]; decide) (by rw [h8]; rfl) (by decide) ?_
                refine lv_aload_n S.1 S.2.1 dX5_share_122 rfl (lv_at hl 0 rfl) ?_
                refine x_get (v := .int (gI M (37 + (ix a1)) 5)) S hK hP w_lay_X3 (ci := 3) rfl (37 + (ix a1)) (ok_lt (ok_s1 hn (ib_lt h2))) (e3 (ok_s1 hn (ib_lt h2)).1) 5 (by decide) w_fl_X5_133 rfl rfl dX5_share_123 ?_
                refine lv_i2l (v := (gI M (37 + (ix a1)) 5).toInt64) S.1 S.2.1 dX5_share_126 rfl ?_
                cases hf
                exact r_l S hr hlk hP hS dX5_share_127
              · replace hf := iff_ h8 hf
                by_cases h9 : a2 = (6 : Int32)
                · replace hf := ift h9 hf
                  refine lv_tableIn (tgt := 128) (off := 102) S.1 S.2.1 dX5_share_26 (by rw [h9]; decide) (by rw [h9]; decide) (by rw [h9]; rfl) (by decide) ?_
                  refine lv_aload_n S.1 S.2.1 dX5_share_128 rfl (lv_at hl 0 rfl) ?_
                  refine x_get (v := .long (gL M (37 + (ix a1)) 6)) S hK hP w_lay_X3 (ci := 3) rfl (37 + (ix a1)) (ok_lt (ok_s1 hn (ib_lt h2))) (e3 (ok_s1 hn (ib_lt h2)).1) 6 (by decide) w_fl_X5_171 rfl rfl dX5_share_129 ?_
                  cases hf
                  exact r_l S hr hlk hP hS dX5_share_132
                · replace hf := iff_ h9 hf
                  by_cases h10 : a2 = (7 : Int32)
                  · replace hf := ift h10 hf
                    refine lv_tableIn (tgt := 133) (off := 107) S.1 S.2.1 dX5_share_26 (by rw [h10]; decide) (by rw [h10]; decide) (by rw [h10]; rfl) (by decide) ?_
                    refine lv_aload_n S.1 S.2.1 dX5_share_133 rfl (lv_at hl 0 rfl) ?_
                    refine x_get (v := .long (gL M (37 + (ix a1)) 7)) S hK hP w_lay_X3 (ci := 3) rfl (37 + (ix a1)) (ok_lt (ok_s1 hn (ib_lt h2))) (e3 (ok_s1 hn (ib_lt h2)).1) 7 (by decide) w_fl_X5_174 rfl rfl dX5_share_134 ?_
                    cases hf
                    exact r_l S hr hlk hP hS dX5_share_137
                  · replace hf := iff_ h10 hf
                    by_cases h11 : a2 = (8 : Int32)
                    · replace hf := ift h11 hf
                      refine lv_tableIn (tgt := 138) (off := 112) S.1 S.2.1 dX5_share_26 (by rw [h11]; decide) (by rw [h11]; decide) (by rw [h11]; rfl) (by decide) ?_
                      refine lv_aload_n S.1 S.2.1 dX5_share_138 rfl (lv_at hl 0 rfl) ?_
                      refine lv_aload_n S.1 S.2.1 dX5_share_139 rfl (lv_at hl 1 rfl) ?_
                      refine x_get (v := .ref (ad 1)) S hK hP w_lay_X5 (ci := 5) rfl 0 (ok_lt (ok_p hn)) (e5 (ok_p hn).1) 0 (by decide) w_fl_X5_10 rfl rfl dX5_share_140 ?_
                      refine x_get (v := .int (gI M 1 7)) S hK hP w_lay_X0 (ci := 0) rfl 1 (ok_lt (ok_b1 hn)) (e0 (ok_b1 hn).1) 7 (by decide) w_fl_X5_75 rfl rfl dX5_share_143 ?_
                      obtain ⟨x12, gx12, hf⟩ := bn1_some hf
                      refine y_Vl (As := [.int (gI M 1 7)]) S hK hN hP hS rfl (ok_lt (ok_s1 hn (ib_lt h2))) (e3 (ok_s1 hn (ib_lt h2)).1) rfl (K_X3_heldAt l E ad n hI hn _ N (37 + (ix a1)) (gI M 1 7) (ok_s1 hn (ib_lt h2)) M x12 gx12) (cV 1 S w_co_yX3_heldAt w_in_X3 w_ml_X5_177 w_im_yX3_heldAt w_se_yX3_heldAt hd_X3_heldAt ⟨Nat.le_of_ble_eq_true rfl, Nat.le_of_ble_eq_true rfl⟩) hl.1 rfl rfl (Nat.le_of_ble_eq_true rfl) dX5_share_146 ⟨Nat.zero_le _, Nat.zero_le _⟩ (fun H locs hP hS => ?_)
                      cases hf
                      exact r_l S hr hlk hP hS dX5_share_149
                    · replace hf := iff_ h11 hf
                      by_cases h13 : a2 = (9 : Int32)
                      · replace hf := ift h13 hf
                        refine lv_tableIn (tgt := 150) (off := 124) S.1 S.2.1 dX5_share_26 (by rw [h13]; decide) (by rw [h13]; decide) (by rw [h13]; rfl) (by decide) ?_
                        refine lv_aload_n S.1 S.2.1 dX5_share_150 rfl (lv_at hl 0 rfl) ?_
                        refine x_get (v := .int (gI M (37 + (ix a1)) 8)) S hK hP w_lay_X3 (ci := 3) rfl (37 + (ix a1)) (ok_lt (ok_s1 hn (ib_lt h2))) (e3 (ok_s1 hn (ib_lt h2)).1) 8 (by decide) w_fl_X5_180 rfl rfl dX5_share_151 ?_
                        refine lv_i2l (v := (gI M (37 + (ix a1)) 8).toInt64) S.1 S.2.1 dX5_share_154 rfl ?_
                        cases hf
                        exact r_l S hr hlk hP hS dX5_share_155
                      · replace hf := iff_ h13 hf
                        by_cases h14 : a2 = (10 : Int32)
                        · replace hf := ift h14 hf
                          refine lv_tableIn (tgt := 156) (off := 130) S.1 S.2.1 dX5_share_26 (by rw [h14]; decide) (by rw [h14]; decide) (by rw [h14]; rfl) (by decide) ?_
                          refine lv_aload_n S.1 S.2.1 dX5_share_156 rfl (lv_at hl 0 rfl) ?_
                          refine x_get (v := .int (gI M (37 + (ix a1)) 10)) S hK hP w_lay_X3 (ci := 3) rfl (37 + (ix a1)) (ok_lt (ok_s1 hn (ib_lt h2))) (e3 (ok_s1 hn (ib_lt h2)).1) 10 (by decide) w_fl_X5_183 rfl rfl dX5_share_157 ?_
                          refine lv_i2l (v := (gI M (37 + (ix a1)) 10).toInt64) S.1 S.2.1 dX5_share_160 rfl ?_
                          cases hf
                          exact r_l S hr hlk hP hS dX5_share_161
                        · replace hf := iff_ h14 hf
                          by_cases h15 : a2 = (11 : Int32)
                          · replace hf := ift h15 hf
                            refine lv_tableIn (tgt := 162) (off := 136) S.1 S.2.1 dX5_share_26 (by rw [h15]; decide) (by rw [h15]; decide) (by rw [h15]; rfl) (by decide) ?_
                            refine lv_aload_n S.1 S.2.1 dX5_share_162 rfl (lv_at hl 1 rfl) ?_
                            refine x_get (v := .ref (ad 1)) S hK hP w_lay_X5 (ci := 5) rfl 0 (ok_lt (ok_p hn)) (e5 (ok_p hn).1) 0 (by decide) w_fl_X5_10 rfl rfl dX5_share_163 ?_
                            refine lv_aload_n S.1 S.2.1 dX5_share_166 rfl (lv_at hl 0 rfl) ?_
                            obtain ⟨x16, gx16, hf⟩ := bn1_some hf
                            refine y_Vi (As := [.ref (ad (37 + (ix a1)))]) S hK hN hP hS rfl (ok_lt (ok_b1 hn)) (e0 (ok_b1 hn).1) rfl (K_X0_howItIs l E ad n hI hn _ N (37 + (ix a1)) (ok_s1 hn (ib_lt h2)) M x16 gx16) (cV 1 S w_co_yX0_howItIs w_in_X0 w_ml_X5_186 w_im_yX0_howItIs w_se_yX0_howItIs hd_X0_howItIs ⟨Nat.le_of_ble_eq_true rfl, Nat.le_of_ble_eq_true rfl⟩) hl.1 rfl rfl (Nat.le_of_ble_eq_true rfl) dX5_share_167 ⟨Nat.zero_le _, Nat.zero_le _⟩ (fun H locs hP hS => ?_)
                            refine lv_i2l (v := x16.toInt64) S.1 S.2.1 dX5_share_170 rfl ?_
                            cases hf
                            exact r_l S hr hlk hP hS dX5_share_171
                          · replace hf := iff_ h15 hf
                            by_cases h17 : a2 = (12 : Int32)
                            · replace hf := ift h17 hf
                              refine lv_tableIn (tgt := 172) (off := 146) S.1 S.2.1 dX5_share_26 (by rw [h17]; decide) (by rw [h17]; decide) (by rw [h17]; rfl) (by decide) ?_
                              refine lv_aload_n S.1 S.2.1 dX5_share_172 rfl (lv_at hl 0 rfl) ?_
                              refine x_get (v := .long (gL M (37 + (ix a1)) 11)) S hK hP w_lay_X3 (ci := 3) rfl (37 + (ix a1)) (ok_lt (ok_s1 hn (ib_lt h2))) (e3 (ok_s1 hn (ib_lt h2)).1) 11 (by decide) w_fl_X5_155 rfl rfl dX5_share_173 ?_
                              cases hf
                              exact r_l S hr hlk hP hS dX5_share_176
                            · replace hf := iff_ h17 hf
                              refine lv_tableOut (tgt := 177) S.1 S.2.1 dX5_share_26 (by have q0 := swn h3 (show ((0 : Int32) : Int32).toInt = 0 from rfl); have q1 := swn h4 (show ((1 : Int32) : Int32).toInt = 1 from rfl); have q2 := swn h5 (show ((2 : Int32) : Int32).toInt = 2 from rfl); have q3 := swn h6 (show ((3 : Int32) : Int32).toInt = 3 from rfl); have q4 := swn h7 (show ((4 : Int32) : Int32).toInt = 4 from rfl); have q5 := swn h8 (show ((5 : Int32) : Int32).toInt = 5 from rfl); have q6 := swn h9 (show ((6 : Int32) : Int32).toInt = 6 from rfl); have q7 := swn h10 (show ((7 : Int32) : Int32).toInt = 7 from rfl); have q8 := swn h11 (show ((8 : Int32) : Int32).toInt = 8 from rfl); have q9 := swn h13 (show ((9 : Int32) : Int32).toInt = 9 from rfl); have q10 := swn h14 (show ((10 : Int32) : Int32).toInt = 10 from rfl); have q11 := swn h15 (show ((11 : Int32) : Int32).toInt = 11 from rfl); have q12 := swn h17 (show ((12 : Int32) : Int32).toInt = 12 from rfl); omega) (by decide) ?_
                              refine lv_ldc2 (own := "SurvivorPurse") (v := (-1000000000000000 : Int64)) S.1 S.2.1 S.2.2.2.1 (S.2.2.2.2 _ w_kl_X5_34) dX5_share_177 ?_
                              cases hf
                              exact r_l S hr hlk hP hS dX5_share_180
  · replace hf := ift h1 hf
    refine lv_ldc2 (own := "SurvivorPurse") (v := (-1000000000000000 : Int64)) S.1 S.2.1 S.2.2.2.1 (S.2.2.2.2 _ w_kl_X5_34) dX5_share_11 ?_
    cases hf
    exact r_l S hr hlk hP hS dX5_share_14
theorem hd_X5_of : yX5_of.cls ≠ "java/lang/invoke/MethodHandle" ∧ yX5_of.cls ≠ "java/lang/invoke/VarHandle" ∧ (parseMethodDescriptor yX5_of.desc).map (fun d => d.parameters.length) = some 2 := by decide +kernel
set_option maxHeartbeats 4000000 in
set_option maxRecDepth 100000 in
theorem K_X5_of (l : Launch) (E : EE) (ad : Nat → Nat) (n : Nat) (hI : ad_I ad n) (hn : 117 ≤ n) (sz : Nat) (N : Nat) (a1 : Int32) (a2 : Int32)  (M : MM) (r : Int64) (hf : F_X5_of N a1 a2 M = some r) : CtL l yX5_of cX5_of 4 1 21 E (entC E ad n M) (entC E ad n M) ad n sz [.ref (ad 0), .int a1, .int a2] (r) := by
  unfold CtL
  refine body_of (by decide) "SurvivorPurse" rfl (Nat.le_of_ble_eq_true rfl) ?_
  intro p e s m below meth c hsz S hr hlk hP hK hN ls hl
  subst hsz
  have hS : va_S (AA ad n s.heap.size) s.heap s.heap [] := va_S.rf
  have hl : lv_has ls 4 [(0, .ref (ad 0)), (1, .int a1), (2, .int a2)] := hl
  rw [F_X5_of] at hf
  refine lv_aload_n S.1 S.2.1 dX5_of_0 rfl (lv_at hl 0 rfl) ?_
  refine x_get (v := .ref (ad 1)) S hK hP w_lay_X5 (ci := 5) rfl 0 (ok_lt (ok_p hn)) (e5 (ok_p hn).1) 0 (by decide) w_fl_X5_10 rfl rfl dX5_of_1 ?_
  refine lv_iload_n S.1 S.2.1 dX5_of_4 rfl (lv_at hl 1 rfl) ?_
  refine y_Vi (As := [.int a1]) S hK hN hP hS rfl (ok_lt (ok_b1 hn)) (e0 (ok_b1 hn).1) rfl (K_X0_isMember l E ad n hI hn _ a1  M _ rfl) (cV 1 S w_co_yX0_isMember w_in_X0 w_ml_X5_85 w_im_yX0_isMember w_se_yX0_isMember hd_X0_isMember ⟨Nat.le_of_ble_eq_true rfl, Nat.le_of_ble_eq_true rfl⟩) hl.1 rfl rfl (Nat.le_of_ble_eq_true rfl) dX5_of_5 ⟨Nat.zero_le _, Nat.zero_le _⟩ (fun H locs hP hS => ?_)
  refine lv_if_ne (tgt := 15) S.1 S.2.1 dX5_of_8 (by decide) (fun h1 => ?_) (fun h1 => ?_)
  · replace hf := iff_ h1 hf
    refine lv_aload_n S.1 S.2.1 dX5_of_15 rfl (lv_at hl 0 rfl) ?_
    refine x_get (v := .ref (ad 1)) S hK hP w_lay_X5 (ci := 5) rfl 0 (ok_lt (ok_p hn)) (e5 (ok_p hn).1) 0 (by decide) w_fl_X5_10 rfl rfl dX5_of_16 ?_
    refine x_get (v := .ref (ad 4)) S hK hP w_lay_X0 (ci := 0) rfl 1 (ok_lt (ok_b1 hn)) (e0 (ok_b1 hn).1) 1 (by decide) w_fl_X5_88 rfl rfl dX5_of_19 ?_
    refine lv_iload_n S.1 S.2.1 dX5_of_22 rfl (lv_at hl 1 rfl) ?_
    obtain ⟨h2, hf⟩ := gd_some hf
    refine x_aald S hK hP 4 (ok_lt (ok_ma1 hn)) e9_1 2 rfl h2 dX5_of_23 ?_
    refine lv_astore_n (lv' := [(3, .ref (ad (7 + (ix a1)))), (0, .ref (ad 0)), (1, .int a1), (2, .int a2)]) S.1 S.2.1 dX5_of_24 rfl hl (by decide) rfl (fun ls hl => ?_)
    refine lv_iload_n S.1 S.2.1 dX5_of_25 rfl (lv_at hl 3 rfl) ?_
    by_cases h3 : a2 = (0 : Int32)
    · replace hf := ift h3 hf
      refine lv_tableIn (tgt := 64) (off := 38) S.1 S.2.1 dX5_of_26 (by rw [h3]; decide) (by rw [h3]; decide) (by rw [h3]; rfl) (by decide) ?_
      refine lv_aload_n S.1 S.2.1 dX5_of_64 rfl (lv_at hl 0 rfl) ?_
      refine x_get (v := .long (gL M (7 + (ix a1)) 1)) S hK hP w_lay_X1 (ci := 1) rfl (7 + (ix a1)) (ok_lt (ok_m1 hn (ib_lt h2))) (e1 (ok_m1 hn (ib_lt h2)).1) 1 (by decide) w_fl_X5_224 rfl rfl dX5_of_65 ?_
      cases hf
      exact r_l S hr hlk hP hS dX5_of_68
    · replace hf := iff_ h3 hf
      by_cases h4 : a2 = (1 : Int32)
      · replace hf := ift h4 hf
        refine lv_tableIn (tgt := 69) (off := 43) S.1 S.2.1 dX5_of_26 (by rw [h4]; decide) (by rw [h4]; decide) (by rw [h4]; rfl) (by decide) ?_
        refine lv_aload_n S.1 S.2.1 dX5_of_69 rfl (lv_at hl 0 rfl) ?_
        refine x_get (v := .long (gL M (7 + (ix a1)) 2)) S hK hP w_lay_X1 (ci := 1) rfl (7 + (ix a1)) (ok_lt (ok_m1 hn (ib_lt h2))) (e1 (ok_m1 hn (ib_lt h2)).1) 2 (by decide) w_fl_X5_227 rfl rfl dX5_of_70 ?_
        cases hf
        exact r_l S hr hlk hP hS dX5_of_73
      · replace hf := iff_ h4 hf
        by_cases h5 : a2 = (2 : Int32)
        · replace hf := ift h5 hf
          refine lv_tableIn (tgt := 74) (off := 48) S.1 S.2.1 dX5_of_26 (by rw [h5]; decide) (by rw [h5]; decide) (by rw [h5]; rfl) (by decide) ?_
          refine lv_aload_n S.1 S.2.1 dX5_of_74 rfl (lv_at hl 0 rfl) ?_
          refine x_get (v := .int (gI M (7 + (ix a1)) 0)) S hK hP w_lay_X1 (ci := 1) rfl (7 + (ix a1)) (ok_lt (ok_m1 hn (ib_lt h2))) (e1 (ok_m1 hn (ib_lt h2)).1) 0 (by decide) w_fl_X5_203 rfl rfl dX5_of_75 ?_
          refine lv_i2l (v := (gI M (7 + (ix a1)) 0).toInt64) S.1 S.2.1 dX5_of_78 rfl ?_
          cases hf
          exact r_l S hr hlk hP hS dX5_of_79
        · replace hf := iff_ h5 hf
          by_cases h6 : a2 = (3 : Int32)
          · replace hf := ift h6 hf
            refine lv_tableIn (tgt := 80) (off := 54) S.1 S.2.1 dX5_of_26 (by rw [h6]; decide) (by rw [h6]; decide) (by rw [h6]; rfl) (by decide) ?_
            refine lv_aload_n S.1 S.2.1 dX5_of_80 rfl (lv_at hl 0 rfl) ?_
            refine x_get (v := .int (bo (gI M (7 + (ix a1)) 4))) S hK hP w_lay_X1 (ci := 1) rfl (7 + (ix a1)) (ok_lt (ok_m1 hn (ib_lt h2))) (e1 (ok_m1 hn (ib_lt h2)).1) 4 (by decide) w_fl_X5_197 rfl rfl dX5_of_81 ?_
            refine lv_if_eq (tgt := 91) S.1 S.2.1 dX5_of_84 (by decide) (fun h7 => ?_) (fun h7 => ?_)
            · replace hf := ift h7 hf
              refine lv_lconst (v := (0 : Int64)) S.1 S.2.1 dX5_of_91 (by decide) ?_
              cases hf
              exact r_l S hr hlk hP hS dX5_of_92
            · replace hf := iff_ h7 hf
              refine lv_lconst (v := (1 : Int64)) S.1 S.2.1 dX5_of_87 (by decide) ?_
              refine lv_goto (tgt := 92) S.1 S.2.1 dX5_of_88 (by decide) ?_
              cases hf
              exact r_l S hr hlk hP hS dX5_of_92
          · replace hf := iff_ h6 hf
            by_cases h8 : a2 = (4 : Int32)
            · replace hf := ift h8 hf
              refine lv_tableIn (tgt := 93) (off := 67) S.1 S.2.1 dX5_of_26 (by rw [h8]; decide) (by rw [h8]; decide) (by rw [h8]; rfl) (by decide) ?_
              refine lv_aload_n S.1 S.2.1 dX5_of_93 rfl (lv_at hl 0 rfl) ?_
              refine x_get (v := .int (bo (gI M (7 + (ix a1)) 5))) S hK hP w_lay_X1 (ci := 1) rfl (7 + (ix a1)) (ok_lt (ok_m1 hn (ib_lt h2))) (e1 (ok_m1 hn (ib_lt h2)).1) 5 (by decide) w_fl_X5_193 rfl rfl dX5_of_94 ?_
              refine lv_if_eq (tgt := 108) S.1 S.2.1 dX5_of_97 (by decide) (fun h9 => ?_) (fun h9 => ?_)
              · replace hf := ift h9 hf
                refine lv_ldc2 (own := "SurvivorPurse") (v := (-1000000000000000 : Int64)) S.1 S.2.1 S.2.2.2.1 (S.2.2.2.2 _ w_kl_X5_34) dX5_of_108 ?_
                cases hf
                exact r_l S hr hlk hP hS dX5_of_111
              · replace hf := iff_ h9 hf
                refine lv_aload_n S.1 S.2.1 dX5_of_100 rfl (lv_at hl 0 rfl) ?_
                refine x_get (v := .int (gI M (7 + (ix a1)) 6)) S hK hP w_lay_X1 (ci := 1) rfl (7 + (ix a1)) (ok_lt (ok_m1 hn (ib_lt h2))) (e1 (ok_m1 hn (ib_lt h2)).1) 6 (by decide) w_fl_X5_230 rfl rfl dX5_of_101 ?_
                refine lv_i2l (v := (gI M (7 + (ix a1)) 6).toInt64) S.1 S.2.1 dX5_of_104 rfl ?_
                refine lv_goto (tgt := 111) S.1 S.2.1 dX5_of_105 (by decide) ?_
                cases hf
                exact r_l S hr hlk hP hS dX5_of_111
            · replace hf := iff_ h8 hf
              by_cases h10 : a2 = (5 : Int32)
              · replace hf := ift h10 hf
                refine lv_tableIn (tgt := 112) (off := 86) S.1 S.2.1 dX5_of_26 (by rw [h10]; decide) (by rw [h10]; decide) (by rw [h10]; rfl) (by decide) ?_
                refine lv_aload_n S.1 S.2.1 dX5_of_112 rfl (lv_at hl 0 rfl) ?_
                refine x_get (v := .int (gI M (7 + (ix a1)) 3)) S hK hP w_lay_X1 (ci := 1) rfl (7 + (ix a1)) (ok_lt (ok_m1 hn (ib_lt h2))) (e1 (ok_m1 hn (ib_lt h2)).1) 3 (by decide) w_fl_X5_92 rfl rfl dX5_of_113 ?_
                refine lv_i2l (v := (gI M (7 + (ix a1)) 3).toInt64) S.1 S.2.1 dX5_of_116 rfl ?_
                cases hf
                exact r_l S hr hlk hP hS dX5_of_117
              · replace hf := iff_ h10 hf
                refine lv_tableOut (tgt := 118) S.1 S.2.1 dX5_of_26 (by have q0 := swn h3 (show ((0 : Int32) : Int32).toInt = 0 from rfl); have q1 := swn h4 (show ((1 : Int32) : Int32).toInt = 1 from rfl); have q2 := swn h5 (show ((2 : Int32) : Int32).toInt = 2 from rfl); have q3 := swn h6 (show ((3 : Int32) : Int32).toInt = 3 from rfl); have q4 := swn h8 (show ((4 : Int32) : Int32).toInt = 4 from rfl); have q5 := swn h10 (show ((5 : Int32) : Int32).toInt = 5 from rfl); omega) (by decide) ?_
                refine lv_ldc2 (own := "SurvivorPurse") (v := (-1000000000000000 : Int64)) S.1 S.2.1 S.2.2.2.1 (S.2.2.2.2 _ w_kl_X5_34) dX5_of_118 ?_
                cases hf
                exact r_l S hr hlk hP hS dX5_of_121
  · replace hf := ift h1 hf
    refine lv_ldc2 (own := "SurvivorPurse") (v := (-1000000000000000 : Int64)) S.1 S.2.1 S.2.2.2.1 (S.2.2.2.2 _ w_kl_X5_34) dX5_of_11 ?_
    cases hf
    exact r_l S hr hlk hP hS dX5_of_14
theorem hd_X5_about : yX5_about.cls ≠ "java/lang/invoke/MethodHandle" ∧ yX5_about.cls ≠ "java/lang/invoke/VarHandle" ∧ (parseMethodDescriptor yX5_about.desc).map (fun d => d.parameters.length) = some 2 := by decide +kernel
set_option maxHeartbeats 4000000 in
set_option maxRecDepth 100000 in
theorem K_X5_about (l : Launch) (E : EE) (ad : Nat → Nat) (n : Nat) (hI : ad_I ad n) (hn : 117 ≤ n) (sz : Nat) (N : Nat) (a1 : Int32) (a2 : Int32)  (M : MM) (r : Int64) (hf : F_X5_about N a1 a2 M = some r) : CtL l yX5_about cX5_about 4 6 130 E (entC E ad n M) (entC E ad n M) ad n sz [.ref (ad 0), .int a1, .int a2] (r) := by
  unfold CtL
  refine body_of (by decide) "SurvivorPurse" rfl (Nat.le_of_ble_eq_true rfl) ?_
  intro p e s m below meth c hsz S hr hlk hP hK hN ls hl
  subst hsz
  have hS : va_S (AA ad n s.heap.size) s.heap s.heap [] := va_S.rf
  have hl : lv_has ls 4 [(0, .ref (ad 0)), (1, .int a1), (2, .int a2)] := hl
  rw [F_X5_about] at hf
  refine lv_aload_n S.1 S.2.1 dX5_about_0 rfl (lv_at hl 0 rfl) ?_
  refine x_get (v := .ref (ad 1)) S hK hP w_lay_X5 (ci := 5) rfl 0 (ok_lt (ok_p hn)) (e5 (ok_p hn).1) 0 (by decide) w_fl_X5_10 rfl rfl dX5_about_1 ?_
  refine lv_iload_n S.1 S.2.1 dX5_about_4 rfl (lv_at hl 1 rfl) ?_
  refine y_Vi (As := [.int a1]) S hK hN hP hS rfl (ok_lt (ok_b1 hn)) (e0 (ok_b1 hn).1) rfl (K_X0_isRank l E ad n hI hn _ a1  M _ rfl) (cV 1 S w_co_yX0_isRank w_in_X0 w_ml_X5_55 w_im_yX0_isRank w_se_yX0_isRank hd_X0_isRank ⟨Nat.le_of_ble_eq_true rfl, Nat.le_of_ble_eq_true rfl⟩) hl.1 rfl rfl (Nat.le_of_ble_eq_true rfl) dX5_about_5 ⟨Nat.zero_le _, Nat.zero_le _⟩ (fun H locs hP hS => ?_)
  refine lv_if_ne (tgt := 15) S.1 S.2.1 dX5_about_8 (by decide) (fun h1 => ?_) (fun h1 => ?_)
  · replace hf := iff_ h1 hf
    refine lv_aload_n S.1 S.2.1 dX5_about_15 rfl (lv_at hl 0 rfl) ?_
    refine x_get (v := .ref (ad 1)) S hK hP w_lay_X5 (ci := 5) rfl 0 (ok_lt (ok_p hn)) (e5 (ok_p hn).1) 0 (by decide) w_fl_X5_10 rfl rfl dX5_about_16 ?_
    refine x_get (v := .ref (ad 5)) S hK hP w_lay_X0 (ci := 0) rfl 1 (ok_lt (ok_b1 hn)) (e0 (ok_b1 hn).1) 2 (by decide) w_fl_X5_58 rfl rfl dX5_about_19 ?_
    refine lv_iload_n S.1 S.2.1 dX5_about_22 rfl (lv_at hl 1 rfl) ?_
    obtain ⟨h2, hf⟩ := gd_some hf
    refine x_aald S hK hP 5 (ok_lt (ok_ra1 hn)) e10_1 3 rfl h2 dX5_about_23 ?_
    refine lv_astore_n (lv' := [(3, .ref (ad (31 + (ix a1)))), (0, .ref (ad 0)), (1, .int a1), (2, .int a2)]) S.1 S.2.1 dX5_about_24 rfl hl (by decide) rfl (fun ls hl => ?_)
    refine lv_iload_n S.1 S.2.1 dX5_about_25 rfl (lv_at hl 3 rfl) ?_
    by_cases h3 : a2 = (0 : Int32)
    · replace hf := ift h3 hf
      refine lv_tableIn (tgt := 64) (off := 38) S.1 S.2.1 dX5_about_26 (by rw [h3]; decide) (by rw [h3]; decide) (by rw [h3]; rfl) (by decide) ?_
      refine lv_aload_n S.1 S.2.1 dX5_about_64 rfl (lv_at hl 0 rfl) ?_
      refine x_get (v := .int (gI M (31 + (ix a1)) 0)) S hK hP w_lay_X2 (ci := 2) rfl (31 + (ix a1)) (ok_lt (ok_r1 hn (ib_lt h2))) (e2 (ok_r1 hn (ib_lt h2)).1) 0 (by decide) w_fl_X5_62 rfl rfl dX5_about_65 ?_
      refine lv_i2l (v := (gI M (31 + (ix a1)) 0).toInt64) S.1 S.2.1 dX5_about_68 rfl ?_
      cases hf
      exact r_l S hr hlk hP hS dX5_about_69
    · replace hf := iff_ h3 hf
      by_cases h4 : a2 = (1 : Int32)
      · replace hf := ift h4 hf
        refine lv_tableIn (tgt := 70) (off := 44) S.1 S.2.1 dX5_about_26 (by rw [h4]; decide) (by rw [h4]; decide) (by rw [h4]; rfl) (by decide) ?_
        refine lv_aload_n S.1 S.2.1 dX5_about_70 rfl (lv_at hl 0 rfl) ?_
        refine x_get (v := .int (gI M (31 + (ix a1)) 1)) S hK hP w_lay_X2 (ci := 2) rfl (31 + (ix a1)) (ok_lt (ok_r1 hn (ib_lt h2))) (e2 (ok_r1 hn (ib_lt h2)).1) 1 (by decide) w_fl_X5_233 rfl rfl dX5_about_71 ?_
        refine lv_i2l (v := (gI M (31 + (ix a1)) 1).toInt64) S.1 S.2.1 dX5_about_74 rfl ?_
        cases hf
        exact r_l S hr hlk hP hS dX5_about_75
      · replace hf := iff_ h4 hf
        by_cases h5 : a2 = (2 : Int32)
        · replace hf := ift h5 hf
          refine lv_tableIn (tgt := 76) (off := 50) S.1 S.2.1 dX5_about_26 (by rw [h5]; decide) (by rw [h5]; decide) (by rw [h5]; rfl) (by decide) ?_
          refine lv_aload_n S.1 S.2.1 dX5_about_76 rfl (lv_at hl 0 rfl) ?_
          refine x_get (v := .int (gI M (31 + (ix a1)) 2)) S hK hP w_lay_X2 (ci := 2) rfl (31 + (ix a1)) (ok_lt (ok_r1 hn (ib_lt h2))) (e2 (ok_r1 hn (ib_lt h2)).1) 2 (by decide) w_fl_X5_72 rfl rfl dX5_about_77 ?_
          refine lv_i2l (v := (gI M (31 + (ix a1)) 2).toInt64) S.1 S.2.1 dX5_about_80 rfl ?_
          cases hf
          exact r_l S hr hlk hP hS dX5_about_81
        · replace hf := iff_ h5 hf
          by_cases h6 : a2 = (3 : Int32)
          · replace hf := ift h6 hf
            refine lv_tableIn (tgt := 82) (off := 56) S.1 S.2.1 dX5_about_26 (by rw [h6]; decide) (by rw [h6]; decide) (by rw [h6]; rfl) (by decide) ?_
            refine lv_aload_n S.1 S.2.1 dX5_about_82 rfl (lv_at hl 0 rfl) ?_
            refine x_get (v := .long (gL M (31 + (ix a1)) 3)) S hK hP w_lay_X2 (ci := 2) rfl (31 + (ix a1)) (ok_lt (ok_r1 hn (ib_lt h2))) (e2 (ok_r1 hn (ib_lt h2)).1) 3 (by decide) w_fl_X5_236 rfl rfl dX5_about_83 ?_
            cases hf
            exact r_l S hr hlk hP hS dX5_about_86
          · replace hf := iff_ h6 hf
            by_cases h7 : a2 = (4 : Int32)
            · replace hf := ift h7 hf
              refine lv_tableIn (tgt := 87) (off := 61) S.1 S.2.1 dX5_about_26 (by rw [h7]; decide) (by rw [h7]; decide) (by rw [h7]; rfl) (by decide) ?_
              refine lv_aload_n S.1 S.2.1 dX5_about_87 rfl (lv_at hl 1 rfl) ?_
              refine x_get (v := .ref (ad 1)) S hK hP w_lay_X5 (ci := 5) rfl 0 (ok_lt (ok_p hn)) (e5 (ok_p hn).1) 0 (by decide) w_fl_X5_10 rfl rfl dX5_about_88 ?_
              refine lv_iload_n S.1 S.2.1 dX5_about_91 rfl (lv_at hl 2 rfl) ?_
              obtain ⟨x8, gx8, hf⟩ := bn1_some hf
              refine y_Vl (As := [.int a1]) S hK hN hP hS rfl (ok_lt (ok_b1 hn)) (e0 (ok_b1 hn).1) rfl (K_X0_drawingUnits l E ad n hI hn _ N a1  M x8 gx8) (cV 1 S w_co_yX0_drawingUnits w_in_X0 w_ml_X5_239 w_im_yX0_drawingUnits w_se_yX0_drawingUnits hd_X0_drawingUnits ⟨Nat.le_of_ble_eq_true rfl, Nat.le_of_ble_eq_true rfl⟩) hl.1 rfl rfl (Nat.le_of_ble_eq_true rfl) dX5_about_92 ⟨Nat.zero_le _, Nat.zero_le _⟩ (fun H locs hP hS => ?_)
              cases hf
              exact r_l S hr hlk hP hS dX5_about_95
            · replace hf := iff_ h7 hf
              by_cases h9 : a2 = (5 : Int32)
              · replace hf := ift h9 hf
                refine lv_tableIn (tgt := 96) (off := 70) S.1 S.2.1 dX5_about_26 (by rw [h9]; decide) (by rw [h9]; decide) (by rw [h9]; rfl) (by decide) ?_
                refine lv_aload_n S.1 S.2.1 dX5_about_96 rfl (lv_at hl 1 rfl) ?_
                refine x_get (v := .ref (ad 1)) S hK hP w_lay_X5 (ci := 5) rfl 0 (ok_lt (ok_p hn)) (e5 (ok_p hn).1) 0 (by decide) w_fl_X5_10 rfl rfl dX5_about_97 ?_
                refine lv_iload_n S.1 S.2.1 dX5_about_100 rfl (lv_at hl 2 rfl) ?_
                obtain ⟨x10, gx10, hf⟩ := bn1_some hf
                refine y_Vl (As := [.int a1]) S hK hN hP hS rfl (ok_lt (ok_b1 hn)) (e0 (ok_b1 hn).1) rfl (K_X0_sharesIn l E ad n hI hn _ N a1  M x10 gx10) (cV 1 S w_co_yX0_sharesIn w_in_X0 w_ml_X5_242 w_im_yX0_sharesIn w_se_yX0_sharesIn hd_X0_sharesIn ⟨Nat.le_of_ble_eq_true rfl, Nat.le_of_ble_eq_true rfl⟩) hl.1 rfl rfl (Nat.le_of_ble_eq_true rfl) dX5_about_101 ⟨Nat.zero_le _, Nat.zero_le _⟩ (fun H locs hP hS => ?_)
                cases hf
                exact r_l S hr hlk hP hS dX5_about_104
              · replace hf := iff_ h9 hf
                refine lv_tableOut (tgt := 105) S.1 S.2.1 dX5_about_26 (by have q0 := swn h3 (show ((0 : Int32) : Int32).toInt = 0 from rfl); have q1 := swn h4 (show ((1 : Int32) : Int32).toInt = 1 from rfl); have q2 := swn h5 (show ((2 : Int32) : Int32).toInt = 2 from rfl); have q3 := swn h6 (show ((3 : Int32) : Int32).toInt = 3 from rfl); have q4 := swn h7 (show ((4 : Int32) : Int32).toInt = 4 from rfl); have q5 := swn h9 (show ((5 : Int32) : Int32).toInt = 5 from rfl); omega) (by decide) ?_
                refine lv_ldc2 (own := "SurvivorPurse") (v := (-1000000000000000 : Int64)) S.1 S.2.1 S.2.2.2.1 (S.2.2.2.2 _ w_kl_X5_34) dX5_about_105 ?_
                cases hf
                exact r_l S hr hlk hP hS dX5_about_108
  · replace hf := ift h1 hf
    refine lv_ldc2 (own := "SurvivorPurse") (v := (-1000000000000000 : Int64)) S.1 S.2.1 S.2.2.2.1 (S.2.2.2.2 _ w_kl_X5_34) dX5_about_11 ?_
    cases hf
    exact r_l S hr hlk hP hS dX5_about_14
theorem hd_X5_isWithin : yX5_isWithin.cls ≠ "java/lang/invoke/MethodHandle" ∧ yX5_isWithin.cls ≠ "java/lang/invoke/VarHandle" ∧ (parseMethodDescriptor yX5_isWithin.desc).map (fun d => d.parameters.length) = some 3 := by decide +kernel
set_option maxHeartbeats 4000000 in
set_option maxRecDepth 100000 in
theorem K_X5_isWithin (l : Launch) (E : EE) (ad : Nat → Nat) (n : Nat) (hI : ad_I ad n) (hn : 117 ≤ n) (sz : Nat) (a1 : Int32) (a2 : Int32) (a3 : Int32)  (M : MM) (r : Bool) (hf : F_X5_isWithin a1 a2 a3 = r) : CtI l yX5_isWithin cX5_isWithin 3 0 0 .boolean E (entC E ad n M) (entC E ad n M) ad n sz [.int a1, .int a2, .int a3] (bI r) := by
  unfold CtI
  refine body_of (by decide) "SurvivorPurse" rfl (Nat.le_of_ble_eq_true rfl) ?_
  intro p e s m below meth c hsz S hr hlk hP hK hN ls hl
  subst hsz
  have hS : va_S (AA ad n s.heap.size) s.heap s.heap [] := va_S.rf
  have hl : lv_has ls 3 [(0, .int a1), (1, .int a2), (2, .int a3)] := hl
  rw [F_X5_isWithin] at hf
  refine lv_iload_n S.1 S.2.1 dX5_isWithin_0 rfl (lv_at hl 0 rfl) ?_
  refine lv_iload_n S.1 S.2.1 dX5_isWithin_1 rfl (lv_at hl 1 rfl) ?_
  refine lv_icmp_lt (tgt := 14) S.1 S.2.1 dX5_isWithin_2 (by decide) (fun h1 => ?_) (fun h1 => ?_)
  · replace hf := ift h1 hf
    refine lv_iconst (v := (0 : Int32)) S.1 S.2.1 dX5_isWithin_14 (by decide) ?_
    subst hf
    exact r_z S hr hlk hP hS dX5_isWithin_15
  · replace hf := iff_ h1 hf
    refine lv_iload_n S.1 S.2.1 dX5_isWithin_5 rfl (lv_at hl 0 rfl) ?_
    refine lv_iload_n S.1 S.2.1 dX5_isWithin_6 rfl (lv_at hl 2 rfl) ?_
    refine lv_icmp_gt (tgt := 14) S.1 S.2.1 dX5_isWithin_7 (by decide) (fun h2 => ?_) (fun h2 => ?_)
    · replace hf := ift h2 hf
      refine lv_iconst (v := (0 : Int32)) S.1 S.2.1 dX5_isWithin_14 (by decide) ?_
      subst hf
      exact r_z S hr hlk hP hS dX5_isWithin_15
    · replace hf := iff_ h2 hf
      refine lv_iconst (v := (1 : Int32)) S.1 S.2.1 dX5_isWithin_10 (by decide) ?_
      refine lv_goto (tgt := 15) S.1 S.2.1 dX5_isWithin_11 (by decide) ?_
      subst hf
      exact r_z S hr hlk hP hS dX5_isWithin_15
theorem hd_X5_isAge : yX5_isAge.cls ≠ "java/lang/invoke/MethodHandle" ∧ yX5_isAge.cls ≠ "java/lang/invoke/VarHandle" ∧ (parseMethodDescriptor yX5_isAge.desc).map (fun d => d.parameters.length) = some 1 := by decide +kernel
set_option maxHeartbeats 4000000 in
set_option maxRecDepth 100000 in
theorem K_X5_isAge (l : Launch) (E : EE) (ad : Nat → Nat) (n : Nat) (hI : ad_I ad n) (hn : 117 ≤ n) (sz : Nat) (a1 : Int32)  (M : MM) (r : Bool) (hf : F_X5_isAge a1 = r) : CtI l yX5_isAge cX5_isAge 1 1 22 .boolean E (entC E ad n M) (entC E ad n M) ad n sz [.int a1] (bI r) := by
  unfold CtI
  refine body_of (by decide) "SurvivorPurse" rfl (Nat.le_of_ble_eq_true rfl) ?_
  intro p e s m below meth c hsz S hr hlk hP hK hN ls hl
  subst hsz
  have hS : va_S (AA ad n s.heap.size) s.heap s.heap [] := va_S.rf
  have hl : lv_has ls 1 [(0, .int a1)] := hl
  rw [F_X5_isAge] at hf
  refine lv_iload_n S.1 S.2.1 dX5_isAge_0 rfl (lv_at hl 0 rfl) ?_
  refine lv_iconst (v := (0 : Int32)) S.1 S.2.1 dX5_isAge_1 (by decide) ?_
  refine lv_bipush (v := (110 : Int32)) S.1 S.2.1 dX5_isAge_2 (by decide) ?_
  refine y_Si (As := [.int a1, .int (0 : Int32), .int (110 : Int32)]) S hK hN hP hS rfl (K_X5_isWithin l E ad n hI hn _ a1 (0 : Int32) (110 : Int32)  M _ rfl) (cS 3 S w_co_yX5_isWithin w_in_X5 w_ml_X5_97 w_st_yX5_isWithin hd_X5_isWithin ⟨Nat.le_of_ble_eq_true rfl, Nat.le_of_ble_eq_true rfl⟩) hl.1 rfl rfl (Nat.le_of_ble_eq_true rfl) dX5_isAge_4 ⟨Nat.zero_le _, Nat.zero_le _⟩ (fun H locs hP hS => ?_)
  subst hf
  exact r_z S hr hlk hP hS dX5_isAge_7
theorem hd_X5_sign : yX5_sign.cls ≠ "java/lang/invoke/MethodHandle" ∧ yX5_sign.cls ≠ "java/lang/invoke/VarHandle" ∧ (parseMethodDescriptor yX5_sign.desc).map (fun d => d.parameters.length) = some 2 := by decide +kernel
set_option maxHeartbeats 4000000 in
set_option maxRecDepth 100000 in
theorem K_X5_sign (l : Launch) (E : EE) (ad : Nat → Nat) (n : Nat) (hI : ad_I ad n) (hn : 117 ≤ n) (sz : Nat) (a1 : Int64) (a2 : Int64)  (M : MM) (r : Int64) (hf : F_X5_sign a1 a2 = r) : CtL l yX5_sign cX5_sign 4 0 0 E (entC E ad n M) (entC E ad n M) ad n sz [.long a1, .long a2] (r) := by
  unfold CtL
  refine body_of (by decide) "SurvivorPurse" rfl (Nat.le_of_ble_eq_true rfl) ?_
  intro p e s m below meth c hsz S hr hlk hP hK hN ls hl
  subst hsz
  have hS : va_S (AA ad n s.heap.size) s.heap s.heap [] := va_S.rf
  have hl : lv_has ls 4 [(0, .long a1), (2, .long a2)] := hl
  rw [F_X5_sign] at hf
  refine lv_lload_n S.1 S.2.1 dX5_sign_0 rfl (lv_at hl 0 rfl) ?_
  refine lv_lload_n S.1 S.2.1 dX5_sign_1 rfl (lv_at hl 1 rfl) ?_
  refine ll_le (tgt := 10) S dX5_sign_2 dX5_sign_3 (by decide) (fun h1 => ?_) (fun h1 => ?_)
  · replace hf := ift h1 hf
    refine lv_lload_n S.1 S.2.1 dX5_sign_10 rfl (lv_at hl 0 rfl) ?_
    refine lv_lload_n S.1 S.2.1 dX5_sign_11 rfl (lv_at hl 1 rfl) ?_
    refine ll_ge (tgt := 22) S dX5_sign_12 dX5_sign_13 (by decide) (fun h2 => ?_) (fun h2 => ?_)
    · replace hf := ift h2 hf
      refine lv_lconst (v := (0 : Int64)) S.1 S.2.1 dX5_sign_22 (by decide) ?_
      subst hf
      exact r_l S hr hlk hP hS dX5_sign_23
    · replace hf := iff_ h2 hf
      refine lv_ldc2 (own := "SurvivorPurse") (v := (-1 : Int64)) S.1 S.2.1 S.2.2.2.1 (S.2.2.2.2 _ w_kl_X5_270) dX5_sign_16 ?_
      refine lv_goto (tgt := 23) S.1 S.2.1 dX5_sign_19 (by decide) ?_
      subst hf
      exact r_l S hr hlk hP hS dX5_sign_23
  · replace hf := iff_ h1 hf
    refine lv_lconst (v := (1 : Int64)) S.1 S.2.1 dX5_sign_6 (by decide) ?_
    refine lv_goto (tgt := 23) S.1 S.2.1 dX5_sign_7 (by decide) ?_
    subst hf
    exact r_l S hr hlk hP hS dX5_sign_23
theorem hd_X5_parted : yX5_parted.cls ≠ "java/lang/invoke/MethodHandle" ∧ yX5_parted.cls ≠ "java/lang/invoke/VarHandle" ∧ (parseMethodDescriptor yX5_parted.desc).map (fun d => d.parameters.length) = some 3 := by decide +kernel
set_option maxHeartbeats 4000000 in
set_option maxRecDepth 100000 in
theorem K_X5_parted (l : Launch) (E : EE) (ad : Nat → Nat) (n : Nat) (hI : ad_I ad n) (hn : 117 ≤ n) (sz : Nat) (a1 : Int64) (a2 : Int64) (a3 : Int64)  (M : MM) (r : Int64) (hf : F_X5_parted a1 a2 a3 = r) : CtL l yX5_parted cX5_parted 6 0 0 E (entC E ad n M) (entC E ad n M) ad n sz [.long a1, .long a2, .long a3] (r) := by
  unfold CtL
  refine body_of (by decide) "SurvivorPurse" rfl (Nat.le_of_ble_eq_true rfl) ?_
  intro p e s m below meth c hsz S hr hlk hP hK hN ls hl
  subst hsz
  have hS : va_S (AA ad n s.heap.size) s.heap s.heap [] := va_S.rf
  have hl : lv_has ls 6 [(0, .long a1), (2, .long a2), (4, .long a3)] := hl
  rw [F_X5_parted] at hf
  refine lv_lload S.1 S.2.1 dX5_parted_0 (lv_at hl 2 rfl) ?_
  refine lv_lconst (v := (0 : Int64)) S.1 S.2.1 dX5_parted_2 (by decide) ?_
  refine ll_le (tgt := 16) S dX5_parted_3 dX5_parted_4 (by decide) (fun h1 => ?_) (fun h1 => ?_)
  · replace hf := ift h1 hf
    refine lv_lconst (v := (0 : Int64)) S.1 S.2.1 dX5_parted_16 (by decide) ?_
    subst hf
    exact r_l S hr hlk hP hS dX5_parted_17
  · replace hf := iff_ h1 hf
    refine lv_lload_n S.1 S.2.1 dX5_parted_7 rfl (lv_at hl 0 rfl) ?_
    refine lv_lload_n S.1 S.2.1 dX5_parted_8 rfl (lv_at hl 1 rfl) ?_
    refine lv_lmul S.1 S.2.1 dX5_parted_9 ?_
    refine lv_lload S.1 S.2.1 dX5_parted_10 (lv_at hl 2 rfl) ?_
    refine lv_ldiv S.1 S.2.1 dX5_parted_12 (nle_ne h1) ?_
    refine lv_goto (tgt := 17) S.1 S.2.1 dX5_parted_13 (by decide) ?_
    subst hf
    exact r_l S hr hlk hP hS dX5_parted_17
theorem hd_J7_fill_d0a16 : yJ7_fill_d0a16.cls ≠ "java/lang/invoke/MethodHandle" ∧ yJ7_fill_d0a16.cls ≠ "java/lang/invoke/VarHandle" ∧ (parseMethodDescriptor yJ7_fill_d0a16.desc).map (fun d => d.parameters.length) = some 2 := by decide +kernel
set_option maxHeartbeats 4000000 in
set_option maxRecDepth 100000 in
theorem L_J7_fill_d0a16_6 (l : Launch) (E : EE) (ad : Nat → Nat) (n : Nat) (hI : ad_I ad n) (hn : 117 ≤ n) (N : Nat) (c1 : Nat) (a2 : Int64) (P1 : ok 8 n c1) {p : Program} {e : Env} {s : State} {m : MethodId} {below : List Frame} {meth : Method} {c : Code} (S : CallFix p m c cJ7_fill_d0a16 5 s [.ref (ad c1), .long a2].toArray bg_B "java/util/Arrays") (hr : meth.sig.returnType = none) (hlk : meth.locks = false) (hK : va_K E.1 vwCl (tysE E) s) (hN : NW s) (M' : MM) : ∀ (fu : Nat) (v3 : Int32) (v4 : Int32)  (M : MM), F_J7_fill_d0a16_6 N c1 a2 fu v3 v4 M = some M' → ∀ (H : Heap) (locs : List Loc) (ls : Array Slot), va_P E.1 vwCl (mw (entC E ad n M) ad n) H → va_S (AA ad n s.heap.size) s.heap H locs → lv_has ls 5 [(0, .ref (ad c1)), (1, .long a2), (3, .int v3), (4, .int v4)] → W p l e { frames := 0, cells := 0, slots := 0, locals := 0 } s m [.ref (ad c1), .long a2].toArray below meth c H locs 0 0 (MQ below (va_Qv (fun (_ : Unit) => True) (fun _ t => QB E (entC E ad n M') ad n t) (AA ad n s.heap.size)) [.ref (ad c1), .long a2].toArray s 0 0 (AA ad n s.heap.size)) (F0 m 6 ls []) := by
  intro fu
  induction fu with
  | zero =>
    intro v3 v4 M hf
    rw [F_J7_fill_d0a16_6] at hf
    cases hf
  | succ fu ih =>
    intro v3 v4 M hf H locs ls hP hS hl
    rw [F_J7_fill_d0a16_6] at hf
    refine lv_iload_n S.1 S.2.1 dJ7_fill_d0a16_6 rfl (lv_at hl 2 rfl) ?_
    refine lv_iload S.1 S.2.1 dJ7_fill_d0a16_7 (lv_at hl 3 rfl) ?_
    refine lv_icmp_ge (tgt := 22) S.1 S.2.1 dJ7_fill_d0a16_9 (by decide) (fun h1 => ?_) (fun h1 => ?_)
    · replace hf := ift h1 hf
      cases hf
      exact r_v S hr hlk hP hS dJ7_fill_d0a16_22
    · replace hf := iff_ h1 hf
      refine lv_aload_n S.1 S.2.1 dJ7_fill_d0a16_12 rfl (lv_at hl 0 rfl) ?_
      refine lv_iload_n S.1 S.2.1 dJ7_fill_d0a16_13 rfl (lv_at hl 2 rfl) ?_
      refine lv_lload_n S.1 S.2.1 dJ7_fill_d0a16_14 rfl (lv_at hl 1 rfl) ?_
      obtain ⟨h2, hf⟩ := gd_some hf
      refine x_last S hI hK hP hS c1 (ok_lt P1) (e8 P1.1) h2 (entC E ad n (sL M c1 (ix v3) a2)) (h1_8 P1.1) (fun _ h => entC_sL _ h) dJ7_fill_d0a16_15 (fun H locs hP hS => ?_)
      obtain ⟨M3, eM3, hf⟩ := bnd_some hf
      rw [← eM3] at hP
      refine lv_iinc (v := v3 + (1 : Int32)) (lv' := [(3, .int (v3 + (1 : Int32))), (0, .ref (ad c1)), (1, .long a2), (4, .int v4)]) S.1 S.2.1 dJ7_fill_d0a16_16 hl (k := 2) rfl rfl (by decide) rfl (fun ls hl => ?_)
      refine lv_goto (tgt := 6) S.1 S.2.1 dJ7_fill_d0a16_19 (by decide) ?_
      exact ih (v3 + (1 : Int32)) v4  M3 hf _ _ _ hP hS (lv_sub hl [1, 2, 0, 3] rfl)
set_option maxHeartbeats 4000000 in
set_option maxRecDepth 100000 in
theorem K_J7_fill_d0a16 (l : Launch) (E : EE) (ad : Nat → Nat) (n : Nat) (hI : ad_I ad n) (hn : 117 ≤ n) (sz : Nat) (N : Nat) (c1 : Nat) (a2 : Int64) (P1 : ok 8 n c1) (M : MM) (M' : MM) (hf : F_J7_fill_d0a16 N c1 a2 M = some M') : CtV l yJ7_fill_d0a16 cJ7_fill_d0a16 5 0 0 E (entC E ad n M) (entC E ad n M') ad n sz [.ref (ad c1), .long a2] := by
  unfold CtV
  refine body_of (by decide) "java/util/Arrays" rfl (Nat.le_of_ble_eq_true rfl) ?_
  intro p e s m below meth c hsz S hr hlk hP hK hN ls hl
  subst hsz
  have hS : va_S (AA ad n s.heap.size) s.heap s.heap [] := va_S.rf
  have hl : lv_has ls 5 [(0, .ref (ad c1)), (1, .long a2)] := hl
  rw [F_J7_fill_d0a16] at hf
  refine lv_iconst (v := (0 : Int32)) S.1 S.2.1 dJ7_fill_d0a16_0 (by decide) ?_
  refine lv_istore_n (lv' := [(3, .int (0 : Int32)), (0, .ref (ad c1)), (1, .long a2)]) S.1 S.2.1 dJ7_fill_d0a16_1 rfl hl (by decide) rfl (fun ls hl => ?_)
  refine lv_aload_n S.1 S.2.1 dJ7_fill_d0a16_2 rfl (lv_at hl 1 rfl) ?_
  refine va_alen (v := (60 : Int32)) S.1 S.2.1 hK hP c1 1 (mw_at (ok_lt P1) (e8 P1.1)) rfl rfl dJ7_fill_d0a16_3 ?_
  refine lv_istore (lv' := [(4, .int (60 : Int32)), (3, .int (0 : Int32)), (0, .ref (ad c1)), (1, .long a2)]) S.1 S.2.1 dJ7_fill_d0a16_4 hl (by decide) rfl (fun ls hl => ?_)
  exact L_J7_fill_d0a16_6 l E ad n hI hn N c1 a2 P1 S hr hlk hK hN _ N (0 : Int32) (60 : Int32)  M hf _ _ _ hP hS (lv_sub hl [2, 3, 1, 0] rfl)
theorem hd_X0_copyFrom : yX0_copyFrom.cls ≠ "java/lang/invoke/MethodHandle" ∧ yX0_copyFrom.cls ≠ "java/lang/invoke/VarHandle" ∧ (parseMethodDescriptor yX0_copyFrom.desc).map (fun d => d.parameters.length) = some 1 := by decide +kernel
set_option maxHeartbeats 4000000 in
set_option maxRecDepth 100000 in
theorem L_X0_copyFrom_147 (l : Launch) (E : EE) (ad : Nat → Nat) (n : Nat) (hI : ad_I ad n) (hn : 117 ≤ n) (N : Nat) (c0 : Nat) (c1 : Nat) (P0 : ok 0 n c0) (P1 : ok 0 n c1) {p : Program} {e : Env} {s : State} {m : MethodId} {below : List Frame} {meth : Method} {c : Code} (S : CallFix p m c cX0_copyFrom 3 s [.ref (ad c0), .ref (ad c1)].toArray bg_B "SurvivorPurse$Book") (hr : meth.sig.returnType = none) (hlk : meth.locks = false) (hK : va_K E.1 vwCl (tysE E) s) (hN : NW s) (M' : MM) : ∀ (fu : Nat) (v2 : Int32)  (M : MM), F_X0_copyFrom_147 N c0 c1 fu v2 M = some M' → ∀ (H : Heap) (locs : List Loc) (ls : Array Slot), va_P E.1 vwCl (mw (entC E ad n M) ad n) H → va_S (AA ad n s.heap.size) s.heap H locs → lv_has ls 3 [(0, .ref (ad c0)), (1, .ref (ad c1)), (2, .int v2)] → W p l e { frames := 2, cells := 0, slots := 0, locals := 81 } s m [.ref (ad c0), .ref (ad c1)].toArray below meth c H locs 0 0 (MQ below (va_Qv (fun (_ : Unit) => True) (fun _ t => QB E (entC E ad n M') ad n t) (AA ad n s.heap.size)) [.ref (ad c0), .ref (ad c1)].toArray s 0 0 (AA ad n s.heap.size)) (F0 m 147 ls []) := by
  intro fu
  induction fu with
  | zero =>
    intro v2 M hf
    rw [F_X0_copyFrom_147] at hf
    cases hf
  | succ fu ih =>
    intro v2 M hf H locs ls hP hS hl
    rw [F_X0_copyFrom_147] at hf
    refine lv_iload_n S.1 S.2.1 dX0_copyFrom_147 rfl (lv_at hl 2 rfl) ?_
    refine lv_aload_n S.1 S.2.1 dX0_copyFrom_148 rfl (lv_at hl 0 rfl) ?_
    refine x_get (v := .int (gI M c0 6)) S hK hP w_lay_X0 (ci := 0) rfl c0 (ok_lt P0) (e0 P0.1) 6 (by decide) w_fl_X0_53 rfl rfl dX0_copyFrom_149 ?_
    refine lv_icmp_ge (tgt := 176) S.1 S.2.1 dX0_copyFrom_152 (by decide) (fun h17 => ?_) (fun h17 => ?_)
    · replace hf := ift h17 hf
      cases hf
      exact r_v S hr hlk hP hS dX0_copyFrom_176
    · replace hf := iff_ h17 hf
      refine lv_aload_n S.1 S.2.1 dX0_copyFrom_155 rfl (lv_at hl 0 rfl) ?_
      refine x_get (v := .ref (ad (c0 + 5))) S hK hP w_lay_X0 (ci := 0) rfl c0 (ok_lt P0) (e0 P0.1) 3 (by decide) w_fl_X0_32 rfl rfl dX0_copyFrom_156 ?_
      refine lv_iload_n S.1 S.2.1 dX0_copyFrom_159 rfl (lv_at hl 2 rfl) ?_
      obtain ⟨h18, hf⟩ := gd_some hf
      refine x_aald S hK hP (c0 + 5) (ok_lt (ok_sa P0)) (e11 (ok_sa P0).1) 4 rfl h18 dX0_copyFrom_160 ?_
      refine lv_aload_n S.1 S.2.1 dX0_copyFrom_161 rfl (lv_at hl 1 rfl) ?_
      refine x_get (v := .ref (ad (c1 + 5))) S hK hP w_lay_X0 (ci := 0) rfl c1 (ok_lt P1) (e0 P1.1) 3 (by decide) w_fl_X0_32 rfl rfl dX0_copyFrom_162 ?_
      refine lv_iload_n S.1 S.2.1 dX0_copyFrom_165 rfl (lv_at hl 2 rfl) ?_
      refine x_aald S hK hP (c1 + 5) (ok_lt (ok_sa P1)) (e11 (ok_sa P1).1) 4 rfl h18 dX0_copyFrom_166 ?_
      obtain ⟨M19, gM19, hf⟩ := bn1_some hf
      refine y_Vv (As := [.ref (ad ((c1 + 5) + 31 + (ix v2)))]) S hK hN hP hS rfl (ok_lt (ok_si (ok_sa P0) (ib_lt h18))) (e3 (ok_si (ok_sa P0) (ib_lt h18)).1) rfl (K_X3_copyFrom l E ad n hI hn _ N ((c0 + 5) + 31 + (ix v2)) ((c1 + 5) + 31 + (ix v2)) (ok_si (ok_sa P0) (ib_lt h18)) (ok_si (ok_sa P1) (ib_lt h18)) M M19 gM19) (cV 1 S w_co_yX3_copyFrom w_in_X3 w_ml_X0_78 w_im_yX3_copyFrom w_se_yX3_copyFrom hd_X3_copyFrom ⟨Nat.le_of_ble_eq_true rfl, Nat.le_of_ble_eq_true rfl⟩) hl.1 rfl rfl (Nat.le_of_ble_eq_true rfl) dX0_copyFrom_167 ⟨Nat.zero_le _, Nat.zero_le _⟩ (fun H locs hP hS => ?_)
      refine lv_iinc (v := v2 + (1 : Int32)) (lv' := [(2, .int (v2 + (1 : Int32))), (0, .ref (ad c0)), (1, .ref (ad c1))]) S.1 S.2.1 dX0_copyFrom_170 hl (k := 2) rfl rfl (by decide) rfl (fun ls hl => ?_)
      refine lv_goto (tgt := 147) S.1 S.2.1 dX0_copyFrom_173 (by decide) ?_
      exact ih (v2 + (1 : Int32))  M19 hf _ _ _ hP hS (lv_sub hl [1, 2, 0] rfl)
set_option maxHeartbeats 4000000 in
set_option maxRecDepth 100000 in
theorem L_X0_copyFrom_116 (l : Launch) (E : EE) (ad : Nat → Nat) (n : Nat) (hI : ad_I ad n) (hn : 117 ≤ n) (N : Nat) (c0 : Nat) (c1 : Nat) (P0 : ok 0 n c0) (P1 : ok 0 n c1) {p : Program} {e : Env} {s : State} {m : MethodId} {below : List Frame} {meth : Method} {c : Code} (S : CallFix p m c cX0_copyFrom 3 s [.ref (ad c0), .ref (ad c1)].toArray bg_B "SurvivorPurse$Book") (hr : meth.sig.returnType = none) (hlk : meth.locks = false) (hK : va_K E.1 vwCl (tysE E) s) (hN : NW s) (M' : MM) : ∀ (fu : Nat) (v2 : Int32)  (M : MM), F_X0_copyFrom_116 N c0 c1 fu v2 M = some M' → ∀ (H : Heap) (locs : List Loc) (ls : Array Slot), va_P E.1 vwCl (mw (entC E ad n M) ad n) H → va_S (AA ad n s.heap.size) s.heap H locs → lv_has ls 3 [(0, .ref (ad c0)), (1, .ref (ad c1)), (2, .int v2)] → W p l e { frames := 2, cells := 0, slots := 0, locals := 81 } s m [.ref (ad c0), .ref (ad c1)].toArray below meth c H locs 0 0 (MQ below (va_Qv (fun (_ : Unit) => True) (fun _ t => QB E (entC E ad n M') ad n t) (AA ad n s.heap.size)) [.ref (ad c0), .ref (ad c1)].toArray s 0 0 (AA ad n s.heap.size)) (F0 m 116 ls []) := by
  intro fu
  induction fu with
  | zero =>
    intro v2 M hf
    rw [F_X0_copyFrom_116] at hf
    cases hf
  | succ fu ih =>
    intro v2 M hf H locs ls hP hS hl
    rw [F_X0_copyFrom_116] at hf
    refine lv_iload_n S.1 S.2.1 dX0_copyFrom_116 rfl (lv_at hl 2 rfl) ?_
    refine lv_aload_n S.1 S.2.1 dX0_copyFrom_117 rfl (lv_at hl 0 rfl) ?_
    refine x_get (v := .int (gI M c0 5)) S hK hP w_lay_X0 (ci := 0) rfl c0 (ok_lt P0) (e0 P0.1) 5 (by decide) w_fl_X0_50 rfl rfl dX0_copyFrom_118 ?_
    refine lv_icmp_ge (tgt := 145) S.1 S.2.1 dX0_copyFrom_121 (by decide) (fun h14 => ?_) (fun h14 => ?_)
    · replace hf := ift h14 hf
      refine lv_iconst (v := (0 : Int32)) S.1 S.2.1 dX0_copyFrom_145 (by decide) ?_
      refine lv_istore_n (lv' := [(2, .int (0 : Int32)), (0, .ref (ad c0)), (1, .ref (ad c1))]) S.1 S.2.1 dX0_copyFrom_146 rfl hl (by decide) rfl (fun ls hl => ?_)
      exact L_X0_copyFrom_147 l E ad n hI hn N c0 c1 P0 P1 S hr hlk hK hN _ N (0 : Int32)  M hf _ _ _ hP hS (lv_sub hl [1, 2, 0] rfl)
    · replace hf := iff_ h14 hf
      refine lv_aload_n S.1 S.2.1 dX0_copyFrom_124 rfl (lv_at hl 0 rfl) ?_
      refine x_get (v := .ref (ad (c0 + 4))) S hK hP w_lay_X0 (ci := 0) rfl c0 (ok_lt P0) (e0 P0.1) 2 (by decide) w_fl_X0_26 rfl rfl dX0_copyFrom_125 ?_
      refine lv_iload_n S.1 S.2.1 dX0_copyFrom_128 rfl (lv_at hl 2 rfl) ?_
      obtain ⟨h15, hf⟩ := gd_some hf
      refine x_aald S hK hP (c0 + 4) (ok_lt (ok_ra P0)) (e10 (ok_ra P0).1) 3 rfl h15 dX0_copyFrom_129 ?_
      refine lv_aload_n S.1 S.2.1 dX0_copyFrom_130 rfl (lv_at hl 1 rfl) ?_
      refine x_get (v := .ref (ad (c1 + 4))) S hK hP w_lay_X0 (ci := 0) rfl c1 (ok_lt P1) (e0 P1.1) 2 (by decide) w_fl_X0_26 rfl rfl dX0_copyFrom_131 ?_
      refine lv_iload_n S.1 S.2.1 dX0_copyFrom_134 rfl (lv_at hl 2 rfl) ?_
      refine x_aald S hK hP (c1 + 4) (ok_lt (ok_ra P1)) (e10 (ok_ra P1).1) 3 rfl h15 dX0_copyFrom_135 ?_
      obtain ⟨M16, gM16, hf⟩ := bn1_some hf
      refine y_Vv (As := [.ref (ad ((c1 + 4) + 26 + (ix v2)))]) S hK hN hP hS rfl (ok_lt (ok_ri (ok_ra P0) (ib_lt h15))) (e2 (ok_ri (ok_ra P0) (ib_lt h15)).1) rfl (K_X2_copyFrom l E ad n hI hn _ N ((c0 + 4) + 26 + (ix v2)) ((c1 + 4) + 26 + (ix v2)) (ok_ri (ok_ra P0) (ib_lt h15)) (ok_ri (ok_ra P1) (ib_lt h15)) M M16 gM16) (cV 1 S w_co_yX2_copyFrom w_in_X2 w_ml_X0_75 w_im_yX2_copyFrom w_se_yX2_copyFrom hd_X2_copyFrom ⟨Nat.le_of_ble_eq_true rfl, Nat.le_of_ble_eq_true rfl⟩) hl.1 rfl rfl (Nat.le_of_ble_eq_true rfl) dX0_copyFrom_136 ⟨Nat.zero_le _, Nat.zero_le _⟩ (fun H locs hP hS => ?_)
      refine lv_iinc (v := v2 + (1 : Int32)) (lv' := [(2, .int (v2 + (1 : Int32))), (0, .ref (ad c0)), (1, .ref (ad c1))]) S.1 S.2.1 dX0_copyFrom_139 hl (k := 2) rfl rfl (by decide) rfl (fun ls hl => ?_)
      refine lv_goto (tgt := 116) S.1 S.2.1 dX0_copyFrom_142 (by decide) ?_
      exact ih (v2 + (1 : Int32))  M16 hf _ _ _ hP hS (lv_sub hl [1, 2, 0] rfl)
set_option maxHeartbeats 4000000 in
set_option maxRecDepth 100000 in
theorem L_X0_copyFrom_85 (l : Launch) (E : EE) (ad : Nat → Nat) (n : Nat) (hI : ad_I ad n) (hn : 117 ≤ n) (N : Nat) (c0 : Nat) (c1 : Nat) (P0 : ok 0 n c0) (P1 : ok 0 n c1) {p : Program} {e : Env} {s : State} {m : MethodId} {below : List Frame} {meth : Method} {c : Code} (S : CallFix p m c cX0_copyFrom 3 s [.ref (ad c0), .ref (ad c1)].toArray bg_B "SurvivorPurse$Book") (hr : meth.sig.returnType = none) (hlk : meth.locks = false) (hK : va_K E.1 vwCl (tysE E) s) (hN : NW s) (M' : MM) : ∀ (fu : Nat) (v2 : Int32)  (M : MM), F_X0_copyFrom_85 N c0 c1 fu v2 M = some M' → ∀ (H : Heap) (locs : List Loc) (ls : Array Slot), va_P E.1 vwCl (mw (entC E ad n M) ad n) H → va_S (AA ad n s.heap.size) s.heap H locs → lv_has ls 3 [(0, .ref (ad c0)), (1, .ref (ad c1)), (2, .int v2)] → W p l e { frames := 2, cells := 0, slots := 0, locals := 81 } s m [.ref (ad c0), .ref (ad c1)].toArray below meth c H locs 0 0 (MQ below (va_Qv (fun (_ : Unit) => True) (fun _ t => QB E (entC E ad n M') ad n t) (AA ad n s.heap.size)) [.ref (ad c0), .ref (ad c1)].toArray s 0 0 (AA ad n s.heap.size)) (F0 m 85 ls []) := by
  intro fu
  induction fu with
  | zero =>
    intro v2 M hf
    rw [F_X0_copyFrom_85] at hf
    cases hf
  | succ fu ih =>
    intro v2 M hf H locs ls hP hS hl
    rw [F_X0_copyFrom_85] at hf
    refine lv_iload_n S.1 S.2.1 dX0_copyFrom_85 rfl (lv_at hl 2 rfl) ?_
    refine lv_aload_n S.1 S.2.1 dX0_copyFrom_86 rfl (lv_at hl 0 rfl) ?_
    refine x_get (v := .int (gI M c0 4)) S hK hP w_lay_X0 (ci := 0) rfl c0 (ok_lt P0) (e0 P0.1) 4 (by decide) w_fl_X0_47 rfl rfl dX0_copyFrom_87 ?_
    refine lv_icmp_ge (tgt := 114) S.1 S.2.1 dX0_copyFrom_90 (by decide) (fun h11 => ?_) (fun h11 => ?_)
    · replace hf := ift h11 hf
      refine lv_iconst (v := (0 : Int32)) S.1 S.2.1 dX0_copyFrom_114 (by decide) ?_
      refine lv_istore_n (lv' := [(2, .int (0 : Int32)), (0, .ref (ad c0)), (1, .ref (ad c1))]) S.1 S.2.1 dX0_copyFrom_115 rfl hl (by decide) rfl (fun ls hl => ?_)
      exact L_X0_copyFrom_116 l E ad n hI hn N c0 c1 P0 P1 S hr hlk hK hN _ N (0 : Int32)  M hf _ _ _ hP hS (lv_sub hl [1, 2, 0] rfl)
    · replace hf := iff_ h11 hf
      refine lv_aload_n S.1 S.2.1 dX0_copyFrom_93 rfl (lv_at hl 0 rfl) ?_
      refine x_get (v := .ref (ad (c0 + 3))) S hK hP w_lay_X0 (ci := 0) rfl c0 (ok_lt P0) (e0 P0.1) 1 (by decide) w_fl_X0_20 rfl rfl dX0_copyFrom_94 ?_
      refine lv_iload_n S.1 S.2.1 dX0_copyFrom_97 rfl (lv_at hl 2 rfl) ?_
      obtain ⟨h12, hf⟩ := gd_some hf
      refine x_aald S hK hP (c0 + 3) (ok_lt (ok_ma P0)) (e9 (ok_ma P0).1) 2 rfl h12 dX0_copyFrom_98 ?_
      refine lv_aload_n S.1 S.2.1 dX0_copyFrom_99 rfl (lv_at hl 1 rfl) ?_
      refine x_get (v := .ref (ad (c1 + 3))) S hK hP w_lay_X0 (ci := 0) rfl c1 (ok_lt P1) (e0 P1.1) 1 (by decide) w_fl_X0_20 rfl rfl dX0_copyFrom_100 ?_
      refine lv_iload_n S.1 S.2.1 dX0_copyFrom_103 rfl (lv_at hl 2 rfl) ?_
      refine x_aald S hK hP (c1 + 3) (ok_lt (ok_ma P1)) (e9 (ok_ma P1).1) 2 rfl h12 dX0_copyFrom_104 ?_
      obtain ⟨M13, gM13, hf⟩ := bn1_some hf
      refine y_Vv (As := [.ref (ad ((c1 + 3) + 3 + (ix v2)))]) S hK hN hP hS rfl (ok_lt (ok_mi (ok_ma P0) (ib_lt h12))) (e1 (ok_mi (ok_ma P0) (ib_lt h12)).1) rfl (K_X1_copyFrom l E ad n hI hn _ N ((c0 + 3) + 3 + (ix v2)) ((c1 + 3) + 3 + (ix v2)) (ok_mi (ok_ma P0) (ib_lt h12)) (ok_mi (ok_ma P1) (ib_lt h12)) M M13 gM13) (cV 1 S w_co_yX1_copyFrom w_in_X1 w_ml_X0_72 w_im_yX1_copyFrom w_se_yX1_copyFrom hd_X1_copyFrom ⟨Nat.le_of_ble_eq_true rfl, Nat.le_of_ble_eq_true rfl⟩) hl.1 rfl rfl (Nat.le_of_ble_eq_true rfl) dX0_copyFrom_105 ⟨Nat.zero_le _, Nat.zero_le _⟩ (fun H locs hP hS => ?_)
      refine lv_iinc (v := v2 + (1 : Int32)) (lv' := [(2, .int (v2 + (1 : Int32))), (0, .ref (ad c0)), (1, .ref (ad c1))]) S.1 S.2.1 dX0_copyFrom_108 hl (k := 2) rfl rfl (by decide) rfl (fun ls hl => ?_)
      refine lv_goto (tgt := 85) S.1 S.2.1 dX0_copyFrom_111 (by decide) ?_
      exact ih (v2 + (1 : Int32))  M13 hf _ _ _ hP hS (lv_sub hl [1, 2, 0] rfl)
set_option maxHeartbeats 4000000 in
set_option maxRecDepth 100000 in
theorem K_X0_copyFrom (l : Launch) (E : EE) (ad : Nat → Nat) (n : Nat) (hI : ad_I ad n) (hn : 117 ≤ n) (sz : Nat) (N : Nat) (c0 : Nat) (c1 : Nat) (P0 : ok 0 n c0) (P1 : ok 0 n c1) (M : MM) (M' : MM) (hf : F_X0_copyFrom N c0 c1 M = some M') : CtV l yX0_copyFrom cX0_copyFrom 3 2 81 E (entC E ad n M) (entC E ad n M') ad n sz [.ref (ad c0), .ref (ad c1)] := by
  unfold CtV
  refine body_of (by decide) "SurvivorPurse$Book" rfl (Nat.le_of_ble_eq_true rfl) ?_
  intro p e s m below meth c hsz S hr hlk hP hK hN ls hl
  subst hsz
  have hS : va_S (AA ad n s.heap.size) s.heap s.heap [] := va_S.rf
  have hl : lv_has ls 3 [(0, .ref (ad c0)), (1, .ref (ad c1))] := hl
  rw [F_X0_copyFrom] at hf
  refine lv_aload_n S.1 S.2.1 dX0_copyFrom_0 rfl (lv_at hl 0 rfl) ?_
  refine x_get (v := .ref (ad (c0 + 1))) S hK hP w_lay_X0 (ci := 0) rfl c0 (ok_lt P0) (e0 P0.1) 0 (by decide) w_fl_X0_12 rfl rfl dX0_copyFrom_1 ?_
  refine lv_aload_n S.1 S.2.1 dX0_copyFrom_4 rfl (lv_at hl 1 rfl) ?_
  refine x_get (v := .ref (ad (c1 + 1))) S hK hP w_lay_X0 (ci := 0) rfl c1 (ok_lt P1) (e0 P1.1) 0 (by decide) w_fl_X0_12 rfl rfl dX0_copyFrom_5 ?_
  obtain ⟨M1, gM1, hf⟩ := bn1_some hf
  refine y_Vv (As := [.ref (ad (c1 + 1))]) S hK hN hP hS rfl (ok_lt (ok_tab P0)) (e4 (ok_tab P0).1) rfl (K_X4_copyFrom l E ad n hI hn _ N (c0 + 1) (c1 + 1) (ok_tab P0) (ok_tab P1) M M1 gM1) (cV 1 S w_co_yX4_copyFrom w_in_X4 w_ml_X0_43 w_im_yX4_copyFrom w_se_yX4_copyFrom hd_X4_copyFrom ⟨Nat.le_of_ble_eq_true rfl, Nat.le_of_ble_eq_true rfl⟩) hl.1 rfl rfl (Nat.le_of_ble_eq_true rfl) dX0_copyFrom_8 ⟨Nat.zero_le _, Nat.zero_le _⟩ (fun H locs hP hS => ?_)
  refine lv_aload_n S.1 S.2.1 dX0_copyFrom_11 rfl (lv_at hl 0 rfl) ?_
  refine lv_aload_n S.1 S.2.1 dX0_copyFrom_12 rfl (lv_at hl 1 rfl) ?_
  refine x_get (v := .int (gI M1 c1 4)) S hK hP w_lay_X0 (ci := 0) rfl c1 (ok_lt P1) (e0 P1.1) 4 (by decide) w_fl_X0_47 rfl rfl dX0_copyFrom_13 ?_
  refine x_put S hI hK hP hS w_lay_X0 tyX0 tyX0_ok nmX0 (ci := 0) rfl c0 (ok_lt P0) (e0 P0.1) 4 (by decide) w_fl_X0_47 rfl rfl rfl rfl (Nat.le_of_ble_eq_true rfl) (entC E ad n (sI M1 c0 4 (gI M1 c1 4))) (h1_X0_4 P0.1 ) (fun _ h => entC_sI _ h) dX0_copyFrom_16 (fun H locs hP hS => ?_)
  obtain ⟨M2, eM2, hf⟩ := bnd_some hf
  rw [← eM2] at hP
  refine lv_aload_n S.1 S.2.1 dX0_copyFrom_19 rfl (lv_at hl 0 rfl) ?_
  refine lv_aload_n S.1 S.2.1 dX0_copyFrom_20 rfl (lv_at hl 1 rfl) ?_
  refine x_get (v := .int (gI M2 c1 5)) S hK hP w_lay_X0 (ci := 0) rfl c1 (ok_lt P1) (e0 P1.1) 5 (by decide) w_fl_X0_50 rfl rfl dX0_copyFrom_21 ?_
  refine x_put S hI hK hP hS w_lay_X0 tyX0 tyX0_ok nmX0 (ci := 0) rfl c0 (ok_lt P0) (e0 P0.1) 5 (by decide) w_fl_X0_50 rfl rfl rfl rfl (Nat.le_of_ble_eq_true rfl) (entC E ad n (sI M2 c0 5 (gI M2 c1 5))) (h1_X0_5 P0.1 ) (fun _ h => entC_sI _ h) dX0_copyFrom_24 (fun H locs hP hS => ?_)
  obtain ⟨M3, eM3, hf⟩ := bnd_some hf
  rw [← eM3] at hP
  refine lv_aload_n S.1 S.2.1 dX0_copyFrom_27 rfl (lv_at hl 0 rfl) ?_
  refine lv_aload_n S.1 S.2.1 dX0_copyFrom_28 rfl (lv_at hl 1 rfl) ?_
  refine x_get (v := .int (gI M3 c1 6)) S hK hP w_lay_X0 (ci := 0) rfl c1 (ok_lt P1) (e0 P1.1) 6 (by decide) w_fl_X0_53 rfl rfl dX0_copyFrom_29 ?_
  refine x_put S hI hK hP hS w_lay_X0 tyX0 tyX0_ok nmX0 (ci := 0) rfl c0 (ok_lt P0) (e0 P0.1) 6 (by decide) w_fl_X0_53 rfl rfl rfl rfl (Nat.le_of_ble_eq_true rfl) (entC E ad n (sI M3 c0 6 (gI M3 c1 6))) (h1_X0_6 P0.1 ) (fun _ h => entC_sI _ h) dX0_copyFrom_32 (fun H locs hP hS => ?_)
  obtain ⟨M4, eM4, hf⟩ := bnd_some hf
  rw [← eM4] at hP
  refine lv_aload_n S.1 S.2.1 dX0_copyFrom_35 rfl (lv_at hl 0 rfl) ?_
  refine lv_aload_n S.1 S.2.1 dX0_copyFrom_36 rfl (lv_at hl 1 rfl) ?_
  refine x_get (v := .int (gI M4 c1 7)) S hK hP w_lay_X0 (ci := 0) rfl c1 (ok_lt P1) (e0 P1.1) 7 (by decide) w_fl_X0_56 rfl rfl dX0_copyFrom_37 ?_
  refine x_put S hI hK hP hS w_lay_X0 tyX0 tyX0_ok nmX0 (ci := 0) rfl c0 (ok_lt P0) (e0 P0.1) 7 (by decide) w_fl_X0_56 rfl rfl rfl rfl (Nat.le_of_ble_eq_true rfl) (entC E ad n (sI M4 c0 7 (gI M4 c1 7))) (h1_X0_7 P0.1 ) (fun _ h => entC_sI _ h) dX0_copyFrom_40 (fun H locs hP hS => ?_)
  obtain ⟨M5, eM5, hf⟩ := bnd_some hf
  rw [← eM5] at hP
  refine lv_aload_n S.1 S.2.1 dX0_copyFrom_43 rfl (lv_at hl 0 rfl) ?_
  refine lv_aload_n S.1 S.2.1 dX0_copyFrom_44 rfl (lv_at hl 1 rfl) ?_
  refine x_get (v := .int (gI M5 c1 8)) S hK hP w_lay_X0 (ci := 0) rfl c1 (ok_lt P1) (e0 P1.1) 8 (by decide) w_fl_X0_36 rfl rfl dX0_copyFrom_45 ?_
  refine x_put S hI hK hP hS w_lay_X0 tyX0 tyX0_ok nmX0 (ci := 0) rfl c0 (ok_lt P0) (e0 P0.1) 8 (by decide) w_fl_X0_36 rfl rfl rfl rfl (Nat.le_of_ble_eq_true rfl) (entC E ad n (sI M5 c0 8 (gI M5 c1 8))) (h1_X0_8 P0.1 ) (fun _ h => entC_sI _ h) dX0_copyFrom_48 (fun H locs hP hS => ?_)
  obtain ⟨M6, eM6, hf⟩ := bnd_some hf
  rw [← eM6] at hP
  refine lv_aload_n S.1 S.2.1 dX0_copyFrom_51 rfl (lv_at hl 0 rfl) ?_
  refine lv_aload_n S.1 S.2.1 dX0_copyFrom_52 rfl (lv_at hl 1 rfl) ?_
  refine x_get (v := .int (gI M6 c1 9)) S hK hP w_lay_X0 (ci := 0) rfl c1 (ok_lt P1) (e0 P1.1) 9 (by decide) w_fl_X0_59 rfl rfl dX0_copyFrom_53 ?_
  refine x_put S hI hK hP hS w_lay_X0 tyX0 tyX0_ok nmX0 (ci := 0) rfl c0 (ok_lt P0) (e0 P0.1) 9 (by decide) w_fl_X0_59 rfl rfl rfl rfl (Nat.le_of_ble_eq_true rfl) (entC E ad n (sI M6 c0 9 (gI M6 c1 9))) (h1_X0_9 P0.1 ) (fun _ h => entC_sI _ h) dX0_copyFrom_56 (fun H locs hP hS => ?_)
  obtain ⟨M7, eM7, hf⟩ := bnd_some hf
  rw [← eM7] at hP
  refine lv_aload_n S.1 S.2.1 dX0_copyFrom_59 rfl (lv_at hl 0 rfl) ?_
  refine lv_aload_n S.1 S.2.1 dX0_copyFrom_60 rfl (lv_at hl 1 rfl) ?_
  refine x_get (v := .long (gL M7 c1 10)) S hK hP w_lay_X0 (ci := 0) rfl c1 (ok_lt P1) (e0 P1.1) 10 (by decide) w_fl_X0_62 rfl rfl dX0_copyFrom_61 ?_
  refine x_put S hI hK hP hS w_lay_X0 tyX0 tyX0_ok nmX0 (ci := 0) rfl c0 (ok_lt P0) (e0 P0.1) 10 (by decide) w_fl_X0_62 rfl rfl rfl rfl (Nat.le_of_ble_eq_true rfl) (entC E ad n (sL M7 c0 10 (gL M7 c1 10))) (h1_X0_10 P0.1 ) (fun _ h => entC_sL _ h) dX0_copyFrom_64 (fun H locs hP hS => ?_)
  obtain ⟨M8, eM8, hf⟩ := bnd_some hf
  rw [← eM8] at hP
  refine lv_aload_n S.1 S.2.1 dX0_copyFrom_67 rfl (lv_at hl 0 rfl) ?_
  refine lv_aload_n S.1 S.2.1 dX0_copyFrom_68 rfl (lv_at hl 1 rfl) ?_
  refine x_get (v := .long (gL M8 c1 11)) S hK hP w_lay_X0 (ci := 0) rfl c1 (ok_lt P1) (e0 P1.1) 11 (by decide) w_fl_X0_66 rfl rfl dX0_copyFrom_69 ?_
  refine x_put S hI hK hP hS w_lay_X0 tyX0 tyX0_ok nmX0 (ci := 0) rfl c0 (ok_lt P0) (e0 P0.1) 11 (by decide) w_fl_X0_66 rfl rfl rfl rfl (Nat.le_of_ble_eq_true rfl) (entC E ad n (sL M8 c0 11 (gL M8 c1 11))) (h1_X0_11 P0.1 ) (fun _ h => entC_sL _ h) dX0_copyFrom_72 (fun H locs hP hS => ?_)
  obtain ⟨M9, eM9, hf⟩ := bnd_some hf
  rw [← eM9] at hP
  refine lv_aload_n S.1 S.2.1 dX0_copyFrom_75 rfl (lv_at hl 0 rfl) ?_
  refine lv_aload_n S.1 S.2.1 dX0_copyFrom_76 rfl (lv_at hl 1 rfl) ?_
  refine x_get (v := .long (gL M9 c1 12)) S hK hP w_lay_X0 (ci := 0) rfl c1 (ok_lt P1) (e0 P1.1) 12 (by decide) w_fl_X0_69 rfl rfl dX0_copyFrom_77 ?_
  refine x_put S hI hK hP hS w_lay_X0 tyX0 tyX0_ok nmX0 (ci := 0) rfl c0 (ok_lt P0) (e0 P0.1) 12 (by decide) w_fl_X0_69 rfl rfl rfl rfl (Nat.le_of_ble_eq_true rfl) (entC E ad n (sL M9 c0 12 (gL M9 c1 12))) (h1_X0_12 P0.1 ) (fun _ h => entC_sL _ h) dX0_copyFrom_80 (fun H locs hP hS => ?_)
  obtain ⟨M10, eM10, hf⟩ := bnd_some hf
  rw [← eM10] at hP
  refine lv_iconst (v := (0 : Int32)) S.1 S.2.1 dX0_copyFrom_83 (by decide) ?_
  refine lv_istore_n (lv' := [(2, .int (0 : Int32)), (0, .ref (ad c0)), (1, .ref (ad c1))]) S.1 S.2.1 dX0_copyFrom_84 rfl hl (by decide) rfl (fun ls hl => ?_)
  exact L_X0_copyFrom_85 l E ad n hI hn N c0 c1 P0 P1 S hr hlk hK hN _ N (0 : Int32)  M10 hf _ _ _ hP hS (lv_sub hl [1, 2, 0] rfl)
theorem hd_X0_addMember : yX0_addMember.cls ≠ "java/lang/invoke/MethodHandle" ∧ yX0_addMember.cls ≠ "java/lang/invoke/VarHandle" ∧ (parseMethodDescriptor yX0_addMember.desc).map (fun d => d.parameters.length) = some 1 := by decide +kernel
set_option maxHeartbeats 4000000 in
set_option maxRecDepth 100000 in
theorem K_X0_addMember (l : Launch) (E : EE) (ad : Nat → Nat) (n : Nat) (hI : ad_I ad n) (hn : 117 ≤ n) (sz : Nat) (N : Nat) (a1 : Int32)  (M : MM) (r : Int32) (M' : MM) (hf : F_X0_addMember N a1 M = some (r, M')) : CtI l yX0_addMember cX0_addMember 2 1 21 .int E (entC E ad n M) (entC E ad n M') ad n sz [.ref (ad 1), .int a1] (r) := by
  unfold CtI
  refine body_of (by decide) "SurvivorPurse$Book" rfl (Nat.le_of_ble_eq_true rfl) ?_
  intro p e s m below meth c hsz S hr hlk hP hK hN ls hl
  subst hsz
  have hS : va_S (AA ad n s.heap.size) s.heap s.heap [] := va_S.rf
  have hl : lv_has ls 2 [(0, .ref (ad 1)), (1, .int a1)] := hl
  rw [F_X0_addMember] at hf
  refine lv_aload_n S.1 S.2.1 dX0_addMember_0 rfl (lv_at hl 0 rfl) ?_
  refine x_get (v := .ref (ad 4)) S hK hP w_lay_X0 (ci := 0) rfl 1 (ok_lt (ok_b1 hn)) (e0 (ok_b1 hn).1) 1 (by decide) w_fl_X0_20 rfl rfl dX0_addMember_1 ?_
  refine lv_aload_n S.1 S.2.1 dX0_addMember_4 rfl (lv_at hl 0 rfl) ?_
  refine x_get (v := .int (gI M 1 4)) S hK hP w_lay_X0 (ci := 0) rfl 1 (ok_lt (ok_b1 hn)) (e0 (ok_b1 hn).1) 4 (by decide) w_fl_X0_47 rfl rfl dX0_addMember_5 ?_
  obtain ⟨h1, hf⟩ := gd_some hf
  refine x_aald S hK hP 4 (ok_lt (ok_ma1 hn)) e9_1 2 rfl h1 dX0_addMember_8 ?_
  refine lv_iload_n S.1 S.2.1 dX0_addMember_9 rfl (lv_at hl 1 rfl) ?_
  obtain ⟨M2, gM2, hf⟩ := bn1_some hf
  refine y_Vv (As := [.int a1]) S hK hN hP hS rfl (ok_lt (ok_m1 hn (ib_lt h1))) (e1 (ok_m1 hn (ib_lt h1)).1) rfl (K_X1_begin l E ad n hI hn _ N (7 + (ix (gI M 1 4))) a1 (ok_m1 hn (ib_lt h1)) M M2 gM2) (cV 1 S w_co_yX1_begin w_in_X1 w_ml_X0_81 w_im_yX1_begin w_se_yX1_begin hd_X1_begin ⟨Nat.le_of_ble_eq_true rfl, Nat.le_of_ble_eq_true rfl⟩) hl.1 rfl rfl (Nat.le_of_ble_eq_true rfl) dX0_addMember_10 ⟨Nat.zero_le _, Nat.zero_le _⟩ (fun H locs hP hS => ?_)
  refine lv_aload_n S.1 S.2.1 dX0_addMember_13 rfl (lv_at hl 0 rfl) ?_
  refine lv_dup S.1 S.2.1 dX0_addMember_14 rfl ?_
  refine x_get (v := .int (gI M2 1 4)) S hK hP w_lay_X0 (ci := 0) rfl 1 (ok_lt (ok_b1 hn)) (e0 (ok_b1 hn).1) 4 (by decide) w_fl_X0_47 rfl rfl dX0_addMember_15 ?_
  refine lv_iconst (v := (1 : Int32)) S.1 S.2.1 dX0_addMember_18 (by decide) ?_
  refine lv_iadd S.1 S.2.1 dX0_addMember_19 ?_
  refine x_put S hI hK hP hS w_lay_X0 tyX0 tyX0_ok nmX0 (ci := 0) rfl 1 (ok_lt (ok_b1 hn)) (e0 (ok_b1 hn).1) 4 (by decide) w_fl_X0_47 rfl rfl rfl rfl (Nat.le_of_ble_eq_true rfl) (entC E ad n (sI M2 1 4 ((gI M2 1 4) + (1 : Int32)))) (h1_X0_4 (ok_b1 hn).1 ) (fun _ h => entC_sI _ h) dX0_addMember_20 (fun H locs hP hS => ?_)
  obtain ⟨M3, eM3, hf⟩ := bnd_some hf
  rw [← eM3] at hP
  refine lv_aload_n S.1 S.2.1 dX0_addMember_23 rfl (lv_at hl 0 rfl) ?_
  refine x_get (v := .int (gI M3 1 4)) S hK hP w_lay_X0 (ci := 0) rfl 1 (ok_lt (ok_b1 hn)) (e0 (ok_b1 hn).1) 4 (by decide) w_fl_X0_47 rfl rfl dX0_addMember_24 ?_
  refine lv_iconst (v := (1 : Int32)) S.1 S.2.1 dX0_addMember_27 (by decide) ?_
  refine lv_isub S.1 S.2.1 dX0_addMember_28 ?_
  cases hf
  exact r_i S hr hlk hP hS dX0_addMember_29

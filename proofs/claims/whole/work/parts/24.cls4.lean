def F_X0_draw (N : Nat) (c1 : Nat) (a2 : Int32) (M : MM) : Option (Int64 × MM) :=
  gd (ib (gI M c1 4) 6) (
  bnd (F_X5_parted (gL M (31 + (ix (gI M c1 4))) 4) ((gI M c1 3).toInt64) (gL M (31 + (ix (gI M c1 4))) 5)) (fun x2 =>
  bnd (sL M 1 10 ((gL M 1 10) - x2)) (fun M3 =>
  bn1 (F_X3_note N c1 (gI M3 1 7) x2 M3) (fun M4 =>
  if a2 = (0 : Int32) then
    some ((0 : Int64), M4)
  else
    bnd (sI M4 c1 14 ((gI M4 1 7) + (1 : Int32))) (fun M6 =>
    bn1 (F_X0_payOut N c1 x2 M6) (fun M7 =>
    some (x2, M7)
    ))
  ))))
def F_X5_buy_53 (N : Nat) (a1 : Int32) (a2 : Int32) (a3 : Int32) (a4 : Int32) (a5 : Int32) (a6 : Int32)  (M : MM) : Option (Int64 × MM) :=
    if a5 = (1 : Int32) then
      if bI (F_X0_isMember a1 M) = (0 : Int32) then
        some ((-1000000000000000 : Int64), M)
      else
        bn1 (F_X0_canBeLives N a2 a3 (1 : Int32) M) (fun x9 =>
        if bI x9 = (0 : Int32) then
          some ((-1000000000000000 : Int64), M)
        else
          bn1 (F_X0_rankFor N a2 a3 M) (fun x11 =>
          if x11 = (-1 : Int32) then
            some ((-1000000000000000 : Int64), M)
          else
            if gI M 1 6 < (40 : Int32) then
              bn2 (F_X0_addShare N a1 a2 a3 a4 x11 M) (fun x15 M14 =>
              gd (ib x15 40) (
              bnd (sI M14 (37 + (ix x15)) 5 a5) (fun M17 =>
              if a5 = (2 : Int32) then
                bnd (sI M17 (37 + (ix x15)) 9 ((gI M17 1 7) + a6)) (fun M19 =>
                some (x15.toInt64, M19)
                )
              else
                if a5 = (3 : Int32) then
                  bnd (sI M17 (37 + (ix x15)) 9 ((gI M17 1 7) + a6)) (fun M21 =>
                  some (x15.toInt64, M21)
                  )
                else
                  bnd (sI M17 (37 + (ix x15)) 9 (gI M17 1 7)) (fun M22 =>
                  some (x15.toInt64, M22)
                  )
              )))
            else
              some ((-1000000000000000 : Int64), M)
          )
        )
    else
      if bI (F_X0_isMember a1 M) = (0 : Int32) then
        some ((-1000000000000000 : Int64), M)
      else
        bn1 (F_X0_canBeLives N a2 (-1 : Int32) (0 : Int32) M) (fun x24 =>
        if bI x24 = (0 : Int32) then
          some ((-1000000000000000 : Int64), M)
        else
          bn1 (F_X0_rankFor N a2 (-1 : Int32) M) (fun x26 =>
          if x26 = (-1 : Int32) then
            some ((-1000000000000000 : Int64), M)
          else
            if gI M 1 6 < (40 : Int32) then
              bn2 (F_X0_addShare N a1 a2 (-1 : Int32) a4 x26 M) (fun x30 M29 =>
              gd (ib x30 40) (
              bnd (sI M29 (37 + (ix x30)) 5 a5) (fun M32 =>
              if a5 = (2 : Int32) then
                bnd (sI M32 (37 + (ix x30)) 9 ((gI M32 1 7) + a6)) (fun M34 =>
                some (x30.toInt64, M34)
                )
              else
                if a5 = (3 : Int32) then
                  bnd (sI M32 (37 + (ix x30)) 9 ((gI M32 1 7) + a6)) (fun M36 =>
                  some (x30.toInt64, M36)
                  )
                else
                  bnd (sI M32 (37 + (ix x30)) 9 (gI M32 1 7)) (fun M37 =>
                  some (x30.toInt64, M37)
                  )
              )))
            else
              some ((-1000000000000000 : Int64), M)
          )
        )
def F_X5_buy (N : Nat) (a1 : Int32) (a2 : Int32) (a3 : Int32) (a4 : Int32) (a5 : Int32) (a6 : Int32) (M : MM) : Option (Int64 × MM) :=
  if bI (F_X5_isWithin a5 (0 : Int32) (3 : Int32)) = (0 : Int32) then
    some ((-1000000000000000 : Int64), M)
  else
    if bI (F_X5_isWithin a4 (1 : Int32) (1000 : Int32)) = (0 : Int32) then
      some ((-1000000000000000 : Int64), M)
    else
      if a5 = (2 : Int32) then
        if bI (F_X5_isWithin a6 (1 : Int32) (30 : Int32)) = (0 : Int32) then
          some ((-1000000000000000 : Int64), M)
        else
          F_X5_buy_53 N a1 a2 a3 a4 a5 a6   M
      else
        if a5 = (3 : Int32) then
          if bI (F_X5_isWithin a6 (1 : Int32) (30 : Int32)) = (0 : Int32) then
            some ((-1000000000000000 : Int64), M)
          else
            F_X5_buy_53 N a1 a2 a3 a4 a5 a6   M
        else
          F_X5_buy_53 N a1 a2 a3 a4 a5 a6   M
def F_X5_split (N : Nat) (a1 : Int32) (a2 : Int32) (M : MM) : Option (Int64 × MM) :=
  if bI (F_X0_isShare a1 M) = (0 : Int32) then
    some ((-1000000000000000 : Int64), M)
  else
    if gI M 1 6 < (40 : Int32) then
      gd (ib a1 40) (
      if bI (F_X5_isWithin a2 (1 : Int32) ((gI M (37 + (ix a1)) 3) - (1 : Int32))) = (0 : Int32) then
        some ((-1000000000000000 : Int64), M)
      else
        bn2 (F_X0_addPart N (37 + (ix a1)) a2 M) (fun x6 M5 =>
        some (x6.toInt64, M5)
        )
      )
    else
      some ((-1000000000000000 : Int64), M)
def F_X0_learnDeath_35 (N : Nat) (a1 : Int32) (a2 : Int32) : Nat → Int64 → Int32 → MM → Option (Int64 × MM)
  | 0, _, _, _ => none
  | fu + 1, v3, v5, M =>
    if gI M 1 6 ≤ v5 then
      some (v3, M)
    else
      gd (ib v5 40) (
      if bI (F_X3_hasLife (37 + (ix v5)) a1 M) = (0 : Int32) then
        F_X0_learnDeath_35 N a1 a2 fu v3 (v5 + (1 : Int32)) M
      else
        bn1 (F_X0_isAllDead N (37 + (ix v5)) M) (fun x8 =>
        if bI x8 = (0 : Int32) then
          F_X0_learnDeath_35 N a1 a2 fu v3 (v5 + (1 : Int32)) M
        else
          bn2 (F_X0_settle N (37 + (ix v5)) M) (fun x11 M10 =>
          bnd (v3 + x11) (fun x12 =>
          F_X0_learnDeath_35 N a1 a2 fu x12 (v5 + (1 : Int32)) M10
          ))
        )
      )
def F_X0_learnDeath (N : Nat) (a1 : Int32) (a2 : Int32) (M : MM) : Option (Int64 × MM) :=
  gd (ib a1 24) (
  bnd (sI M (7 + (ix a1)) 5 (1 : Int32)) (fun M2 =>
  bnd (sI M2 (7 + (ix a1)) 6 a2) (fun M3 =>
  bnd (sI M3 (7 + (ix a1)) 4 (0 : Int32)) (fun M4 =>
  F_X0_learnDeath_35 N a1 a2 N (0 : Int64) (0 : Int32) M4
  ))))
def F_X0_drawAll_4 (N : Nat)  : Nat → Int64 → Int32 → MM → Option (Int64 × MM)
  | 0, _, _, _ => none
  | fu + 1, v1, v3, M =>
    if gI M 1 6 ≤ v3 then
      some (v1, M)
    else
      gd (ib v3 40) (
      bn1 (F_X0_howItIs N (37 + (ix v3)) M) (fun x3 =>
      if x3 = (0 : Int32) then
        bn2 (F_X0_draw N (37 + (ix v3)) (1 : Int32) M) (fun x6 M5 =>
        bnd (v1 + x6) (fun x7 =>
        bnd (sI M5 (37 + (ix v3)) 10 (0 : Int32)) (fun M8 =>
        F_X0_drawAll_4 N  fu x7 (v3 + (1 : Int32)) M8
        )))
      else
        if x3 = (1 : Int32) then
          bn2 (F_X0_draw N (37 + (ix v3)) (0 : Int32) M) (fun x11 M10 =>
          bnd (v1 + x11) (fun x12 =>
          if x3 = (3 : Int32) then
            bnd (sI M10 (37 + (ix v3)) 10 (0 : Int32)) (fun M14 =>
            F_X0_drawAll_4 N  fu x12 (v3 + (1 : Int32)) M14
            )
          else
            bnd (sI M10 (37 + (ix v3)) 10 ((gI M10 (37 + (ix v3)) 10) + (1 : Int32))) (fun M15 =>
            F_X0_drawAll_4 N  fu x12 (v3 + (1 : Int32)) M15
            )
          ))
        else
          if x3 = (3 : Int32) then
            bnd (sI M (37 + (ix v3)) 10 (0 : Int32)) (fun M17 =>
            F_X0_drawAll_4 N  fu v1 (v3 + (1 : Int32)) M17
            )
          else
            bnd (sI M (37 + (ix v3)) 10 ((gI M (37 + (ix v3)) 10) + (1 : Int32))) (fun M18 =>
            F_X0_drawAll_4 N  fu v1 (v3 + (1 : Int32)) M18
            )
      ))
def F_X0_drawAll (N : Nat)  (M : MM) : Option (Int64 × MM) :=
  F_X0_drawAll_4 N  N (0 : Int64) (0 : Int32) M
def F_X5_death (N : Nat) (a1 : Int32) (a2 : Int32) (M : MM) : Option (Int64 × MM) :=
  if bI (F_X0_isMember a1 M) = (0 : Int32) then
    some ((-1000000000000000 : Int64), M)
  else
    gd (ib a1 24) (
    if bo (gI M (7 + (ix a1)) 5) = (0 : Int32) then
      if bI (F_X5_isWithin a2 (gI M (7 + (ix a1)) 0) (gI M 1 7)) = (0 : Int32) then
        some ((-1000000000000000 : Int64), M)
      else
        bn2 (F_X0_learnDeath N a1 a2 M) (fun x6 M5 =>
        some (x6, M5)
        )
    else
      some ((-1000000000000000 : Int64), M)
    )
def F_X5_close (N : Nat) (a1 : Int32) (M : MM) : Option (Int64 × MM) :=
  if bI (F_X5_isWithin a1 (0 : Int32) (100000000 : Int32)) = (0 : Int32) then
    some ((-1000000000000000 : Int64), M)
  else
    if gI M 1 7 < (60 : Int32) then
      bn1 (F_X0_partPot N a1 M) (fun M3 =>
      bn2 (F_X0_drawAll N  M3) (fun x5 M4 =>
      bn1 (F_X0_beginNextYear N  M4) (fun M6 =>
      bn1 (F_X0_giveBack N  M6) (fun M7 =>
      some (x5, M7)
      ))))
    else
      some ((-1000000000000000 : Int64), M)
theorem hd_X0_draw : yX0_draw.cls ≠ "java/lang/invoke/MethodHandle" ∧ yX0_draw.cls ≠ "java/lang/invoke/VarHandle" ∧ (parseMethodDescriptor yX0_draw.desc).map (fun d => d.parameters.length) = some 2 := by decide +kernel
set_option maxHeartbeats 4000000 in
set_option maxRecDepth 100000 in
theorem K_X0_draw (l : Launch) (E : EE) (ad : Nat → Nat) (n : Nat) (hI : ad_I ad n) (hn : 117 ≤ n) (sz : Nat) (N : Nat) (c1 : Nat) (a2 : Int32) (P1 : ok 3 n c1) (M : MM) (r : Int64) (M' : MM) (hf : F_X0_draw N c1 a2 M = some (r, M')) : CtL l yX0_draw cX0_draw 6 2 62 E (entC E ad n M) (entC E ad n M') ad n sz [.ref (ad 1), .ref (ad c1), .int a2] (r) := by
  unfold CtL
  refine body_of (by decide) "SurvivorPurse$Book" rfl (Nat.le_of_ble_eq_true rfl) ?_
  intro p e s m below meth c hsz S hr hlk hP hK hN ls hl
  subst hsz
  have hS : va_S (AA ad n s.heap.size) s.heap s.heap [] := va_S.rf
  have hl : lv_has ls 6 [(0, .ref (ad 1)), (1, .ref (ad c1)), (2, .int a2)] := hl
  rw [F_X0_draw] at hf
  refine lv_aload_n S.1 S.2.1 dX0_draw_0 rfl (lv_at hl 0 rfl) ?_
  refine x_get (v := .ref (ad 5)) S hK hP w_lay_X0 (ci := 0) rfl 1 (ok_lt (ok_b1 hn)) (e0 (ok_b1 hn).1) 2 (by decide) w_fl_X0_26 rfl rfl dX0_draw_1 ?_
  refine lv_aload_n S.1 S.2.1 dX0_draw_4 rfl (lv_at hl 1 rfl) ?_
  refine x_get (v := .int (gI M c1 4)) S hK hP w_lay_X3 (ci := 3) rfl c1 (ok_lt P1) (e3 P1.1) 4 (by decide) w_fl_X0_101 rfl rfl dX0_draw_5 ?_
  obtain ⟨h1, hf⟩ := gd_some hf
  refine x_aald S hK hP 5 (ok_lt (ok_ra1 hn)) e10_1 3 rfl h1 dX0_draw_8 ?_
  refine lv_astore_n (lv' := [(3, .ref (ad (31 + (ix (gI M c1 4))))), (0, .ref (ad 1)), (1, .ref (ad c1)), (2, .int a2)]) S.1 S.2.1 dX0_draw_9 rfl hl (by decide) rfl (fun ls hl => ?_)
  refine lv_aload_n S.1 S.2.1 dX0_draw_10 rfl (lv_at hl 0 rfl) ?_
  refine x_get (v := .long (gL M (31 + (ix (gI M c1 4))) 4)) S hK hP w_lay_X2 (ci := 2) rfl (31 + (ix (gI M c1 4))) (ok_lt (ok_r1 hn (ib_lt h1))) (e2 (ok_r1 hn (ib_lt h1)).1) 4 (by decide) w_fl_X0_235 rfl rfl dX0_draw_11 ?_
  refine lv_aload_n S.1 S.2.1 dX0_draw_14 rfl (lv_at hl 2 rfl) ?_
  refine x_get (v := .int (gI M c1 3)) S hK hP w_lay_X3 (ci := 3) rfl c1 (ok_lt P1) (e3 P1.1) 3 (by decide) w_fl_X0_98 rfl rfl dX0_draw_15 ?_
  refine lv_i2l (v := (gI M c1 3).toInt64) S.1 S.2.1 dX0_draw_18 rfl ?_
  refine lv_aload_n S.1 S.2.1 dX0_draw_19 rfl (lv_at hl 0 rfl) ?_
  refine x_get (v := .long (gL M (31 + (ix (gI M c1 4))) 5)) S hK hP w_lay_X2 (ci := 2) rfl (31 + (ix (gI M c1 4))) (ok_lt (ok_r1 hn (ib_lt h1))) (e2 (ok_r1 hn (ib_lt h1)).1) 5 (by decide) w_fl_X0_232 rfl rfl dX0_draw_20 ?_
  refine y_Nl (As := [.long (gL M (31 + (ix (gI M c1 4))) 4), .long ((gI M c1 3).toInt64), .long (gL M (31 + (ix (gI M c1 4))) 5)]) S hK hN hP hS rfl (K_X5_parted l E ad n hI hn _ (gL M (31 + (ix (gI M c1 4))) 4) ((gI M c1 3).toInt64) (gL M (31 + (ix (gI M c1 4))) 5)  M _ rfl) (cN 3 S hN w_co_yX5_parted w_in_X5 w_ml_X0_174 w_st_yX5_parted hd_X5_parted ⟨Nat.le_of_ble_eq_true rfl, Nat.le_of_ble_eq_true rfl⟩) hl.1 rfl rfl (Nat.le_of_ble_eq_true rfl) dX0_draw_23 ⟨Nat.zero_le _, Nat.zero_le _⟩ (fun H locs hP hS => ?_)
  obtain ⟨x2, ex2, hf⟩ := bnd_some hf
  refine lv_rel ex2 ?_
  refine lv_lstore (lv' := [(4, .long x2), (3, .ref (ad (31 + (ix (gI M c1 4))))), (0, .ref (ad 1)), (1, .ref (ad c1)), (2, .int a2)]) S.1 S.2.1 dX0_draw_26 hl (by decide) rfl (fun ls hl => ?_)
  refine lv_aload_n S.1 S.2.1 dX0_draw_28 rfl (lv_at hl 2 rfl) ?_
  refine lv_dup S.1 S.2.1 dX0_draw_29 rfl ?_
  refine x_get (v := .long (gL M 1 10)) S hK hP w_lay_X0 (ci := 0) rfl 1 (ok_lt (ok_b1 hn)) (e0 (ok_b1 hn).1) 10 (by decide) w_fl_X0_62 rfl rfl dX0_draw_30 ?_
  refine lv_lload S.1 S.2.1 dX0_draw_33 (lv_at hl 0 rfl) ?_
  refine lv_lsub S.1 S.2.1 dX0_draw_35 ?_
  refine x_put S hI hK hP hS w_lay_X0 tyX0 tyX0_ok nmX0 (ci := 0) rfl 1 (ok_lt (ok_b1 hn)) (e0 (ok_b1 hn).1) 10 (by decide) w_fl_X0_62 rfl rfl rfl rfl (Nat.le_of_ble_eq_true rfl) (entC E ad n (sL M 1 10 ((gL M 1 10) - x2))) (h1_X0_10 (ok_b1 hn).1 ) (fun _ h => entC_sL _ h) dX0_draw_36 (fun H locs hP hS => ?_)
  obtain ⟨M3, eM3, hf⟩ := bnd_some hf
  rw [← eM3] at hP
  refine lv_aload_n S.1 S.2.1 dX0_draw_39 rfl (lv_at hl 3 rfl) ?_
  refine lv_aload_n S.1 S.2.1 dX0_draw_40 rfl (lv_at hl 2 rfl) ?_
  refine x_get (v := .int (gI M3 1 7)) S hK hP w_lay_X0 (ci := 0) rfl 1 (ok_lt (ok_b1 hn)) (e0 (ok_b1 hn).1) 7 (by decide) w_fl_X0_56 rfl rfl dX0_draw_41 ?_
  refine lv_lload S.1 S.2.1 dX0_draw_44 (lv_at hl 0 rfl) ?_
  obtain ⟨M4, gM4, hf⟩ := bn1_some hf
  refine y_Vv (As := [.int (gI M3 1 7), .long x2]) S hK hN hP hS rfl (ok_lt P1) (e3 P1.1) rfl (K_X3_note l E ad n hI hn _ N c1 (gI M3 1 7) x2 P1 M3 M4 gM4) (cV 2 S w_co_yX3_note w_in_X3 w_ml_X0_242 w_im_yX3_note w_se_yX3_note hd_X3_note ⟨Nat.le_of_ble_eq_true rfl, Nat.le_of_ble_eq_true rfl⟩) hl.1 rfl rfl (Nat.le_of_ble_eq_true rfl) dX0_draw_46 ⟨Nat.zero_le _, Nat.zero_le _⟩ (fun H locs hP hS => ?_)
  refine lv_iload_n S.1 S.2.1 dX0_draw_49 rfl (lv_at hl 4 rfl) ?_
  refine lv_if_ne (tgt := 55) S.1 S.2.1 dX0_draw_50 (by decide) (fun h5 => ?_) (fun h5 => ?_)
  · replace hf := iff_ h5 hf
    refine lv_aload_n S.1 S.2.1 dX0_draw_55 rfl (lv_at hl 3 rfl) ?_
    refine lv_aload_n S.1 S.2.1 dX0_draw_56 rfl (lv_at hl 2 rfl) ?_
    refine x_get (v := .int (gI M4 1 7)) S hK hP w_lay_X0 (ci := 0) rfl 1 (ok_lt (ok_b1 hn)) (e0 (ok_b1 hn).1) 7 (by decide) w_fl_X0_56 rfl rfl dX0_draw_57 ?_
    refine lv_iconst (v := (1 : Int32)) S.1 S.2.1 dX0_draw_60 (by decide) ?_
    refine lv_iadd S.1 S.2.1 dX0_draw_61 ?_
    refine x_put S hI hK hP hS w_lay_X3 tyX3 tyX3_ok nmX3 (ci := 3) rfl c1 (ok_lt P1) (e3 P1.1) 14 (by decide) w_fl_X0_246 rfl rfl rfl rfl (Nat.le_of_ble_eq_true rfl) (entC E ad n (sI M4 c1 14 ((gI M4 1 7) + (1 : Int32)))) (h1_X3_14 P1.1 ) (fun _ h => entC_sI _ h) dX0_draw_62 (fun H locs hP hS => ?_)
    obtain ⟨M6, eM6, hf⟩ := bnd_some hf
    rw [← eM6] at hP
    refine lv_aload_n S.1 S.2.1 dX0_draw_65 rfl (lv_at hl 2 rfl) ?_
    refine lv_aload_n S.1 S.2.1 dX0_draw_66 rfl (lv_at hl 3 rfl) ?_
    refine lv_lload S.1 S.2.1 dX0_draw_67 (lv_at hl 0 rfl) ?_
    obtain ⟨M7, gM7, hf⟩ := bn1_some hf
    refine y_Vv (As := [.ref (ad c1), .long x2]) S hK hN hP hS rfl (ok_lt (ok_b1 hn)) (e0 (ok_b1 hn).1) rfl (K_X0_payOut l E ad n hI hn _ N c1 x2 P1 M6 M7 gM7) (cV 2 S w_co_yX0_payOut w_in_X0 w_ml_X0_201 w_im_yX0_payOut w_se_yX0_payOut hd_X0_payOut ⟨Nat.le_of_ble_eq_true rfl, Nat.le_of_ble_eq_true rfl⟩) hl.1 rfl rfl (Nat.le_of_ble_eq_true rfl) dX0_draw_69 ⟨Nat.zero_le _, Nat.zero_le _⟩ (fun H locs hP hS => ?_)
    refine lv_lload S.1 S.2.1 dX0_draw_72 (lv_at hl 0 rfl) ?_
    cases hf
    exact r_l S hr hlk hP hS dX0_draw_74
  · replace hf := ift h5 hf
    refine lv_lconst (v := (0 : Int64)) S.1 S.2.1 dX0_draw_53 (by decide) ?_
    cases hf
    exact r_l S hr hlk hP hS dX0_draw_54
theorem hd_X5_buy : yX5_buy.cls ≠ "java/lang/invoke/MethodHandle" ∧ yX5_buy.cls ≠ "java/lang/invoke/VarHandle" ∧ (parseMethodDescriptor yX5_buy.desc).map (fun d => d.parameters.length) = some 6 := by decide +kernel
set_option maxHeartbeats 4000000 in
set_option maxRecDepth 100000 in
theorem L_X5_buy_53 (l : Launch) (E : EE) (ad : Nat → Nat) (n : Nat) (hI : ad_I ad n) (hn : 117 ≤ n) (N : Nat) (a1 : Int32) (a2 : Int32) (a3 : Int32) (a4 : Int32) (a5 : Int32) (a6 : Int32)  {p : Program} {e : Env} {s : State} {m : MethodId} {below : List Frame} {meth : Method} {c : Code} (S : CallFix p m c cX5_buy 11 s [.ref (ad 0), .int a1, .int a2, .int a3, .int a4, .int a5, .int a6].toArray bg_B "SurvivorPurse") (hr : meth.sig.returnType = (some .long)) (hlk : meth.locks = false) (hK : va_K E.1 vwCl (tysE E) s) (hN : NW s) (r : Int64) (M' : MM) : ∀   (M : MM), F_X5_buy_53 N a1 a2 a3 a4 a5 a6  M = some (r, M') → ∀ (H : Heap) (locs : List Loc) (ls : Array Slot), va_P E.1 vwCl (mw (entC E ad n M) ad n) H → va_S (AA ad n s.heap.size) s.heap H locs → lv_has ls 11 [(0, .ref (ad 0)), (1, .int a1), (2, .int a2), (3, .int a3), (4, .int a4), (5, .int a5), (6, .int a6)] → W p l e { frames := 3, cells := 0, slots := 0, locals := 71 } s m [.ref (ad 0), .int a1, .int a2, .int a3, .int a4, .int a5, .int a6].toArray below meth c H locs 0 0 (MQ below (va_Ql (fun r0 (_ : Unit) => r0 = r) (fun _ t => QB E (entC E ad n M') ad n t) (AA ad n s.heap.size)) [.ref (ad 0), .int a1, .int a2, .int a3, .int a4, .int a5, .int a6].toArray s 0 0 (AA ad n s.heap.size)) (F0 m 53 ls []) := by
  intro M hf H locs ls hP hS hl
  rw [F_X5_buy_53] at hf
  refine lv_iload S.1 S.2.1 dX5_buy_53 (lv_at hl 5 rfl) ?_
  refine lv_iconst (v := (1 : Int32)) S.1 S.2.1 dX5_buy_55 (by decide) ?_
  refine lv_icmp_ne (tgt := 63) S.1 S.2.1 dX5_buy_56 (by decide) (fun h7 => ?_) (fun h7 => ?_)
  · replace hf := iff_ h7 hf
    refine lv_iconst (v := (-1 : Int32)) S.1 S.2.1 dX5_buy_63 (by decide) ?_
    refine lv_istore (lv' := [(7, .int (-1 : Int32)), (0, .ref (ad 0)), (1, .int a1), (2, .int a2), (3, .int a3), (4, .int a4), (5, .int a5), (6, .int a6)]) S.1 S.2.1 dX5_buy_64 hl (by decide) rfl (fun ls hl => ?_)
    refine lv_aload_n S.1 S.2.1 dX5_buy_66 rfl (lv_at hl 1 rfl) ?_
    refine x_get (v := .ref (ad 1)) S hK hP w_lay_X5 (ci := 5) rfl 0 (ok_lt (ok_p hn)) (e5 (ok_p hn).1) 0 (by decide) w_fl_X5_10 rfl rfl dX5_buy_67 ?_
    refine lv_iload_n S.1 S.2.1 dX5_buy_70 rfl (lv_at hl 2 rfl) ?_
    refine y_Vi (As := [.int a1]) S hK hN hP hS rfl (ok_lt (ok_b1 hn)) (e0 (ok_b1 hn).1) rfl (K_X0_isMember l E ad n hI hn _ a1  M _ rfl) (cV 1 S w_co_yX0_isMember w_in_X0 w_ml_X5_85 w_im_yX0_isMember w_se_yX0_isMember hd_X0_isMember ⟨Nat.le_of_ble_eq_true rfl, Nat.le_of_ble_eq_true rfl⟩) hl.1 rfl rfl (Nat.le_of_ble_eq_true rfl) dX5_buy_71 ⟨Nat.zero_le _, Nat.zero_le _⟩ (fun H locs hP hS => ?_)
    refine lv_if_eq (tgt := 101) S.1 S.2.1 dX5_buy_74 (by decide) (fun h23 => ?_) (fun h23 => ?_)
    · replace hf := ift h23 hf
      refine lv_ldc2 (own := "SurvivorPurse") (v := (-1000000000000000 : Int64)) S.1 S.2.1 S.2.2.2.1 (S.2.2.2.2 _ w_kl_X5_34) dX5_buy_101 ?_
      cases hf
      exact r_l S hr hlk hP hS dX5_buy_104
    · replace hf := iff_ h23 hf
      refine lv_aload_n S.1 S.2.1 dX5_buy_77 rfl (lv_at hl 1 rfl) ?_
      refine x_get (v := .ref (ad 1)) S hK hP w_lay_X5 (ci := 5) rfl 0 (ok_lt (ok_p hn)) (e5 (ok_p hn).1) 0 (by decide) w_fl_X5_10 rfl rfl dX5_buy_78 ?_
      refine lv_iload_n S.1 S.2.1 dX5_buy_81 rfl (lv_at hl 3 rfl) ?_
      refine lv_iload S.1 S.2.1 dX5_buy_82 (lv_at hl 0 rfl) ?_
      refine lv_iload S.1 S.2.1 dX5_buy_84 (lv_at hl 6 rfl) ?_
      refine lv_iconst (v := (1 : Int32)) S.1 S.2.1 dX5_buy_86 (by decide) ?_
      refine lv_icmp_ne (tgt := 94) S.1 S.2.1 dX5_buy_87 (by decide) (fun _ => ?_) (fun q9 => absurd q9 h7)
      refine lv_iconst (v := (0 : Int32)) S.1 S.2.1 dX5_buy_94 (by decide) ?_
      obtain ⟨x24, gx24, hf⟩ := bn1_some hf
      refine y_Vi (As := [.int a2, .int (-1 : Int32), .int (0 : Int32)]) S hK hN hP hS rfl (ok_lt (ok_b1 hn)) (e0 (ok_b1 hn).1) rfl (K_X0_canBeLives l E ad n hI hn _ N a2 (-1 : Int32) (0 : Int32)  M x24 gx24) (cV 3 S w_co_yX0_canBeLives w_in_X0 w_ml_X5_114 w_im_yX0_canBeLives w_se_yX0_canBeLives hd_X0_canBeLives ⟨Nat.le_of_ble_eq_true rfl, Nat.le_of_ble_eq_true rfl⟩) hl.1 rfl rfl (Nat.le_of_ble_eq_true rfl) dX5_buy_95 ⟨Nat.zero_le _, Nat.zero_le _⟩ (fun H locs hP hS => ?_)
      refine lv_if_ne (tgt := 105) S.1 S.2.1 dX5_buy_98 (by decide) (fun h25 => ?_) (fun h25 => ?_)
      · replace hf := iff_ h25 hf
        refine lv_aload_n S.1 S.2.1 dX5_buy_105 rfl (lv_at hl 1 rfl) ?_
        refine x_get (v := .ref (ad 1)) S hK hP w_lay_X5 (ci := 5) rfl 0 (ok_lt (ok_p hn)) (e5 (ok_p hn).1) 0 (by decide) w_fl_X5_10 rfl rfl dX5_buy_106 ?_
        refine lv_iload_n S.1 S.2.1 dX5_buy_109 rfl (lv_at hl 3 rfl) ?_
        refine lv_iload S.1 S.2.1 dX5_buy_110 (lv_at hl 0 rfl) ?_
        obtain ⟨x26, gx26, hf⟩ := bn1_some hf
        refine y_Vi (As := [.int a2, .int (-1 : Int32)]) S hK hN hP hS rfl (ok_lt (ok_b1 hn)) (e0 (ok_b1 hn).1) rfl (K_X0_rankFor l E ad n hI hn _ N a2 (-1 : Int32)  M x26 gx26) (cV 2 S w_co_yX0_rankFor w_in_X0 w_ml_X5_118 w_im_yX0_rankFor w_se_yX0_rankFor hd_X0_rankFor ⟨Nat.le_of_ble_eq_true rfl, Nat.le_of_ble_eq_true rfl⟩) hl.1 rfl rfl (Nat.le_of_ble_eq_true rfl) dX5_buy_112 ⟨Nat.zero_le _, Nat.zero_le _⟩ (fun H locs hP hS => ?_)
        refine lv_istore (lv' := [(8, .int x26), (7, .int (-1 : Int32)), (0, .ref (ad 0)), (1, .int a1), (2, .int a2), (3, .int a3), (4, .int a4), (5, .int a5), (6, .int a6)]) S.1 S.2.1 dX5_buy_115 hl (by decide) rfl (fun ls hl => ?_)
        refine lv_iload S.1 S.2.1 dX5_buy_117 (lv_at hl 0 rfl) ?_
        refine lv_iconst (v := (-1 : Int32)) S.1 S.2.1 dX5_buy_119 (by decide) ?_
        refine lv_icmp_eq (tgt := 135) S.1 S.2.1 dX5_buy_120 (by decide) (fun h27 => ?_) (fun h27 => ?_)
        · replace hf := ift h27 hf
          refine lv_ldc2 (own := "SurvivorPurse") (v := (-1000000000000000 : Int64)) S.1 S.2.1 S.2.2.2.1 (S.2.2.2.2 _ w_kl_X5_34) dX5_buy_135 ?_
          cases hf
          exact r_l S hr hlk hP hS dX5_buy_138
        · replace hf := iff_ h27 hf
          refine lv_aload_n S.1 S.2.1 dX5_buy_123 rfl (lv_at hl 2 rfl) ?_
          refine x_get (v := .ref (ad 1)) S hK hP w_lay_X5 (ci := 5) rfl 0 (ok_lt (ok_p hn)) (e5 (ok_p hn).1) 0 (by decide) w_fl_X5_10 rfl rfl dX5_buy_124 ?_
          refine x_get (v := .int (gI M 1 6)) S hK hP w_lay_X0 (ci := 0) rfl 1 (ok_lt (ok_b1 hn)) (e0 (ok_b1 hn).1) 6 (by decide) w_fl_X5_122 rfl rfl dX5_buy_127 ?_
          refine lv_bipush (v := (40 : Int32)) S.1 S.2.1 dX5_buy_130 (by decide) ?_
          refine lv_icmp_lt (tgt := 139) S.1 S.2.1 dX5_buy_132 (by decide) (fun h28 => ?_) (fun h28 => ?_)
          · replace hf := ift h28 hf
            refine lv_aload_n S.1 S.2.1 dX5_buy_139 rfl (lv_at hl 2 rfl) ?_
            refine x_get (v := .ref (ad 1)) S hK hP w_lay_X5 (ci := 5) rfl 0 (ok_lt (ok_p hn)) (e5 (ok_p hn).1) 0 (by decide) w_fl_X5_10 rfl rfl dX5_buy_140 ?_
            refine lv_iload_n S.1 S.2.1 dX5_buy_143 rfl (lv_at hl 3 rfl) ?_
            refine lv_iload_n S.1 S.2.1 dX5_buy_144 rfl (lv_at hl 4 rfl) ?_
            refine lv_iload S.1 S.2.1 dX5_buy_145 (lv_at hl 1 rfl) ?_
            refine lv_iload S.1 S.2.1 dX5_buy_147 (lv_at hl 6 rfl) ?_
            refine lv_iload S.1 S.2.1 dX5_buy_149 (lv_at hl 0 rfl) ?_
            obtain ⟨x30, M29, gM29, hf⟩ := bn2_some hf
            refine y_Vi (As := [.int a1, .int a2, .int (-1 : Int32), .int a4, .int x26]) S hK hN hP hS rfl (ok_lt (ok_b1 hn)) (e0 (ok_b1 hn).1) rfl (K_X0_addShare l E ad n hI hn _ N a1 a2 (-1 : Int32) a4 x26  M x30 M29 gM29) (cV 5 S w_co_yX0_addShare w_in_X0 w_ml_X5_125 w_im_yX0_addShare w_se_yX0_addShare hd_X0_addShare ⟨Nat.le_of_ble_eq_true rfl, Nat.le_of_ble_eq_true rfl⟩) hl.1 rfl rfl (Nat.le_of_ble_eq_true rfl) dX5_buy_151 ⟨Nat.zero_le _, Nat.zero_le _⟩ (fun H locs hP hS => ?_)
            refine lv_istore (lv' := [(9, .int x30), (8, .int x26), (7, .int (-1 : Int32)), (0, .ref (ad 0)), (1, .int a1), (2, .int a2), (3, .int a3), (4, .int a4), (5, .int a5), (6, .int a6)]) S.1 S.2.1 dX5_buy_154 hl (by decide) rfl (fun ls hl => ?_)
            refine lv_aload_n S.1 S.2.1 dX5_buy_156 rfl (lv_at hl 3 rfl) ?_
            refine x_get (v := .ref (ad 1)) S hK hP w_lay_X5 (ci := 5) rfl 0 (ok_lt (ok_p hn)) (e5 (ok_p hn).1) 0 (by decide) w_fl_X5_10 rfl rfl dX5_buy_157 ?_
            refine x_get (v := .ref (ad 6)) S hK hP w_lay_X0 (ci := 0) rfl 1 (ok_lt (ok_b1 hn)) (e0 (ok_b1 hn).1) 3 (by decide) w_fl_X5_129 rfl rfl dX5_buy_160 ?_
            refine lv_iload S.1 S.2.1 dX5_buy_163 (lv_at hl 0 rfl) ?_
            obtain ⟨h31, hf⟩ := gd_some hf
            refine x_aald S hK hP 6 (ok_lt (ok_sa1 hn)) e11_1 4 rfl h31 dX5_buy_165 ?_
            refine lv_astore (lv' := [(10, .ref (ad (37 + (ix x30)))), (9, .int x30), (8, .int x26), (7, .int (-1 : Int32)), (0, .ref (ad 0)), (1, .int a1), (2, .int a2), (3, .int a3), (4, .int a4), (5, .int a5), (6, .int a6)]) S.1 S.2.1 dX5_buy_166 hl (by decide) rfl (fun ls hl => ?_)
            refine lv_aload S.1 S.2.1 dX5_buy_168 (lv_at hl 0 rfl) ?_
            refine lv_iload S.1 S.2.1 dX5_buy_170 (lv_at hl 9 rfl) ?_
            refine x_put S hI hK hP hS w_lay_X3 tyX3 tyX3_ok nmX3 (ci := 3) rfl (37 + (ix x30)) (ok_lt (ok_s1 hn (ib_lt h31))) (e3 (ok_s1 hn (ib_lt h31)).1) 5 (by decide) w_fl_X5_133 rfl rfl rfl rfl (Nat.le_of_ble_eq_true rfl) (entC E ad n (sI M29 (37 + (ix x30)) 5 a5)) (h1_X3_5 (ok_s1 hn (ib_lt h31)).1 ) (fun _ h => entC_sI _ h) dX5_buy_172 (fun H locs hP hS => ?_)
            obtain ⟨M32, eM32, hf⟩ := bnd_some hf
            rw [← eM32] at hP
            refine lv_aload S.1 S.2.1 dX5_buy_175 (lv_at hl 0 rfl) ?_
            refine lv_iload S.1 S.2.1 dX5_buy_177 (lv_at hl 9 rfl) ?_
            refine lv_iconst (v := (2 : Int32)) S.1 S.2.1 dX5_buy_179 (by decide) ?_
            refine lv_icmp_eq (tgt := 189) S.1 S.2.1 dX5_buy_180 (by decide) (fun h33 => ?_) (fun h33 => ?_)
            · replace hf := ift h33 hf
              refine lv_aload_n S.1 S.2.1 dX5_buy_189 rfl (lv_at hl 4 rfl) ?_
              refine x_get (v := .ref (ad 1)) S hK hP w_lay_X5 (ci := 5) rfl 0 (ok_lt (ok_p hn)) (e5 (ok_p hn).1) 0 (by decide) w_fl_X5_10 rfl rfl dX5_buy_190 ?_
              refine x_get (v := .int (gI M32 1 7)) S hK hP w_lay_X0 (ci := 0) rfl 1 (ok_lt (ok_b1 hn)) (e0 (ok_b1 hn).1) 7 (by decide) w_fl_X5_75 rfl rfl dX5_buy_193 ?_
              refine lv_iload S.1 S.2.1 dX5_buy_196 (lv_at hl 10 rfl) ?_
              refine lv_iadd S.1 S.2.1 dX5_buy_198 ?_
              refine lv_goto (tgt := 209) S.1 S.2.1 dX5_buy_199 (by decide) ?_
              refine x_put S hI hK hP hS w_lay_X3 tyX3 tyX3_ok nmX3 (ci := 3) rfl (37 + (ix x30)) (ok_lt (ok_s1 hn (ib_lt h31))) (e3 (ok_s1 hn (ib_lt h31)).1) 9 (by decide) w_fl_X5_138 rfl rfl rfl rfl (Nat.le_of_ble_eq_true rfl) (entC E ad n (sI M32 (37 + (ix x30)) 9 ((gI M32 1 7) + a6))) (h1_X3_9 (ok_s1 hn (ib_lt h31)).1 ) (fun _ h => entC_sI _ h) dX5_buy_209 (fun H locs hP hS => ?_)
              obtain ⟨M34, eM34, hf⟩ := bnd_some hf
              rw [← eM34] at hP
              refine lv_iload S.1 S.2.1 dX5_buy_212 (lv_at hl 1 rfl) ?_
              refine lv_i2l (v := x30.toInt64) S.1 S.2.1 dX5_buy_214 rfl ?_
              cases hf
              exact r_l S hr hlk hP hS dX5_buy_215
            · replace hf := iff_ h33 hf
              refine lv_iload S.1 S.2.1 dX5_buy_183 (lv_at hl 9 rfl) ?_
              refine lv_iconst (v := (3 : Int32)) S.1 S.2.1 dX5_buy_185 (by decide) ?_
              refine lv_icmp_ne (tgt := 202) S.1 S.2.1 dX5_buy_186 (by decide) (fun h35 => ?_) (fun h35 => ?_)
              · replace hf := iff_ h35 hf
                refine lv_aload_n S.1 S.2.1 dX5_buy_202 rfl (lv_at hl 4 rfl) ?_
                refine x_get (v := .ref (ad 1)) S hK hP w_lay_X5 (ci := 5) rfl 0 (ok_lt (ok_p hn)) (e5 (ok_p hn).1) 0 (by decide) w_fl_X5_10 rfl rfl dX5_buy_203 ?_
                refine x_get (v := .int (gI M32 1 7)) S hK hP w_lay_X0 (ci := 0) rfl 1 (ok_lt (ok_b1 hn)) (e0 (ok_b1 hn).1) 7 (by decide) w_fl_X5_75 rfl rfl dX5_buy_206 ?_
                refine x_put S hI hK hP hS w_lay_X3 tyX3 tyX3_ok nmX3 (ci := 3) rfl (37 + (ix x30)) (ok_lt (ok_s1 hn (ib_lt h31))) (e3 (ok_s1 hn (ib_lt h31)).1) 9 (by decide) w_fl_X5_138 rfl rfl rfl rfl (Nat.le_of_ble_eq_true rfl) (entC E ad n (sI M32 (37 + (ix x30)) 9 (gI M32 1 7))) (h1_X3_9 (ok_s1 hn (ib_lt h31)).1 ) (fun _ h => entC_sI _ h) dX5_buy_209 (fun H locs hP hS => ?_)
                obtain ⟨M37, eM37, hf⟩ := bnd_some hf
                rw [← eM37] at hP
                refine lv_iload S.1 S.2.1 dX5_buy_212 (lv_at hl 1 rfl) ?_
                refine lv_i2l (v := x30.toInt64) S.1 S.2.1 dX5_buy_214 rfl ?_
                cases hf
                exact r_l S hr hlk hP hS dX5_buy_215
              · replace hf := ift h35 hf
                refine lv_aload_n S.1 S.2.1 dX5_buy_189 rfl (lv_at hl 4 rfl) ?_
                refine x_get (v := .ref (ad 1)) S hK hP w_lay_X5 (ci := 5) rfl 0 (ok_lt (ok_p hn)) (e5 (ok_p hn).1) 0 (by decide) w_fl_X5_10 rfl rfl dX5_buy_190 ?_
                refine x_get (v := .int (gI M32 1 7)) S hK hP w_lay_X0 (ci := 0) rfl 1 (ok_lt (ok_b1 hn)) (e0 (ok_b1 hn).1) 7 (by decide) w_fl_X5_75 rfl rfl dX5_buy_193 ?_
                refine lv_iload S.1 S.2.1 dX5_buy_196 (lv_at hl 10 rfl) ?_
                refine lv_iadd S.1 S.2.1 dX5_buy_198 ?_
                refine lv_goto (tgt := 209) S.1 S.2.1 dX5_buy_199 (by decide) ?_
                refine x_put S hI hK hP hS w_lay_X3 tyX3 tyX3_ok nmX3 (ci := 3) rfl (37 + (ix x30)) (ok_lt (ok_s1 hn (ib_lt h31))) (e3 (ok_s1 hn (ib_lt h31)).1) 9 (by decide) w_fl_X5_138 rfl rfl rfl rfl (Nat.le_of_ble_eq_true rfl) (entC E ad n (sI M32 (37 + (ix x30)) 9 ((gI M32 1 7) + a6))) (h1_X3_9 (ok_s1 hn (ib_lt h31)).1 ) (fun _ h => entC_sI _ h) dX5_buy_209 (fun H locs hP hS => ?_)
                obtain ⟨M36, eM36, hf⟩ := bnd_some hf
                rw [← eM36] at hP
                refine lv_iload S.1 S.2.1 dX5_buy_212 (lv_at hl 1 rfl) ?_
                refine lv_i2l (v := x30.toInt64) S.1 S.2.1 dX5_buy_214 rfl ?_
                cases hf
                exact r_l S hr hlk hP hS dX5_buy_215
          · replace hf := iff_ h28 hf
            refine lv_ldc2 (own := "SurvivorPurse") (v := (-1000000000000000 : Int64)) S.1 S.2.1 S.2.2.2.1 (S.2.2.2.2 _ w_kl_X5_34) dX5_buy_135 ?_
            cases hf
            exact r_l S hr hlk hP hS dX5_buy_138
      · replace hf := ift h25 hf
        refine lv_ldc2 (own := "SurvivorPurse") (v := (-1000000000000000 : Int64)) S.1 S.2.1 S.2.2.2.1 (S.2.2.2.2 _ w_kl_X5_34) dX5_buy_101 ?_
        cases hf
        exact r_l S hr hlk hP hS dX5_buy_104
  · replace hf := ift h7 hf
    refine lv_iload_n S.1 S.2.1 dX5_buy_59 rfl (lv_at hl 3 rfl) ?_
    refine lv_goto (tgt := 64) S.1 S.2.1 dX5_buy_60 (by decide) ?_
    refine lv_istore (lv' := [(7, .int a3), (0, .ref (ad 0)), (1, .int a1), (2, .int a2), (3, .int a3), (4, .int a4), (5, .int a5), (6, .int a6)]) S.1 S.2.1 dX5_buy_64 hl (by decide) rfl (fun ls hl => ?_)
    refine lv_aload_n S.1 S.2.1 dX5_buy_66 rfl (lv_at hl 1 rfl) ?_
    refine x_get (v := .ref (ad 1)) S hK hP w_lay_X5 (ci := 5) rfl 0 (ok_lt (ok_p hn)) (e5 (ok_p hn).1) 0 (by decide) w_fl_X5_10 rfl rfl dX5_buy_67 ?_
    refine lv_iload_n S.1 S.2.1 dX5_buy_70 rfl (lv_at hl 2 rfl) ?_
    refine y_Vi (As := [.int a1]) S hK hN hP hS rfl (ok_lt (ok_b1 hn)) (e0 (ok_b1 hn).1) rfl (K_X0_isMember l E ad n hI hn _ a1  M _ rfl) (cV 1 S w_co_yX0_isMember w_in_X0 w_ml_X5_85 w_im_yX0_isMember w_se_yX0_isMember hd_X0_isMember ⟨Nat.le_of_ble_eq_true rfl, Nat.le_of_ble_eq_true rfl⟩) hl.1 rfl rfl (Nat.le_of_ble_eq_true rfl) dX5_buy_71 ⟨Nat.zero_le _, Nat.zero_le _⟩ (fun H locs hP hS => ?_)
    refine lv_if_eq (tgt := 101) S.1 S.2.1 dX5_buy_74 (by decide) (fun h8 => ?_) (fun h8 => ?_)
    · replace hf := ift h8 hf
      refine lv_ldc2 (own := "SurvivorPurse") (v := (-1000000000000000 : Int64)) S.1 S.2.1 S.2.2.2.1 (S.2.2.2.2 _ w_kl_X5_34) dX5_buy_101 ?_
      cases hf
      exact r_l S hr hlk hP hS dX5_buy_104
    · replace hf := iff_ h8 hf
      refine lv_aload_n S.1 S.2.1 dX5_buy_77 rfl (lv_at hl 1 rfl) ?_
      refine x_get (v := .ref (ad 1)) S hK hP w_lay_X5 (ci := 5) rfl 0 (ok_lt (ok_p hn)) (e5 (ok_p hn).1) 0 (by decide) w_fl_X5_10 rfl rfl dX5_buy_78 ?_
      refine lv_iload_n S.1 S.2.1 dX5_buy_81 rfl (lv_at hl 3 rfl) ?_
      refine lv_iload S.1 S.2.1 dX5_buy_82 (lv_at hl 0 rfl) ?_
      refine lv_iload S.1 S.2.1 dX5_buy_84 (lv_at hl 6 rfl) ?_
      refine lv_iconst (v := (1 : Int32)) S.1 S.2.1 dX5_buy_86 (by decide) ?_
      refine lv_icmp_ne (tgt := 94) S.1 S.2.1 dX5_buy_87 (by decide) (fun q9 => absurd h7 q9) (fun _ => ?_)
      refine lv_iconst (v := (1 : Int32)) S.1 S.2.1 dX5_buy_90 (by decide) ?_
      refine lv_goto (tgt := 95) S.1 S.2.1 dX5_buy_91 (by decide) ?_
      obtain ⟨x9, gx9, hf⟩ := bn1_some hf
      refine y_Vi (As := [.int a2, .int a3, .int (1 : Int32)]) S hK hN hP hS rfl (ok_lt (ok_b1 hn)) (e0 (ok_b1 hn).1) rfl (K_X0_canBeLives l E ad n hI hn _ N a2 a3 (1 : Int32)  M x9 gx9) (cV 3 S w_co_yX0_canBeLives w_in_X0 w_ml_X5_114 w_im_yX0_canBeLives w_se_yX0_canBeLives hd_X0_canBeLives ⟨Nat.le_of_ble_eq_true rfl, Nat.le_of_ble_eq_true rfl⟩) hl.1 rfl rfl (Nat.le_of_ble_eq_true rfl) dX5_buy_95 ⟨Nat.zero_le _, Nat.zero_le _⟩ (fun H locs hP hS => ?_)
      refine lv_if_ne (tgt := 105) S.1 S.2.1 dX5_buy_98 (by decide) (fun h10 => ?_) (fun h10 => ?_)
      · replace hf := iff_ h10 hf
        refine lv_aload_n S.1 S.2.1 dX5_buy_105 rfl (lv_at hl 1 rfl) ?_
        refine x_get (v := .ref (ad 1)) S hK hP w_lay_X5 (ci := 5) rfl 0 (ok_lt (ok_p hn)) (e5 (ok_p hn).1) 0 (by decide) w_fl_X5_10 rfl rfl dX5_buy_106 ?_
        refine lv_iload_n S.1 S.2.1 dX5_buy_109 rfl (lv_at hl 3 rfl) ?_
        refine lv_iload S.1 S.2.1 dX5_buy_110 (lv_at hl 0 rfl) ?_
        obtain ⟨x11, gx11, hf⟩ := bn1_some hf
        refine y_Vi (As := [.int a2, .int a3]) S hK hN hP hS rfl (ok_lt (ok_b1 hn)) (e0 (ok_b1 hn).1) rfl (K_X0_rankFor l E ad n hI hn _ N a2 a3  M x11 gx11) (cV 2 S w_co_yX0_rankFor w_in_X0 w_ml_X5_118 w_im_yX0_rankFor w_se_yX0_rankFor hd_X0_rankFor ⟨Nat.le_of_ble_eq_true rfl, Nat.le_of_ble_eq_true rfl⟩) hl.1 rfl rfl (Nat.le_of_ble_eq_true rfl) dX5_buy_112 ⟨Nat.zero_le _, Nat.zero_le _⟩ (fun H locs hP hS => ?_)
        refine lv_istore (lv' := [(8, .int x11), (7, .int a3), (0, .ref (ad 0)), (1, .int a1), (2, .int a2), (3, .int a3), (4, .int a4), (5, .int a5), (6, .int a6)]) S.1 S.2.1 dX5_buy_115 hl (by decide) rfl (fun ls hl => ?_)
        refine lv_iload S.1 S.2.1 dX5_buy_117 (lv_at hl 0 rfl) ?_
        refine lv_iconst (v := (-1 : Int32)) S.1 S.2.1 dX5_buy_119 (by decide) ?_
        refine lv_icmp_eq (tgt := 135) S.1 S.2.1 dX5_buy_120 (by decide) (fun h12 => ?_) (fun h12 => ?_)
        · replace hf := ift h12 hf
          refine lv_ldc2 (own := "SurvivorPurse") (v := (-1000000000000000 : Int64)) S.1 S.2.1 S.2.2.2.1 (S.2.2.2.2 _ w_kl_X5_34) dX5_buy_135 ?_
          cases hf
          exact r_l S hr hlk hP hS dX5_buy_138
        · replace hf := iff_ h12 hf
          refine lv_aload_n S.1 S.2.1 dX5_buy_123 rfl (lv_at hl 2 rfl) ?_
          refine x_get (v := .ref (ad 1)) S hK hP w_lay_X5 (ci := 5) rfl 0 (ok_lt (ok_p hn)) (e5 (ok_p hn).1) 0 (by decide) w_fl_X5_10 rfl rfl dX5_buy_124 ?_
          refine x_get (v := .int (gI M 1 6)) S hK hP w_lay_X0 (ci := 0) rfl 1 (ok_lt (ok_b1 hn)) (e0 (ok_b1 hn).1) 6 (by decide) w_fl_X5_122 rfl rfl dX5_buy_127 ?_
          refine lv_bipush (v := (40 : Int32)) S.1 S.2.1 dX5_buy_130 (by decide) ?_
          refine lv_icmp_lt (tgt := 139) S.1 S.2.1 dX5_buy_132 (by decide) (fun h13 => ?_) (fun h13 => ?_)
          · replace hf := ift h13 hf
            refine lv_aload_n S.1 S.2.1 dX5_buy_139 rfl (lv_at hl 2 rfl) ?_
            refine x_get (v := .ref (ad 1)) S hK hP w_lay_X5 (ci := 5) rfl 0 (ok_lt (ok_p hn)) (e5 (ok_p hn).1) 0 (by decide) w_fl_X5_10 rfl rfl dX5_buy_140 ?_
            refine lv_iload_n S.1 S.2.1 dX5_buy_143 rfl (lv_at hl 3 rfl) ?_
            refine lv_iload_n S.1 S.2.1 dX5_buy_144 rfl (lv_at hl 4 rfl) ?_
            refine lv_iload S.1 S.2.1 dX5_buy_145 (lv_at hl 1 rfl) ?_
            refine lv_iload S.1 S.2.1 dX5_buy_147 (lv_at hl 6 rfl) ?_
            refine lv_iload S.1 S.2.1 dX5_buy_149 (lv_at hl 0 rfl) ?_
            obtain ⟨x15, M14, gM14, hf⟩ := bn2_some hf
            refine y_Vi (As := [.int a1, .int a2, .int a3, .int a4, .int x11]) S hK hN hP hS rfl (ok_lt (ok_b1 hn)) (e0 (ok_b1 hn).1) rfl (K_X0_addShare l E ad n hI hn _ N a1 a2 a3 a4 x11  M x15 M14 gM14) (cV 5 S w_co_yX0_addShare w_in_X0 w_ml_X5_125 w_im_yX0_addShare w_se_yX0_addShare hd_X0_addShare ⟨Nat.le_of_ble_eq_true rfl, Nat.le_of_ble_eq_true rfl⟩) hl.1 rfl rfl (Nat.le_of_ble_eq_true rfl) dX5_buy_151 ⟨Nat.zero_le _, Nat.zero_le _⟩ (fun H locs hP hS => ?_)
            refine lv_istore (lv' := [(9, .int x15), (8, .int x11), (7, .int a3), (0, .ref (ad 0)), (1, .int a1), (2, .int a2), (3, .int a3), (4, .int a4), (5, .int a5), (6, .int a6)]) S.1 S.2.1 dX5_buy_154 hl (by decide) rfl (fun ls hl => ?_)
            refine lv_aload_n S.1 S.2.1 dX5_buy_156 rfl (lv_at hl 3 rfl) ?_
            refine x_get (v := .ref (ad 1)) S hK hP w_lay_X5 (ci := 5) rfl 0 (ok_lt (ok_p hn)) (e5 (ok_p hn).1) 0 (by decide) w_fl_X5_10 rfl rfl dX5_buy_157 ?_
            refine x_get (v := .ref (ad 6)) S hK hP w_lay_X0 (ci := 0) rfl 1 (ok_lt (ok_b1 hn)) (e0 (ok_b1 hn).1) 3 (by decide) w_fl_X5_129 rfl rfl dX5_buy_160 ?_
            refine lv_iload S.1 S.2.1 dX5_buy_163 (lv_at hl 0 rfl) ?_
            obtain ⟨h16, hf⟩ := gd_some hf
            refine x_aald S hK hP 6 (ok_lt (ok_sa1 hn)) e11_1 4 rfl h16 dX5_buy_165 ?_
            refine lv_astore (lv' := [(10, .ref (ad (37 + (ix x15)))), (9, .int x15), (8, .int x11), (7, .int a3), (0, .ref (ad 0)), (1, .int a1), (2, .int a2), (3, .int a3), (4, .int a4), (5, .int a5), (6, .int a6)]) S.1 S.2.1 dX5_buy_166 hl (by decide) rfl (fun ls hl => ?_)
            refine lv_aload S.1 S.2.1 dX5_buy_168 (lv_at hl 0 rfl) ?_
            refine lv_iload S.1 S.2.1 dX5_buy_170 (lv_at hl 9 rfl) ?_
            refine x_put S hI hK hP hS w_lay_X3 tyX3 tyX3_ok nmX3 (ci := 3) rfl (37 + (ix x15)) (ok_lt (ok_s1 hn (ib_lt h16))) (e3 (ok_s1 hn (ib_lt h16)).1) 5 (by decide) w_fl_X5_133 rfl rfl rfl rfl (Nat.le_of_ble_eq_true rfl) (entC E ad n (sI M14 (37 + (ix x15)) 5 a5)) (h1_X3_5 (ok_s1 hn (ib_lt h16)).1 ) (fun _ h => entC_sI _ h) dX5_buy_172 (fun H locs hP hS => ?_)
            obtain ⟨M17, eM17, hf⟩ := bnd_some hf
            rw [← eM17] at hP
            refine lv_aload S.1 S.2.1 dX5_buy_175 (lv_at hl 0 rfl) ?_
            refine lv_iload S.1 S.2.1 dX5_buy_177 (lv_at hl 9 rfl) ?_
            refine lv_iconst (v := (2 : Int32)) S.1 S.2.1 dX5_buy_179 (by decide) ?_
            refine lv_icmp_eq (tgt := 189) S.1 S.2.1 dX5_buy_180 (by decide) (fun h18 => ?_) (fun h18 => ?_)
            · replace hf := ift h18 hf
              refine lv_aload_n S.1 S.2.1 dX5_buy_189 rfl (lv_at hl 4 rfl) ?_
              refine x_get (v := .ref (ad 1)) S hK hP w_lay_X5 (ci := 5) rfl 0 (ok_lt (ok_p hn)) (e5 (ok_p hn).1) 0 (by decide) w_fl_X5_10 rfl rfl dX5_buy_190 ?_
              refine x_get (v := .int (gI M17 1 7)) S hK hP w_lay_X0 (ci := 0) rfl 1 (ok_lt (ok_b1 hn)) (e0 (ok_b1 hn).1) 7 (by decide) w_fl_X5_75 rfl rfl dX5_buy_193 ?_
              refine lv_iload S.1 S.2.1 dX5_buy_196 (lv_at hl 10 rfl) ?_
              refine lv_iadd S.1 S.2.1 dX5_buy_198 ?_
              refine lv_goto (tgt := 209) S.1 S.2.1 dX5_buy_199 (by decide) ?_
              refine x_put S hI hK hP hS w_lay_X3 tyX3 tyX3_ok nmX3 (ci := 3) rfl (37 + (ix x15)) (ok_lt (ok_s1 hn (ib_lt h16))) (e3 (ok_s1 hn (ib_lt h16)).1) 9 (by decide) w_fl_X5_138 rfl rfl rfl rfl (Nat.le_of_ble_eq_true rfl) (entC E ad n (sI M17 (37 + (ix x15)) 9 ((gI M17 1 7) + a6))) (h1_X3_9 (ok_s1 hn (ib_lt h16)).1 ) (fun _ h => entC_sI _ h) dX5_buy_209 (fun H locs hP hS => ?_)
              obtain ⟨M19, eM19, hf⟩ := bnd_some hf
              rw [← eM19] at hP
              refine lv_iload S.1 S.2.1 dX5_buy_212 (lv_at hl 1 rfl) ?_
              refine lv_i2l (v := x15.toInt64) S.1 S.2.1 dX5_buy_214 rfl ?_
              cases hf
              exact r_l S hr hlk hP hS dX5_buy_215
            · replace hf := iff_ h18 hf
              refine lv_iload S.1 S.2.1 dX5_buy_183 (lv_at hl 9 rfl) ?_
              refine lv_iconst (v := (3 : Int32)) S.1 S.2.1 dX5_buy_185 (by decide) ?_
              refine lv_icmp_ne (tgt := 202) S.1 S.2.1 dX5_buy_186 (by decide) (fun h20 => ?_) (fun h20 => ?_)
              · replace hf := iff_ h20 hf
                refine lv_aload_n S.1 S.2.1 dX5_buy_202 rfl (lv_at hl 4 rfl) ?_
                refine x_get (v := .ref (ad 1)) S hK hP w_lay_X5 (ci := 5) rfl 0 (ok_lt (ok_p hn)) (e5 (ok_p hn).1) 0 (by decide) w_fl_X5_10 rfl rfl dX5_buy_203 ?_
                refine x_get (v := .int (gI M17 1 7)) S hK hP w_lay_X0 (ci := 0) rfl 1 (ok_lt (ok_b1 hn)) (e0 (ok_b1 hn).1) 7 (by decide) w_fl_X5_75 rfl rfl dX5_buy_206 ?_
                refine x_put S hI hK hP hS w_lay_X3 tyX3 tyX3_ok nmX3 (ci := 3) rfl (37 + (ix x15)) (ok_lt (ok_s1 hn (ib_lt h16))) (e3 (ok_s1 hn (ib_lt h16)).1) 9 (by decide) w_fl_X5_138 rfl rfl rfl rfl (Nat.le_of_ble_eq_true rfl) (entC E ad n (sI M17 (37 + (ix x15)) 9 (gI M17 1 7))) (h1_X3_9 (ok_s1 hn (ib_lt h16)).1 ) (fun _ h => entC_sI _ h) dX5_buy_209 (fun H locs hP hS => ?_)
                obtain ⟨M22, eM22, hf⟩ := bnd_some hf
                rw [← eM22] at hP
                refine lv_iload S.1 S.2.1 dX5_buy_212 (lv_at hl 1 rfl) ?_
                refine lv_i2l (v := x15.toInt64) S.1 S.2.1 dX5_buy_214 rfl ?_
                cases hf
                exact r_l S hr hlk hP hS dX5_buy_215
              · replace hf := ift h20 hf
                refine lv_aload_n S.1 S.2.1 dX5_buy_189 rfl (lv_at hl 4 rfl) ?_
                refine x_get (v := .ref (ad 1)) S hK hP w_lay_X5 (ci := 5) rfl 0 (ok_lt (ok_p hn)) (e5 (ok_p hn).1) 0 (by decide) w_fl_X5_10 rfl rfl dX5_buy_190 ?_
                refine x_get (v := .int (gI M17 1 7)) S hK hP w_lay_X0 (ci := 0) rfl 1 (ok_lt (ok_b1 hn)) (e0 (ok_b1 hn).1) 7 (by decide) w_fl_X5_75 rfl rfl dX5_buy_193 ?_
                refine lv_iload S.1 S.2.1 dX5_buy_196 (lv_at hl 10 rfl) ?_
                refine lv_iadd S.1 S.2.1 dX5_buy_198 ?_
                refine lv_goto (tgt := 209) S.1 S.2.1 dX5_buy_199 (by decide) ?_
                refine x_put S hI hK hP hS w_lay_X3 tyX3 tyX3_ok nmX3 (ci := 3) rfl (37 + (ix x15)) (ok_lt (ok_s1 hn (ib_lt h16))) (e3 (ok_s1 hn (ib_lt h16)).1) 9 (by decide) w_fl_X5_138 rfl rfl rfl rfl (Nat.le_of_ble_eq_true rfl) (entC E ad n (sI M17 (37 + (ix x15)) 9 ((gI M17 1 7) + a6))) (h1_X3_9 (ok_s1 hn (ib_lt h16)).1 ) (fun _ h => entC_sI _ h) dX5_buy_209 (fun H locs hP hS => ?_)
                obtain ⟨M21, eM21, hf⟩ := bnd_some hf
                rw [← eM21] at hP
                refine lv_iload S.1 S.2.1 dX5_buy_212 (lv_at hl 1 rfl) ?_
                refine lv_i2l (v := x15.toInt64) S.1 S.2.1 dX5_buy_214 rfl ?_
                cases hf
                exact r_l S hr hlk hP hS dX5_buy_215
          · replace hf := iff_ h13 hf
            refine lv_ldc2 (own := "SurvivorPurse") (v := (-1000000000000000 : Int64)) S.1 S.2.1 S.2.2.2.1 (S.2.2.2.2 _ w_kl_X5_34) dX5_buy_135 ?_
            cases hf
            exact r_l S hr hlk hP hS dX5_buy_138
      · replace hf := ift h10 hf
        refine lv_ldc2 (own := "SurvivorPurse") (v := (-1000000000000000 : Int64)) S.1 S.2.1 S.2.2.2.1 (S.2.2.2.2 _ w_kl_X5_34) dX5_buy_101 ?_
        cases hf
        exact r_l S hr hlk hP hS dX5_buy_104
set_option maxHeartbeats 4000000 in
set_option maxRecDepth 100000 in
theorem K_X5_buy (l : Launch) (E : EE) (ad : Nat → Nat) (n : Nat) (hI : ad_I ad n) (hn : 117 ≤ n) (sz : Nat) (N : Nat) (a1 : Int32) (a2 : Int32) (a3 : Int32) (a4 : Int32) (a5 : Int32) (a6 : Int32)  (M : MM) (r : Int64) (M' : MM) (hf : F_X5_buy N a1 a2 a3 a4 a5 a6 M = some (r, M')) : CtL l yX5_buy cX5_buy 11 3 71 E (entC E ad n M) (entC E ad n M') ad n sz [.ref (ad 0), .int a1, .int a2, .int a3, .int a4, .int a5, .int a6] (r) := by
  unfold CtL
  refine body_of (by decide) "SurvivorPurse" rfl (Nat.le_of_ble_eq_true rfl) ?_
  intro p e s m below meth c hsz S hr hlk hP hK hN ls hl
  subst hsz
  have hS : va_S (AA ad n s.heap.size) s.heap s.heap [] := va_S.rf
  have hl : lv_has ls 11 [(0, .ref (ad 0)), (1, .int a1), (2, .int a2), (3, .int a3), (4, .int a4), (5, .int a5), (6, .int a6)] := hl
  rw [F_X5_buy] at hf
  refine lv_iload S.1 S.2.1 dX5_buy_0 (lv_at hl 5 rfl) ?_
  refine lv_iconst (v := (0 : Int32)) S.1 S.2.1 dX5_buy_2 (by decide) ?_
  refine lv_iconst (v := (3 : Int32)) S.1 S.2.1 dX5_buy_3 (by decide) ?_
  refine y_Si (As := [.int a5, .int (0 : Int32), .int (3 : Int32)]) S hK hN hP hS rfl (K_X5_isWithin l E ad n hI hn _ a5 (0 : Int32) (3 : Int32)  M _ rfl) (cS 3 S w_co_yX5_isWithin w_in_X5 w_ml_X5_97 w_st_yX5_isWithin hd_X5_isWithin ⟨Nat.le_of_ble_eq_true rfl, Nat.le_of_ble_eq_true rfl⟩) hl.1 rfl rfl (Nat.le_of_ble_eq_true rfl) dX5_buy_4 ⟨Nat.zero_le _, Nat.zero_le _⟩ (fun H locs hP hS => ?_)
  refine lv_if_eq (tgt := 22) S.1 S.2.1 dX5_buy_7 (by decide) (fun h1 => ?_) (fun h1 => ?_)
  · replace hf := ift h1 hf
    refine lv_ldc2 (own := "SurvivorPurse") (v := (-1000000000000000 : Int64)) S.1 S.2.1 S.2.2.2.1 (S.2.2.2.2 _ w_kl_X5_34) dX5_buy_22 ?_
    cases hf
    exact r_l S hr hlk hP hS dX5_buy_25
  · replace hf := iff_ h1 hf
    refine lv_iload S.1 S.2.1 dX5_buy_10 (lv_at hl 4 rfl) ?_
    refine lv_iconst (v := (1 : Int32)) S.1 S.2.1 dX5_buy_12 (by decide) ?_
    refine lv_sipush (v := (1000 : Int32)) S.1 S.2.1 dX5_buy_13 (by decide) ?_
    refine y_Si (As := [.int a4, .int (1 : Int32), .int (1000 : Int32)]) S hK hN hP hS rfl (K_X5_isWithin l E ad n hI hn _ a4 (1 : Int32) (1000 : Int32)  M _ rfl) (cS 3 S w_co_yX5_isWithin w_in_X5 w_ml_X5_97 w_st_yX5_isWithin hd_X5_isWithin ⟨Nat.le_of_ble_eq_true rfl, Nat.le_of_ble_eq_true rfl⟩) hl.1 rfl rfl (Nat.le_of_ble_eq_true rfl) dX5_buy_16 ⟨Nat.zero_le _, Nat.zero_le _⟩ (fun H locs hP hS => ?_)
    refine lv_if_ne (tgt := 26) S.1 S.2.1 dX5_buy_19 (by decide) (fun h2 => ?_) (fun h2 => ?_)
    · replace hf := iff_ h2 hf
      refine lv_iload S.1 S.2.1 dX5_buy_26 (lv_at hl 5 rfl) ?_
      refine lv_iconst (v := (2 : Int32)) S.1 S.2.1 dX5_buy_28 (by decide) ?_
      refine lv_icmp_eq (tgt := 38) S.1 S.2.1 dX5_buy_29 (by decide) (fun h3 => ?_) (fun h3 => ?_)
      · replace hf := ift h3 hf
        refine lv_iload S.1 S.2.1 dX5_buy_38 (lv_at hl 6 rfl) ?_
        refine lv_iconst (v := (1 : Int32)) S.1 S.2.1 dX5_buy_40 (by decide) ?_
        refine lv_bipush (v := (30 : Int32)) S.1 S.2.1 dX5_buy_41 (by decide) ?_
        refine y_Si (As := [.int a6, .int (1 : Int32), .int (30 : Int32)]) S hK hN hP hS rfl (K_X5_isWithin l E ad n hI hn _ a6 (1 : Int32) (30 : Int32)  M _ rfl) (cS 3 S w_co_yX5_isWithin w_in_X5 w_ml_X5_97 w_st_yX5_isWithin hd_X5_isWithin ⟨Nat.le_of_ble_eq_true rfl, Nat.le_of_ble_eq_true rfl⟩) hl.1 rfl rfl (Nat.le_of_ble_eq_true rfl) dX5_buy_43 ⟨Nat.zero_le _, Nat.zero_le _⟩ (fun H locs hP hS => ?_)
        refine lv_if_ne (tgt := 53) S.1 S.2.1 dX5_buy_46 (by decide) (fun h4 => ?_) (fun h4 => ?_)
        · replace hf := iff_ h4 hf
          exact L_X5_buy_53 l E ad n hI hn N a1 a2 a3 a4 a5 a6  S hr hlk hK hN _ _    M hf _ _ _ hP hS (lv_sub hl [0, 1, 2, 3, 4, 5, 6] rfl)
        · replace hf := ift h4 hf
          refine lv_ldc2 (own := "SurvivorPurse") (v := (-1000000000000000 : Int64)) S.1 S.2.1 S.2.2.2.1 (S.2.2.2.2 _ w_kl_X5_34) dX5_buy_49 ?_
          cases hf
          exact r_l S hr hlk hP hS dX5_buy_52
      · replace hf := iff_ h3 hf
        refine lv_iload S.1 S.2.1 dX5_buy_32 (lv_at hl 5 rfl) ?_
        refine lv_iconst (v := (3 : Int32)) S.1 S.2.1 dX5_buy_34 (by decide) ?_
        refine lv_icmp_ne (tgt := 53) S.1 S.2.1 dX5_buy_35 (by decide) (fun h5 => ?_) (fun h5 => ?_)
        · replace hf := iff_ h5 hf
          exact L_X5_buy_53 l E ad n hI hn N a1 a2 a3 a4 a5 a6  S hr hlk hK hN _ _    M hf _ _ _ hP hS (lv_sub hl [0, 1, 2, 3, 4, 5, 6] rfl)
        · replace hf := ift h5 hf
          refine lv_iload S.1 S.2.1 dX5_buy_38 (lv_at hl 6 rfl) ?_
          refine lv_iconst (v := (1 : Int32)) S.1 S.2.1 dX5_buy_40 (by decide) ?_
          refine lv_bipush (v := (30 : Int32)) S.1 S.2.1 dX5_buy_41 (by decide) ?_
          refine y_Si (As := [.int a6, .int (1 : Int32), .int (30 : Int32)]) S hK hN hP hS rfl (K_X5_isWithin l E ad n hI hn _ a6 (1 : Int32) (30 : Int32)  M _ rfl) (cS 3 S w_co_yX5_isWithin w_in_X5 w_ml_X5_97 w_st_yX5_isWithin hd_X5_isWithin ⟨Nat.le_of_ble_eq_true rfl, Nat.le_of_ble_eq_true rfl⟩) hl.1 rfl rfl (Nat.le_of_ble_eq_true rfl) dX5_buy_43 ⟨Nat.zero_le _, Nat.zero_le _⟩ (fun H locs hP hS => ?_)
          refine lv_if_ne (tgt := 53) S.1 S.2.1 dX5_buy_46 (by decide) (fun h6 => ?_) (fun h6 => ?_)
          · replace hf := iff_ h6 hf
            exact L_X5_buy_53 l E ad n hI hn N a1 a2 a3 a4 a5 a6  S hr hlk hK hN _ _    M hf _ _ _ hP hS (lv_sub hl [0, 1, 2, 3, 4, 5, 6] rfl)
          · replace hf := ift h6 hf
            refine lv_ldc2 (own := "SurvivorPurse") (v := (-1000000000000000 : Int64)) S.1 S.2.1 S.2.2.2.1 (S.2.2.2.2 _ w_kl_X5_34) dX5_buy_49 ?_
            cases hf
            exact r_l S hr hlk hP hS dX5_buy_52
    · replace hf := ift h2 hf
      refine lv_ldc2 (own := "SurvivorPurse") (v := (-1000000000000000 : Int64)) S.1 S.2.1 S.2.2.2.1 (S.2.2.2.2 _ w_kl_X5_34) dX5_buy_22 ?_
      cases hf
      exact r_l S hr hlk hP hS dX5_buy_25
theorem hd_X5_split : yX5_split.cls ≠ "java/lang/invoke/MethodHandle" ∧ yX5_split.cls ≠ "java/lang/invoke/VarHandle" ∧ (parseMethodDescriptor yX5_split.desc).map (fun d => d.parameters.length) = some 2 := by decide +kernel
set_option maxHeartbeats 4000000 in
set_option maxRecDepth 100000 in
theorem K_X5_split (l : Launch) (E : EE) (ad : Nat → Nat) (n : Nat) (hI : ad_I ad n) (hn : 117 ≤ n) (sz : Nat) (N : Nat) (a1 : Int32) (a2 : Int32)  (M : MM) (r : Int64) (M' : MM) (hf : F_X5_split N a1 a2 M = some (r, M')) : CtL l yX5_split cX5_split 3 3 104 E (entC E ad n M) (entC E ad n M') ad n sz [.ref (ad 0), .int a1, .int a2] (r) := by
  unfold CtL
  refine body_of (by decide) "SurvivorPurse" rfl (Nat.le_of_ble_eq_true rfl) ?_
  intro p e s m below meth c hsz S hr hlk hP hK hN ls hl
  subst hsz
  have hS : va_S (AA ad n s.heap.size) s.heap s.heap [] := va_S.rf
  have hl : lv_has ls 3 [(0, .ref (ad 0)), (1, .int a1), (2, .int a2)] := hl
  rw [F_X5_split] at hf
  refine lv_aload_n S.1 S.2.1 dX5_split_0 rfl (lv_at hl 0 rfl) ?_
  refine x_get (v := .ref (ad 1)) S hK hP w_lay_X5 (ci := 5) rfl 0 (ok_lt (ok_p hn)) (e5 (ok_p hn).1) 0 (by decide) w_fl_X5_10 rfl rfl dX5_split_1 ?_
  refine lv_iload_n S.1 S.2.1 dX5_split_4 rfl (lv_at hl 1 rfl) ?_
  refine y_Vi (As := [.int a1]) S hK hN hP hS rfl (ok_lt (ok_b1 hn)) (e0 (ok_b1 hn).1) rfl (K_X0_isShare l E ad n hI hn _ a1  M _ rfl) (cV 1 S w_co_yX0_isShare w_in_X0 w_ml_X5_141 w_im_yX0_isShare w_se_yX0_isShare hd_X0_isShare ⟨Nat.le_of_ble_eq_true rfl, Nat.le_of_ble_eq_true rfl⟩) hl.1 rfl rfl (Nat.le_of_ble_eq_true rfl) dX5_split_5 ⟨Nat.zero_le _, Nat.zero_le _⟩ (fun H locs hP hS => ?_)
  refine lv_if_eq (tgt := 23) S.1 S.2.1 dX5_split_8 (by decide) (fun h1 => ?_) (fun h1 => ?_)
  · replace hf := ift h1 hf
    refine lv_ldc2 (own := "SurvivorPurse") (v := (-1000000000000000 : Int64)) S.1 S.2.1 S.2.2.2.1 (S.2.2.2.2 _ w_kl_X5_34) dX5_split_23 ?_
    cases hf
    exact r_l S hr hlk hP hS dX5_split_26
  · replace hf := iff_ h1 hf
    refine lv_aload_n S.1 S.2.1 dX5_split_11 rfl (lv_at hl 0 rfl) ?_
    refine x_get (v := .ref (ad 1)) S hK hP w_lay_X5 (ci := 5) rfl 0 (ok_lt (ok_p hn)) (e5 (ok_p hn).1) 0 (by decide) w_fl_X5_10 rfl rfl dX5_split_12 ?_
    refine x_get (v := .int (gI M 1 6)) S hK hP w_lay_X0 (ci := 0) rfl 1 (ok_lt (ok_b1 hn)) (e0 (ok_b1 hn).1) 6 (by decide) w_fl_X5_122 rfl rfl dX5_split_15 ?_
    refine lv_bipush (v := (40 : Int32)) S.1 S.2.1 dX5_split_18 (by decide) ?_
    refine lv_icmp_lt (tgt := 27) S.1 S.2.1 dX5_split_20 (by decide) (fun h2 => ?_) (fun h2 => ?_)
    · replace hf := ift h2 hf
      refine lv_iload_n S.1 S.2.1 dX5_split_27 rfl (lv_at hl 2 rfl) ?_
      refine lv_iconst (v := (1 : Int32)) S.1 S.2.1 dX5_split_28 (by decide) ?_
      refine lv_aload_n S.1 S.2.1 dX5_split_29 rfl (lv_at hl 0 rfl) ?_
      refine x_get (v := .ref (ad 1)) S hK hP w_lay_X5 (ci := 5) rfl 0 (ok_lt (ok_p hn)) (e5 (ok_p hn).1) 0 (by decide) w_fl_X5_10 rfl rfl dX5_split_30 ?_
      refine x_get (v := .ref (ad 6)) S hK hP w_lay_X0 (ci := 0) rfl 1 (ok_lt (ok_b1 hn)) (e0 (ok_b1 hn).1) 3 (by decide) w_fl_X5_129 rfl rfl dX5_split_33 ?_
      refine lv_iload_n S.1 S.2.1 dX5_split_36 rfl (lv_at hl 1 rfl) ?_
      obtain ⟨h3, hf⟩ := gd_some hf
      refine x_aald S hK hP 6 (ok_lt (ok_sa1 hn)) e11_1 4 rfl h3 dX5_split_37 ?_
      refine x_get (v := .int (gI M (37 + (ix a1)) 3)) S hK hP w_lay_X3 (ci := 3) rfl (37 + (ix a1)) (ok_lt (ok_s1 hn (ib_lt h3))) (e3 (ok_s1 hn (ib_lt h3)).1) 3 (by decide) w_fl_X5_147 rfl rfl dX5_split_38 ?_
      refine lv_iconst (v := (1 : Int32)) S.1 S.2.1 dX5_split_41 (by decide) ?_
      refine lv_isub S.1 S.2.1 dX5_split_42 ?_
      refine y_Si (As := [.int a2, .int (1 : Int32), .int ((gI M (37 + (ix a1)) 3) - (1 : Int32))]) S hK hN hP hS rfl (K_X5_isWithin l E ad n hI hn _ a2 (1 : Int32) ((gI M (37 + (ix a1)) 3) - (1 : Int32))  M _ rfl) (cS 3 S w_co_yX5_isWithin w_in_X5 w_ml_X5_97 w_st_yX5_isWithin hd_X5_isWithin ⟨Nat.le_of_ble_eq_true rfl, Nat.le_of_ble_eq_true rfl⟩) hl.1 rfl rfl (Nat.le_of_ble_eq_true rfl) dX5_split_43 ⟨Nat.zero_le _, Nat.zero_le _⟩ (fun H locs hP hS => ?_)
      refine lv_if_ne (tgt := 53) S.1 S.2.1 dX5_split_46 (by decide) (fun h4 => ?_) (fun h4 => ?_)
      · replace hf := iff_ h4 hf
        refine lv_aload_n S.1 S.2.1 dX5_split_53 rfl (lv_at hl 0 rfl) ?_
        refine x_get (v := .ref (ad 1)) S hK hP w_lay_X5 (ci := 5) rfl 0 (ok_lt (ok_p hn)) (e5 (ok_p hn).1) 0 (by decide) w_fl_X5_10 rfl rfl dX5_split_54 ?_
        refine lv_aload_n S.1 S.2.1 dX5_split_57 rfl (lv_at hl 0 rfl) ?_
        refine x_get (v := .ref (ad 1)) S hK hP w_lay_X5 (ci := 5) rfl 0 (ok_lt (ok_p hn)) (e5 (ok_p hn).1) 0 (by decide) w_fl_X5_10 rfl rfl dX5_split_58 ?_
        refine x_get (v := .ref (ad 6)) S hK hP w_lay_X0 (ci := 0) rfl 1 (ok_lt (ok_b1 hn)) (e0 (ok_b1 hn).1) 3 (by decide) w_fl_X5_129 rfl rfl dX5_split_61 ?_
        refine lv_iload_n S.1 S.2.1 dX5_split_64 rfl (lv_at hl 1 rfl) ?_
        refine x_aald S hK hP 6 (ok_lt (ok_sa1 hn)) e11_1 4 rfl h3 dX5_split_65 ?_
        refine lv_iload_n S.1 S.2.1 dX5_split_66 rfl (lv_at hl 2 rfl) ?_
        obtain ⟨x6, M5, gM5, hf⟩ := bn2_some hf
        refine y_Vi (As := [.ref (ad (37 + (ix a1))), .int a2]) S hK hN hP hS rfl (ok_lt (ok_b1 hn)) (e0 (ok_b1 hn).1) rfl (K_X0_addPart l E ad n hI hn _ N (37 + (ix a1)) a2 (ok_s1 hn (ib_lt h3)) M x6 M5 gM5) (cV 2 S w_co_yX0_addPart w_in_X0 w_ml_X5_150 w_im_yX0_addPart w_se_yX0_addPart hd_X0_addPart ⟨Nat.le_of_ble_eq_true rfl, Nat.le_of_ble_eq_true rfl⟩) hl.1 rfl rfl (Nat.le_of_ble_eq_true rfl) dX5_split_67 ⟨Nat.zero_le _, Nat.zero_le _⟩ (fun H locs hP hS => ?_)
        refine lv_i2l (v := x6.toInt64) S.1 S.2.1 dX5_split_70 rfl ?_
        cases hf
        exact r_l S hr hlk hP hS dX5_split_71
      · replace hf := ift h4 hf
        refine lv_ldc2 (own := "SurvivorPurse") (v := (-1000000000000000 : Int64)) S.1 S.2.1 S.2.2.2.1 (S.2.2.2.2 _ w_kl_X5_34) dX5_split_49 ?_
        cases hf
        exact r_l S hr hlk hP hS dX5_split_52
    · replace hf := iff_ h2 hf
      refine lv_ldc2 (own := "SurvivorPurse") (v := (-1000000000000000 : Int64)) S.1 S.2.1 S.2.2.2.1 (S.2.2.2.2 _ w_kl_X5_34) dX5_split_23 ?_
      cases hf
      exact r_l S hr hlk hP hS dX5_split_26
theorem hd_X0_learnDeath : yX0_learnDeath.cls ≠ "java/lang/invoke/MethodHandle" ∧ yX0_learnDeath.cls ≠ "java/lang/invoke/VarHandle" ∧ (parseMethodDescriptor yX0_learnDeath.desc).map (fun d => d.parameters.length) = some 2 := by decide +kernel
set_option maxHeartbeats 4000000 in
set_option maxRecDepth 100000 in
theorem L_X0_learnDeath_35 (l : Launch) (E : EE) (ad : Nat → Nat) (n : Nat) (hI : ad_I ad n) (hn : 117 ≤ n) (N : Nat) (a1 : Int32) (a2 : Int32)  {p : Program} {e : Env} {s : State} {m : MethodId} {below : List Frame} {meth : Method} {c : Code} (S : CallFix p m c cX0_learnDeath 6 s [.ref (ad 1), .int a1, .int a2].toArray bg_B "SurvivorPurse$Book") (hr : meth.sig.returnType = (some .long)) (hlk : meth.locks = false) (hK : va_K E.1 vwCl (tysE E) s) (hN : NW s) (r : Int64) (M' : MM) : ∀ (fu : Nat) (v3 : Int64) (v5 : Int32)  (M : MM), F_X0_learnDeath_35 N a1 a2 fu v3 v5 M = some (r, M') → ∀ (H : Heap) (locs : List Loc) (ls : Array Slot), va_P E.1 vwCl (mw (entC E ad n M) ad n) H → va_S (AA ad n s.heap.size) s.heap H locs → lv_has ls 6 [(0, .ref (ad 1)), (1, .int a1), (3, .long v3), (5, .int v5)] → W p l e { frames := 6, cells := 0, slots := 0, locals := 146 } s m [.ref (ad 1), .int a1, .int a2].toArray below meth c H locs 0 0 (MQ below (va_Ql (fun r0 (_ : Unit) => r0 = r) (fun _ t => QB E (entC E ad n M') ad n t) (AA ad n s.heap.size)) [.ref (ad 1), .int a1, .int a2].toArray s 0 0 (AA ad n s.heap.size)) (F0 m 35 ls []) := by
  intro fu
  induction fu with
  | zero =>
    intro v3 v5 M hf
    rw [F_X0_learnDeath_35] at hf
    cases hf
  | succ fu ih =>
    intro v3 v5 M hf H locs ls hP hS hl
    rw [F_X0_learnDeath_35] at hf
    refine lv_iload S.1 S.2.1 dX0_learnDeath_35 (lv_at hl 3 rfl) ?_
    refine lv_aload_n S.1 S.2.1 dX0_learnDeath_37 rfl (lv_at hl 0 rfl) ?_
    refine x_get (v := .int (gI M 1 6)) S hK hP w_lay_X0 (ci := 0) rfl 1 (ok_lt (ok_b1 hn)) (e0 (ok_b1 hn).1) 6 (by decide) w_fl_X0_53 rfl rfl dX0_learnDeath_38 ?_
    refine lv_icmp_ge (tgt := 92) S.1 S.2.1 dX0_learnDeath_41 (by decide) (fun h5 => ?_) (fun h5 => ?_)
    · replace hf := ift h5 hf
      refine lv_lload_n S.1 S.2.1 dX0_learnDeath_92 rfl (lv_at hl 2 rfl) ?_
      cases hf
      exact r_l S hr hlk hP hS dX0_learnDeath_93
    · replace hf := iff_ h5 hf
      refine lv_aload_n S.1 S.2.1 dX0_learnDeath_44 rfl (lv_at hl 0 rfl) ?_
      refine x_get (v := .ref (ad 6)) S hK hP w_lay_X0 (ci := 0) rfl 1 (ok_lt (ok_b1 hn)) (e0 (ok_b1 hn).1) 3 (by decide) w_fl_X0_32 rfl rfl dX0_learnDeath_45 ?_
      refine lv_iload S.1 S.2.1 dX0_learnDeath_48 (lv_at hl 3 rfl) ?_
      obtain ⟨h6, hf⟩ := gd_some hf
      refine x_aald S hK hP 6 (ok_lt (ok_sa1 hn)) e11_1 4 rfl h6 dX0_learnDeath_50 ?_
      refine lv_iload_n S.1 S.2.1 dX0_learnDeath_51 rfl (lv_at hl 1 rfl) ?_
      refine y_Vi (As := [.int a1]) S hK hN hP hS rfl (ok_lt (ok_s1 hn (ib_lt h6))) (e3 (ok_s1 hn (ib_lt h6)).1) rfl (K_X3_hasLife l E ad n hI hn _ (37 + (ix v5)) a1 (ok_s1 hn (ib_lt h6)) M _ rfl) (cV 1 S w_co_yX3_hasLife w_in_X3 w_ml_X0_205 w_im_yX3_hasLife w_se_yX3_hasLife hd_X3_hasLife ⟨Nat.le_of_ble_eq_true rfl, Nat.le_of_ble_eq_true rfl⟩) hl.1 rfl rfl (Nat.le_of_ble_eq_true rfl) dX0_learnDeath_52 ⟨Nat.zero_le _, Nat.zero_le _⟩ (fun H locs hP hS => ?_)
      refine lv_if_eq (tgt := 86) S.1 S.2.1 dX0_learnDeath_55 (by decide) (fun h7 => ?_) (fun h7 => ?_)
      · replace hf := ift h7 hf
        refine lv_iinc (v := v5 + (1 : Int32)) (lv' := [(5, .int (v5 + (1 : Int32))), (0, .ref (ad 1)), (1, .int a1), (3, .long v3)]) S.1 S.2.1 dX0_learnDeath_86 hl (k := 3) rfl rfl (by decide) rfl (fun ls hl => ?_)
        refine lv_goto (tgt := 35) S.1 S.2.1 dX0_learnDeath_89 (by decide) ?_
        exact ih v3 (v5 + (1 : Int32))  M hf _ _ _ hP hS (lv_sub hl [1, 2, 3, 0] rfl)
      · replace hf := iff_ h7 hf
        refine lv_aload_n S.1 S.2.1 dX0_learnDeath_58 rfl (lv_at hl 0 rfl) ?_
        refine lv_aload_n S.1 S.2.1 dX0_learnDeath_59 rfl (lv_at hl 0 rfl) ?_
        refine x_get (v := .ref (ad 6)) S hK hP w_lay_X0 (ci := 0) rfl 1 (ok_lt (ok_b1 hn)) (e0 (ok_b1 hn).1) 3 (by decide) w_fl_X0_32 rfl rfl dX0_learnDeath_60 ?_
        refine lv_iload S.1 S.2.1 dX0_learnDeath_63 (lv_at hl 3 rfl) ?_
        refine x_aald S hK hP 6 (ok_lt (ok_sa1 hn)) e11_1 4 rfl h6 dX0_learnDeath_65 ?_
        obtain ⟨x8, gx8, hf⟩ := bn1_some hf
        refine y_Vi (As := [.ref (ad (37 + (ix v5)))]) S hK hN hP hS rfl (ok_lt (ok_b1 hn)) (e0 (ok_b1 hn).1) rfl (K_X0_isAllDead l E ad n hI hn _ N (37 + (ix v5)) (ok_s1 hn (ib_lt h6)) M x8 gx8) (cV 1 S w_co_yX0_isAllDead w_in_X0 w_ml_X0_158 w_im_yX0_isAllDead w_se_yX0_isAllDead hd_X0_isAllDead ⟨Nat.le_of_ble_eq_true rfl, Nat.le_of_ble_eq_true rfl⟩) hl.1 rfl rfl (Nat.le_of_ble_eq_true rfl) dX0_learnDeath_66 ⟨Nat.zero_le _, Nat.zero_le _⟩ (fun H locs hP hS => ?_)
        refine lv_if_eq (tgt := 86) S.1 S.2.1 dX0_learnDeath_69 (by decide) (fun h9 => ?_) (fun h9 => ?_)
        · replace hf := ift h9 hf
          refine lv_iinc (v := v5 + (1 : Int32)) (lv' := [(5, .int (v5 + (1 : Int32))), (0, .ref (ad 1)), (1, .int a1), (3, .long v3)]) S.1 S.2.1 dX0_learnDeath_86 hl (k := 3) rfl rfl (by decide) rfl (fun ls hl => ?_)
          refine lv_goto (tgt := 35) S.1 S.2.1 dX0_learnDeath_89 (by decide) ?_
          exact ih v3 (v5 + (1 : Int32))  M hf _ _ _ hP hS (lv_sub hl [1, 2, 3, 0] rfl)
        · replace hf := iff_ h9 hf
          refine lv_lload_n S.1 S.2.1 dX0_learnDeath_72 rfl (lv_at hl 2 rfl) ?_
          refine lv_aload_n S.1 S.2.1 dX0_learnDeath_73 rfl (lv_at hl 0 rfl) ?_
          refine lv_aload_n S.1 S.2.1 dX0_learnDeath_74 rfl (lv_at hl 0 rfl) ?_
          refine x_get (v := .ref (ad 6)) S hK hP w_lay_X0 (ci := 0) rfl 1 (ok_lt (ok_b1 hn)) (e0 (ok_b1 hn).1) 3 (by decide) w_fl_X0_32 rfl rfl dX0_learnDeath_75 ?_
          refine lv_iload S.1 S.2.1 dX0_learnDeath_78 (lv_at hl 3 rfl) ?_
          refine x_aald S hK hP 6 (ok_lt (ok_sa1 hn)) e11_1 4 rfl h6 dX0_learnDeath_80 ?_
          obtain ⟨x11, M10, gM10, hf⟩ := bn2_some hf
          refine y_Vl (As := [.ref (ad (37 + (ix v5)))]) S hK hN hP hS rfl (ok_lt (ok_b1 hn)) (e0 (ok_b1 hn).1) rfl (K_X0_settle l E ad n hI hn _ N (37 + (ix v5)) (ok_s1 hn (ib_lt h6)) M x11 M10 gM10) (cV 1 S w_co_yX0_settle w_in_X0 w_ml_X0_212 w_im_yX0_settle w_se_yX0_settle hd_X0_settle ⟨Nat.le_of_ble_eq_true rfl, Nat.le_of_ble_eq_true rfl⟩) hl.1 rfl rfl (Nat.le_of_ble_eq_true rfl) dX0_learnDeath_81 ⟨Nat.zero_le _, Nat.zero_le _⟩ (fun H locs hP hS => ?_)
          refine lv_ladd S.1 S.2.1 dX0_learnDeath_84 ?_
          obtain ⟨x12, ex12, hf⟩ := bnd_some hf
          refine lv_rel ex12 ?_
          refine lv_lstore_n (lv' := [(3, .long x12), (0, .ref (ad 1)), (1, .int a1), (5, .int v5)]) S.1 S.2.1 dX0_learnDeath_85 rfl hl (by decide) rfl (fun ls hl => ?_)
          refine lv_iinc (v := v5 + (1 : Int32)) (lv' := [(5, .int (v5 + (1 : Int32))), (3, .long x12), (0, .ref (ad 1)), (1, .int a1)]) S.1 S.2.1 dX0_learnDeath_86 hl (k := 3) rfl rfl (by decide) rfl (fun ls hl => ?_)
          refine lv_goto (tgt := 35) S.1 S.2.1 dX0_learnDeath_89 (by decide) ?_
          exact ih x12 (v5 + (1 : Int32))  M10 hf _ _ _ hP hS (lv_sub hl [2, 3, 1, 0] rfl)
set_option maxHeartbeats 4000000 in
set_option maxRecDepth 100000 in
theorem K_X0_learnDeath (l : Launch) (E : EE) (ad : Nat → Nat) (n : Nat) (hI : ad_I ad n) (hn : 117 ≤ n) (sz : Nat) (N : Nat) (a1 : Int32) (a2 : Int32)  (M : MM) (r : Int64) (M' : MM) (hf : F_X0_learnDeath N a1 a2 M = some (r, M')) : CtL l yX0_learnDeath cX0_learnDeath 6 6 146 E (entC E ad n M) (entC E ad n M') ad n sz [.ref (ad 1), .int a1, .int a2] (r) := by
  unfold CtL
  refine body_of (by decide) "SurvivorPurse$Book" rfl (Nat.le_of_ble_eq_true rfl) ?_
  intro p e s m below meth c hsz S hr hlk hP hK hN ls hl
  subst hsz
  have hS : va_S (AA ad n s.heap.size) s.heap s.heap [] := va_S.rf
  have hl : lv_has ls 6 [(0, .ref (ad 1)), (1, .int a1), (2, .int a2)] := hl
  rw [F_X0_learnDeath] at hf
  refine lv_aload_n S.1 S.2.1 dX0_learnDeath_0 rfl (lv_at hl 0 rfl) ?_
  refine x_get (v := .ref (ad 4)) S hK hP w_lay_X0 (ci := 0) rfl 1 (ok_lt (ok_b1 hn)) (e0 (ok_b1 hn).1) 1 (by decide) w_fl_X0_20 rfl rfl dX0_learnDeath_1 ?_
  refine lv_iload_n S.1 S.2.1 dX0_learnDeath_4 rfl (lv_at hl 1 rfl) ?_
  obtain ⟨h1, hf⟩ := gd_some hf
  refine x_aald S hK hP 4 (ok_lt (ok_ma1 hn)) e9_1 2 rfl h1 dX0_learnDeath_5 ?_
  refine lv_iconst (v := (1 : Int32)) S.1 S.2.1 dX0_learnDeath_6 (by decide) ?_
  refine x_put S hI hK hP hS w_lay_X1 tyX1 tyX1_ok nmX1 (ci := 1) rfl (7 + (ix a1)) (ok_lt (ok_m1 hn (ib_lt h1))) (e1 (ok_m1 hn (ib_lt h1)).1) 5 (by decide) w_fl_X0_123 rfl rfl (bo_nar (by decide)) (bo_fit (by decide)) (Nat.le_of_ble_eq_true rfl) (entC E ad n (sI M (7 + (ix a1)) 5 (1 : Int32))) (h1_X1_5 (ok_m1 hn (ib_lt h1)).1 (by decide)) (fun _ h => entC_sI _ h) dX0_learnDeath_7 (fun H locs hP hS => ?_)
  obtain ⟨M2, eM2, hf⟩ := bnd_some hf
  rw [← eM2] at hP
  refine lv_aload_n S.1 S.2.1 dX0_learnDeath_10 rfl (lv_at hl 0 rfl) ?_
  refine x_get (v := .ref (ad 4)) S hK hP w_lay_X0 (ci := 0) rfl 1 (ok_lt (ok_b1 hn)) (e0 (ok_b1 hn).1) 1 (by decide) w_fl_X0_20 rfl rfl dX0_learnDeath_11 ?_
  refine lv_iload_n S.1 S.2.1 dX0_learnDeath_14 rfl (lv_at hl 1 rfl) ?_
  refine x_aald S hK hP 4 (ok_lt (ok_ma1 hn)) e9_1 2 rfl h1 dX0_learnDeath_15 ?_
  refine lv_iload_n S.1 S.2.1 dX0_learnDeath_16 rfl (lv_at hl 2 rfl) ?_
  refine x_put S hI hK hP hS w_lay_X1 tyX1 tyX1_ok nmX1 (ci := 1) rfl (7 + (ix a1)) (ok_lt (ok_m1 hn (ib_lt h1))) (e1 (ok_m1 hn (ib_lt h1)).1) 6 (by decide) w_fl_X0_169 rfl rfl rfl rfl (Nat.le_of_ble_eq_true rfl) (entC E ad n (sI M2 (7 + (ix a1)) 6 a2)) (h1_X1_6 (ok_m1 hn (ib_lt h1)).1 ) (fun _ h => entC_sI _ h) dX0_learnDeath_17 (fun H locs hP hS => ?_)
  obtain ⟨M3, eM3, hf⟩ := bnd_some hf
  rw [← eM3] at hP
  refine lv_aload_n S.1 S.2.1 dX0_learnDeath_20 rfl (lv_at hl 0 rfl) ?_
  refine x_get (v := .ref (ad 4)) S hK hP w_lay_X0 (ci := 0) rfl 1 (ok_lt (ok_b1 hn)) (e0 (ok_b1 hn).1) 1 (by decide) w_fl_X0_20 rfl rfl dX0_learnDeath_21 ?_
  refine lv_iload_n S.1 S.2.1 dX0_learnDeath_24 rfl (lv_at hl 1 rfl) ?_
  refine x_aald S hK hP 4 (ok_lt (ok_ma1 hn)) e9_1 2 rfl h1 dX0_learnDeath_25 ?_
  refine lv_iconst (v := (0 : Int32)) S.1 S.2.1 dX0_learnDeath_26 (by decide) ?_
  refine x_put S hI hK hP hS w_lay_X1 tyX1 tyX1_ok nmX1 (ci := 1) rfl (7 + (ix a1)) (ok_lt (ok_m1 hn (ib_lt h1))) (e1 (ok_m1 hn (ib_lt h1)).1) 4 (by decide) w_fl_X0_146 rfl rfl (bo_nar (by decide)) (bo_fit (by decide)) (Nat.le_of_ble_eq_true rfl) (entC E ad n (sI M3 (7 + (ix a1)) 4 (0 : Int32))) (h1_X1_4 (ok_m1 hn (ib_lt h1)).1 (by decide)) (fun _ h => entC_sI _ h) dX0_learnDeath_27 (fun H locs hP hS => ?_)
  obtain ⟨M4, eM4, hf⟩ := bnd_some hf
  rw [← eM4] at hP
  refine lv_lconst (v := (0 : Int64)) S.1 S.2.1 dX0_learnDeath_30 (by decide) ?_
  refine lv_lstore_n (lv' := [(3, .long (0 : Int64)), (0, .ref (ad 1)), (1, .int a1), (2, .int a2)]) S.1 S.2.1 dX0_learnDeath_31 rfl hl (by decide) rfl (fun ls hl => ?_)
  refine lv_iconst (v := (0 : Int32)) S.1 S.2.1 dX0_learnDeath_32 (by decide) ?_
  refine lv_istore (lv' := [(5, .int (0 : Int32)), (3, .long (0 : Int64)), (0, .ref (ad 1)), (1, .int a1), (2, .int a2)]) S.1 S.2.1 dX0_learnDeath_33 hl (by decide) rfl (fun ls hl => ?_)
  exact L_X0_learnDeath_35 l E ad n hI hn N a1 a2  S hr hlk hK hN _ _ N (0 : Int64) (0 : Int32)  M4 hf _ _ _ hP hS (lv_sub hl [2, 3, 1, 0] rfl)
theorem hd_X0_drawAll : yX0_drawAll.cls ≠ "java/lang/invoke/MethodHandle" ∧ yX0_drawAll.cls ≠ "java/lang/invoke/VarHandle" ∧ (parseMethodDescriptor yX0_drawAll.desc).map (fun d => d.parameters.length) = some 0 := by decide +kernel
set_option maxHeartbeats 4000000 in
set_option maxRecDepth 100000 in
theorem L_X0_drawAll_4 (l : Launch) (E : EE) (ad : Nat → Nat) (n : Nat) (hI : ad_I ad n) (hn : 117 ≤ n) (N : Nat)   {p : Program} {e : Env} {s : State} {m : MethodId} {below : List Frame} {meth : Method} {c : Code} (S : CallFix p m c cX0_drawAll 6 s [.ref (ad 1)].toArray bg_B "SurvivorPurse$Book") (hr : meth.sig.returnType = (some .long)) (hlk : meth.locks = false) (hK : va_K E.1 vwCl (tysE E) s) (hN : NW s) (r : Int64) (M' : MM) : ∀ (fu : Nat) (v1 : Int64) (v3 : Int32)  (M : MM), F_X0_drawAll_4 N  fu v1 v3 M = some (r, M') → ∀ (H : Heap) (locs : List Loc) (ls : Array Slot), va_P E.1 vwCl (mw (entC E ad n M) ad n) H → va_S (AA ad n s.heap.size) s.heap H locs → lv_has ls 6 [(0, .ref (ad 1)), (1, .long v1), (3, .int v3)] → W p l e { frames := 4, cells := 0, slots := 0, locals := 87 } s m [.ref (ad 1)].toArray below meth c H locs 0 0 (MQ below (va_Ql (fun r0 (_ : Unit) => r0 = r) (fun _ t => QB E (entC E ad n M') ad n t) (AA ad n s.heap.size)) [.ref (ad 1)].toArray s 0 0 (AA ad n s.heap.size)) (F0 m 4 ls []) := by
  intro fu
  induction fu with
  | zero =>
    intro v1 v3 M hf
    rw [F_X0_drawAll_4] at hf
    cases hf
  | succ fu ih =>
    intro v1 v3 M hf H locs ls hP hS hl
    rw [F_X0_drawAll_4] at hf
    refine lv_iload_n S.1 S.2.1 dX0_drawAll_4 rfl (lv_at hl 2 rfl) ?_
    refine lv_aload_n S.1 S.2.1 dX0_drawAll_5 rfl (lv_at hl 0 rfl) ?_
    refine x_get (v := .int (gI M 1 6)) S hK hP w_lay_X0 (ci := 0) rfl 1 (ok_lt (ok_b1 hn)) (e0 (ok_b1 hn).1) 6 (by decide) w_fl_X0_53 rfl rfl dX0_drawAll_6 ?_
    refine lv_icmp_ge (tgt := 91) S.1 S.2.1 dX0_drawAll_9 (by decide) (fun h1 => ?_) (fun h1 => ?_)
    · replace hf := ift h1 hf
      refine lv_lload_n S.1 S.2.1 dX0_drawAll_91 rfl (lv_at hl 1 rfl) ?_
      cases hf
      exact r_l S hr hlk hP hS dX0_drawAll_92
    · replace hf := iff_ h1 hf
      refine lv_aload_n S.1 S.2.1 dX0_drawAll_12 rfl (lv_at hl 0 rfl) ?_
      refine x_get (v := .ref (ad 6)) S hK hP w_lay_X0 (ci := 0) rfl 1 (ok_lt (ok_b1 hn)) (e0 (ok_b1 hn).1) 3 (by decide) w_fl_X0_32 rfl rfl dX0_drawAll_13 ?_
      refine lv_iload_n S.1 S.2.1 dX0_drawAll_16 rfl (lv_at hl 2 rfl) ?_
      obtain ⟨h2, hf⟩ := gd_some hf
      refine x_aald S hK hP 6 (ok_lt (ok_sa1 hn)) e11_1 4 rfl h2 dX0_drawAll_17 ?_
      refine lv_astore (lv' := [(4, .ref (ad (37 + (ix v3)))), (0, .ref (ad 1)), (1, .long v1), (3, .int v3)]) S.1 S.2.1 dX0_drawAll_18 hl (by decide) rfl (fun ls hl => ?_)
      refine lv_aload_n S.1 S.2.1 dX0_drawAll_20 rfl (lv_at hl 1 rfl) ?_
      refine lv_aload S.1 S.2.1 dX0_drawAll_21 (lv_at hl 0 rfl) ?_
      obtain ⟨x3, gx3, hf⟩ := bn1_some hf
      refine y_Vi (As := [.ref (ad (37 + (ix v3)))]) S hK hN hP hS rfl (ok_lt (ok_b1 hn)) (e0 (ok_b1 hn).1) rfl (K_X0_howItIs l E ad n hI hn _ N (37 + (ix v3)) (ok_s1 hn (ib_lt h2)) M x3 gx3) (cV 1 S w_co_yX0_howItIs w_in_X0 w_ml_X0_165 w_im_yX0_howItIs w_se_yX0_howItIs hd_X0_howItIs ⟨Nat.le_of_ble_eq_true rfl, Nat.le_of_ble_eq_true rfl⟩) hl.1 rfl rfl (Nat.le_of_ble_eq_true rfl) dX0_drawAll_23 ⟨Nat.zero_le _, Nat.zero_le _⟩ (fun H locs hP hS => ?_)
      refine lv_istore (lv' := [(5, .int x3), (4, .ref (ad (37 + (ix v3)))), (0, .ref (ad 1)), (1, .long v1), (3, .int v3)]) S.1 S.2.1 dX0_drawAll_26 hl (by decide) rfl (fun ls hl => ?_)
      refine lv_iload S.1 S.2.1 dX0_drawAll_28 (lv_at hl 0 rfl) ?_
      refine lv_if_eq (tgt := 39) S.1 S.2.1 dX0_drawAll_30 (by decide) (fun h4 => ?_) (fun h4 => ?_)
      · replace hf := ift h4 hf
        refine lv_lload_n S.1 S.2.1 dX0_drawAll_39 rfl (lv_at hl 3 rfl) ?_
        refine lv_aload_n S.1 S.2.1 dX0_drawAll_40 rfl (lv_at hl 2 rfl) ?_
        refine lv_aload S.1 S.2.1 dX0_drawAll_41 (lv_at hl 1 rfl) ?_
        refine lv_iload S.1 S.2.1 dX0_drawAll_43 (lv_at hl 0 rfl) ?_
        refine lv_if_ne (tgt := 52) S.1 S.2.1 dX0_drawAll_45 (by decide) (fun q9 => absurd h4 q9) (fun _ => ?_)
        refine lv_iconst (v := (1 : Int32)) S.1 S.2.1 dX0_drawAll_48 (by decide) ?_
        refine lv_goto (tgt := 53) S.1 S.2.1 dX0_drawAll_49 (by decide) ?_
        obtain ⟨x6, M5, gM5, hf⟩ := bn2_some hf
        refine y_Vl (As := [.ref (ad (37 + (ix v3))), .int (1 : Int32)]) S hK hN hP hS rfl (ok_lt (ok_b1 hn)) (e0 (ok_b1 hn).1) rfl (K_X0_draw l E ad n hI hn _ N (37 + (ix v3)) (1 : Int32) (ok_s1 hn (ib_lt h2)) M x6 M5 gM5) (cV 2 S w_co_yX0_draw w_in_X0 w_ml_X0_238 w_im_yX0_draw w_se_yX0_draw hd_X0_draw ⟨Nat.le_of_ble_eq_true rfl, Nat.le_of_ble_eq_true rfl⟩) hl.1 rfl rfl (Nat.le_of_ble_eq_true rfl) dX0_drawAll_53 ⟨Nat.zero_le _, Nat.zero_le _⟩ (fun H locs hP hS => ?_)
        refine lv_ladd S.1 S.2.1 dX0_drawAll_56 ?_
        obtain ⟨x7, ex7, hf⟩ := bnd_some hf
        refine lv_rel ex7 ?_
        refine lv_lstore_n (lv' := [(1, .long x7), (5, .int x3), (4, .ref (ad (37 + (ix v3)))), (0, .ref (ad 1)), (3, .int v3)]) S.1 S.2.1 dX0_drawAll_57 rfl hl (by decide) rfl (fun ls hl => ?_)
        refine lv_aload S.1 S.2.1 dX0_drawAll_58 (lv_at hl 2 rfl) ?_
        refine lv_iload S.1 S.2.1 dX0_drawAll_60 (lv_at hl 1 rfl) ?_
        refine lv_if_eq (tgt := 71) S.1 S.2.1 dX0_drawAll_62 (by decide) (fun _ => ?_) (fun q9 => absurd h4 q9)
        refine lv_iconst (v := (0 : Int32)) S.1 S.2.1 dX0_drawAll_71 (by decide) ?_
        refine lv_goto (tgt := 82) S.1 S.2.1 dX0_drawAll_72 (by decide) ?_
        refine x_put S hI hK hP hS w_lay_X3 tyX3 tyX3_ok nmX3 (ci := 3) rfl (37 + (ix v3)) (ok_lt (ok_s1 hn (ib_lt h2))) (e3 (ok_s1 hn (ib_lt h2)).1) 10 (by decide) w_fl_X0_162 rfl rfl rfl rfl (Nat.le_of_ble_eq_true rfl) (entC E ad n (sI M5 (37 + (ix v3)) 10 (0 : Int32))) (h1_X3_10 (ok_s1 hn (ib_lt h2)).1 ) (fun _ h => entC_sI _ h) dX0_drawAll_82 (fun H locs hP hS => ?_)
        obtain ⟨M8, eM8, hf⟩ := bnd_some hf
        rw [← eM8] at hP
        refine lv_iinc (v := v3 + (1 : Int32)) (lv' := [(3, .int (v3 + (1 : Int32))), (1, .long x7), (5, .int x3), (4, .ref (ad (37 + (ix v3)))), (0, .ref (ad 1))]) S.1 S.2.1 dX0_drawAll_85 hl (k := 4) rfl rfl (by decide) rfl (fun ls hl => ?_)
        refine lv_goto (tgt := 4) S.1 S.2.1 dX0_drawAll_88 (by decide) ?_
        exact ih x7 (v3 + (1 : Int32))  M8 hf _ _ _ hP hS (lv_sub hl [4, 1, 0] rfl)
      · replace hf := iff_ h4 hf
        refine lv_iload S.1 S.2.1 dX0_drawAll_33 (lv_at hl 0 rfl) ?_
        refine lv_iconst (v := (1 : Int32)) S.1 S.2.1 dX0_drawAll_35 (by decide) ?_
        refine lv_icmp_ne (tgt := 58) S.1 S.2.1 dX0_drawAll_36 (by decide) (fun h9 => ?_) (fun h9 => ?_)
        · replace hf := iff_ h9 hf
          refine lv_aload S.1 S.2.1 dX0_drawAll_58 (lv_at hl 1 rfl) ?_
          refine lv_iload S.1 S.2.1 dX0_drawAll_60 (lv_at hl 0 rfl) ?_
          refine lv_if_eq (tgt := 71) S.1 S.2.1 dX0_drawAll_62 (by decide) (fun q9 => absurd q9 h4) (fun _ => ?_)
          refine lv_iload S.1 S.2.1 dX0_drawAll_65 (lv_at hl 0 rfl) ?_
          refine lv_iconst (v := (3 : Int32)) S.1 S.2.1 dX0_drawAll_67 (by decide) ?_
          refine lv_icmp_ne (tgt := 75) S.1 S.2.1 dX0_drawAll_68 (by decide) (fun h16 => ?_) (fun h16 => ?_)
          · replace hf := iff_ h16 hf
            refine lv_aload S.1 S.2.1 dX0_drawAll_75 (lv_at hl 1 rfl) ?_
            refine x_get (v := .int (gI M (37 + (ix v3)) 10)) S hK hP w_lay_X3 (ci := 3) rfl (37 + (ix v3)) (ok_lt (ok_s1 hn (ib_lt h2))) (e3 (ok_s1 hn (ib_lt h2)).1) 10 (by decide) w_fl_X0_162 rfl rfl dX0_drawAll_77 ?_
            refine lv_iconst (v := (1 : Int32)) S.1 S.2.1 dX0_drawAll_80 (by decide) ?_
            refine lv_iadd S.1 S.2.1 dX0_drawAll_81 ?_
            refine x_put S hI hK hP hS w_lay_X3 tyX3 tyX3_ok nmX3 (ci := 3) rfl (37 + (ix v3)) (ok_lt (ok_s1 hn (ib_lt h2))) (e3 (ok_s1 hn (ib_lt h2)).1) 10 (by decide) w_fl_X0_162 rfl rfl rfl rfl (Nat.le_of_ble_eq_true rfl) (entC E ad n (sI M (37 + (ix v3)) 10 ((gI M (37 + (ix v3)) 10) + (1 : Int32)))) (h1_X3_10 (ok_s1 hn (ib_lt h2)).1 ) (fun _ h => entC_sI _ h) dX0_drawAll_82 (fun H locs hP hS => ?_)
            obtain ⟨M18, eM18, hf⟩ := bnd_some hf
            rw [← eM18] at hP
            refine lv_iinc (v := v3 + (1 : Int32)) (lv' := [(3, .int (v3 + (1 : Int32))), (5, .int x3), (4, .ref (ad (37 + (ix v3)))), (0, .ref (ad 1)), (1, .long v1)]) S.1 S.2.1 dX0_drawAll_85 hl (k := 4) rfl rfl (by decide) rfl (fun ls hl => ?_)
            refine lv_goto (tgt := 4) S.1 S.2.1 dX0_drawAll_88 (by decide) ?_
            exact ih v1 (v3 + (1 : Int32))  M18 hf _ _ _ hP hS (lv_sub hl [3, 4, 0] rfl)
          · replace hf := ift h16 hf
            refine lv_iconst (v := (0 : Int32)) S.1 S.2.1 dX0_drawAll_71 (by decide) ?_
            refine lv_goto (tgt := 82) S.1 S.2.1 dX0_drawAll_72 (by decide) ?_
            refine x_put S hI hK hP hS w_lay_X3 tyX3 tyX3_ok nmX3 (ci := 3) rfl (37 + (ix v3)) (ok_lt (ok_s1 hn (ib_lt h2))) (e3 (ok_s1 hn (ib_lt h2)).1) 10 (by decide) w_fl_X0_162 rfl rfl rfl rfl (Nat.le_of_ble_eq_true rfl) (entC E ad n (sI M (37 + (ix v3)) 10 (0 : Int32))) (h1_X3_10 (ok_s1 hn (ib_lt h2)).1 ) (fun _ h => entC_sI _ h) dX0_drawAll_82 (fun H locs hP hS => ?_)
            obtain ⟨M17, eM17, hf⟩ := bnd_some hf
            rw [← eM17] at hP
            refine lv_iinc (v := v3 + (1 : Int32)) (lv' := [(3, .int (v3 + (1 : Int32))), (5, .int x3), (4, .ref (ad (37 + (ix v3)))), (0, .ref (ad 1)), (1, .long v1)]) S.1 S.2.1 dX0_drawAll_85 hl (k := 4) rfl rfl (by decide) rfl (fun ls hl => ?_)
            refine lv_goto (tgt := 4) S.1 S.2.1 dX0_drawAll_88 (by decide) ?_
            exact ih v1 (v3 + (1 : Int32))  M17 hf _ _ _ hP hS (lv_sub hl [3, 4, 0] rfl)
        · replace hf := ift h9 hf
          refine lv_lload_n S.1 S.2.1 dX0_drawAll_39 rfl (lv_at hl 3 rfl) ?_
          refine lv_aload_n S.1 S.2.1 dX0_drawAll_40 rfl (lv_at hl 2 rfl) ?_
          refine lv_aload S.1 S.2.1 dX0_drawAll_41 (lv_at hl 1 rfl) ?_
          refine lv_iload S.1 S.2.1 dX0_drawAll_43 (lv_at hl 0 rfl) ?_
          refine lv_if_ne (tgt := 52) S.1 S.2.1 dX0_drawAll_45 (by decide) (fun _ => ?_) (fun q9 => absurd q9 h4)
          refine lv_iconst (v := (0 : Int32)) S.1 S.2.1 dX0_drawAll_52 (by decide) ?_
          obtain ⟨x11, M10, gM10, hf⟩ := bn2_some hf
          refine y_Vl (As := [.ref (ad (37 + (ix v3))), .int (0 : Int32)]) S hK hN hP hS rfl (ok_lt (ok_b1 hn)) (e0 (ok_b1 hn).1) rfl (K_X0_draw l E ad n hI hn _ N (37 + (ix v3)) (0 : Int32) (ok_s1 hn (ib_lt h2)) M x11 M10 gM10) (cV 2 S w_co_yX0_draw w_in_X0 w_ml_X0_238 w_im_yX0_draw w_se_yX0_draw hd_X0_draw ⟨Nat.le_of_ble_eq_true rfl, Nat.le_of_ble_eq_true rfl⟩) hl.1 rfl rfl (Nat.le_of_ble_eq_true rfl) dX0_drawAll_53 ⟨Nat.zero_le _, Nat.zero_le _⟩ (fun H locs hP hS => ?_)
          refine lv_ladd S.1 S.2.1 dX0_drawAll_56 ?_
          obtain ⟨x12, ex12, hf⟩ := bnd_some hf
          refine lv_rel ex12 ?_
          refine lv_lstore_n (lv' := [(1, .long x12), (5, .int x3), (4, .ref (ad (37 + (ix v3)))), (0, .ref (ad 1)), (3, .int v3)]) S.1 S.2.1 dX0_drawAll_57 rfl hl (by decide) rfl (fun ls hl => ?_)
          refine lv_aload S.1 S.2.1 dX0_drawAll_58 (lv_at hl 2 rfl) ?_
          refine lv_iload S.1 S.2.1 dX0_drawAll_60 (lv_at hl 1 rfl) ?_
          refine lv_if_eq (tgt := 71) S.1 S.2.1 dX0_drawAll_62 (by decide) (fun q9 => absurd q9 h4) (fun _ => ?_)
          refine lv_iload S.1 S.2.1 dX0_drawAll_65 (lv_at hl 1 rfl) ?_
          refine lv_iconst (v := (3 : Int32)) S.1 S.2.1 dX0_drawAll_67 (by decide) ?_
          refine lv_icmp_ne (tgt := 75) S.1 S.2.1 dX0_drawAll_68 (by decide) (fun h13 => ?_) (fun h13 => ?_)
          · replace hf := iff_ h13 hf
            refine lv_aload S.1 S.2.1 dX0_drawAll_75 (lv_at hl 2 rfl) ?_
            refine x_get (v := .int (gI M10 (37 + (ix v3)) 10)) S hK hP w_lay_X3 (ci := 3) rfl (37 + (ix v3)) (ok_lt (ok_s1 hn (ib_lt h2))) (e3 (ok_s1 hn (ib_lt h2)).1) 10 (by decide) w_fl_X0_162 rfl rfl dX0_drawAll_77 ?_
            refine lv_iconst (v := (1 : Int32)) S.1 S.2.1 dX0_drawAll_80 (by decide) ?_
            refine lv_iadd S.1 S.2.1 dX0_drawAll_81 ?_
            refine x_put S hI hK hP hS w_lay_X3 tyX3 tyX3_ok nmX3 (ci := 3) rfl (37 + (ix v3)) (ok_lt (ok_s1 hn (ib_lt h2))) (e3 (ok_s1 hn (ib_lt h2)).1) 10 (by decide) w_fl_X0_162 rfl rfl rfl rfl (Nat.le_of_ble_eq_true rfl) (entC E ad n (sI M10 (37 + (ix v3)) 10 ((gI M10 (37 + (ix v3)) 10) + (1 : Int32)))) (h1_X3_10 (ok_s1 hn (ib_lt h2)).1 ) (fun _ h => entC_sI _ h) dX0_drawAll_82 (fun H locs hP hS => ?_)
            obtain ⟨M15, eM15, hf⟩ := bnd_some hf
            rw [← eM15] at hP
            refine lv_iinc (v := v3 + (1 : Int32)) (lv' := [(3, .int (v3 + (1 : Int32))), (1, .long x12), (5, .int x3), (4, .ref (ad (37 + (ix v3)))), (0, .ref (ad 1))]) S.1 S.2.1 dX0_drawAll_85 hl (k := 4) rfl rfl (by decide) rfl (fun ls hl => ?_)
            refine lv_goto (tgt := 4) S.1 S.2.1 dX0_drawAll_88 (by decide) ?_
            exact ih x12 (v3 + (1 : Int32))  M15 hf _ _ _ hP hS (lv_sub hl [4, 1, 0] rfl)
          · replace hf := ift h13 hf
            refine lv_iconst (v := (0 : Int32)) S.1 S.2.1 dX0_drawAll_71 (by decide) ?_
            refine lv_goto (tgt := 82) S.1 S.2.1 dX0_drawAll_72 (by decide) ?_
            refine x_put S hI hK hP hS w_lay_X3 tyX3 tyX3_ok nmX3 (ci := 3) rfl (37 + (ix v3)) (ok_lt (ok_s1 hn (ib_lt h2))) (e3 (ok_s1 hn (ib_lt h2)).1) 10 (by decide) w_fl_X0_162 rfl rfl rfl rfl (Nat.le_of_ble_eq_true rfl) (entC E ad n (sI M10 (37 + (ix v3)) 10 (0 : Int32))) (h1_X3_10 (ok_s1 hn (ib_lt h2)).1 ) (fun _ h => entC_sI _ h) dX0_drawAll_82 (fun H locs hP hS => ?_)
            obtain ⟨M14, eM14, hf⟩ := bnd_some hf
            rw [← eM14] at hP
            refine lv_iinc (v := v3 + (1 : Int32)) (lv' := [(3, .int (v3 + (1 : Int32))), (1, .long x12), (5, .int x3), (4, .ref (ad (37 + (ix v3)))), (0, .ref (ad 1))]) S.1 S.2.1 dX0_drawAll_85 hl (k := 4) rfl rfl (by decide) rfl (fun ls hl => ?_)
            refine lv_goto (tgt := 4) S.1 S.2.1 dX0_drawAll_88 (by decide) ?_
            exact ih x12 (v3 + (1 : Int32))  M14 hf _ _ _ hP hS (lv_sub hl [4, 1, 0] rfl)
set_option maxHeartbeats 4000000 in
set_option maxRecDepth 100000 in
theorem K_X0_drawAll (l : Launch) (E : EE) (ad : Nat → Nat) (n : Nat) (hI : ad_I ad n) (hn : 117 ≤ n) (sz : Nat) (N : Nat)   (M : MM) (r : Int64) (M' : MM) (hf : F_X0_drawAll N  M = some (r, M')) : CtL l yX0_drawAll cX0_drawAll 6 4 87 E (entC E ad n M) (entC E ad n M') ad n sz [.ref (ad 1)] (r) := by
  unfold CtL
  refine body_of (by decide) "SurvivorPurse$Book" rfl (Nat.le_of_ble_eq_true rfl) ?_
  intro p e s m below meth c hsz S hr hlk hP hK hN ls hl
  subst hsz
  have hS : va_S (AA ad n s.heap.size) s.heap s.heap [] := va_S.rf
  have hl : lv_has ls 6 [(0, .ref (ad 1))] := hl
  rw [F_X0_drawAll] at hf
  refine lv_lconst (v := (0 : Int64)) S.1 S.2.1 dX0_drawAll_0 (by decide) ?_
  refine lv_lstore_n (lv' := [(1, .long (0 : Int64)), (0, .ref (ad 1))]) S.1 S.2.1 dX0_drawAll_1 rfl hl (by decide) rfl (fun ls hl => ?_)
  refine lv_iconst (v := (0 : Int32)) S.1 S.2.1 dX0_drawAll_2 (by decide) ?_
  refine lv_istore_n (lv' := [(3, .int (0 : Int32)), (1, .long (0 : Int64)), (0, .ref (ad 1))]) S.1 S.2.1 dX0_drawAll_3 rfl hl (by decide) rfl (fun ls hl => ?_)
  exact L_X0_drawAll_4 l E ad n hI hn N   S hr hlk hK hN _ _ N (0 : Int64) (0 : Int32)  M hf _ _ _ hP hS (lv_sub hl [2, 1, 0] rfl)
theorem hd_X5_death : yX5_death.cls ≠ "java/lang/invoke/MethodHandle" ∧ yX5_death.cls ≠ "java/lang/invoke/VarHandle" ∧ (parseMethodDescriptor yX5_death.desc).map (fun d => d.parameters.length) = some 2 := by decide +kernel
set_option maxHeartbeats 4000000 in
set_option maxRecDepth 100000 in
theorem K_X5_death (l : Launch) (E : EE) (ad : Nat → Nat) (n : Nat) (hI : ad_I ad n) (hn : 117 ≤ n) (sz : Nat) (N : Nat) (a1 : Int32) (a2 : Int32)  (M : MM) (r : Int64) (M' : MM) (hf : F_X5_death N a1 a2 M = some (r, M')) : CtL l yX5_death cX5_death 3 7 171 E (entC E ad n M) (entC E ad n M') ad n sz [.ref (ad 0), .int a1, .int a2] (r) := by
  unfold CtL
  refine body_of (by decide) "SurvivorPurse" rfl (Nat.le_of_ble_eq_true rfl) ?_
  intro p e s m below meth c hsz S hr hlk hP hK hN ls hl
  subst hsz
  have hS : va_S (AA ad n s.heap.size) s.heap s.heap [] := va_S.rf
  have hl : lv_has ls 3 [(0, .ref (ad 0)), (1, .int a1), (2, .int a2)] := hl
  rw [F_X5_death] at hf
  refine lv_aload_n S.1 S.2.1 dX5_death_0 rfl (lv_at hl 0 rfl) ?_
  refine x_get (v := .ref (ad 1)) S hK hP w_lay_X5 (ci := 5) rfl 0 (ok_lt (ok_p hn)) (e5 (ok_p hn).1) 0 (by decide) w_fl_X5_10 rfl rfl dX5_death_1 ?_
  refine lv_iload_n S.1 S.2.1 dX5_death_4 rfl (lv_at hl 1 rfl) ?_
  refine y_Vi (As := [.int a1]) S hK hN hP hS rfl (ok_lt (ok_b1 hn)) (e0 (ok_b1 hn).1) rfl (K_X0_isMember l E ad n hI hn _ a1  M _ rfl) (cV 1 S w_co_yX0_isMember w_in_X0 w_ml_X5_85 w_im_yX0_isMember w_se_yX0_isMember hd_X0_isMember ⟨Nat.le_of_ble_eq_true rfl, Nat.le_of_ble_eq_true rfl⟩) hl.1 rfl rfl (Nat.le_of_ble_eq_true rfl) dX5_death_5 ⟨Nat.zero_le _, Nat.zero_le _⟩ (fun H locs hP hS => ?_)
  refine lv_if_eq (tgt := 26) S.1 S.2.1 dX5_death_8 (by decide) (fun h1 => ?_) (fun h1 => ?_)
  · replace hf := ift h1 hf
    refine lv_ldc2 (own := "SurvivorPurse") (v := (-1000000000000000 : Int64)) S.1 S.2.1 S.2.2.2.1 (S.2.2.2.2 _ w_kl_X5_34) dX5_death_26 ?_
    cases hf
    exact r_l S hr hlk hP hS dX5_death_29
  · replace hf := iff_ h1 hf
    refine lv_aload_n S.1 S.2.1 dX5_death_11 rfl (lv_at hl 0 rfl) ?_
    refine x_get (v := .ref (ad 1)) S hK hP w_lay_X5 (ci := 5) rfl 0 (ok_lt (ok_p hn)) (e5 (ok_p hn).1) 0 (by decide) w_fl_X5_10 rfl rfl dX5_death_12 ?_
    refine x_get (v := .ref (ad 4)) S hK hP w_lay_X0 (ci := 0) rfl 1 (ok_lt (ok_b1 hn)) (e0 (ok_b1 hn).1) 1 (by decide) w_fl_X5_88 rfl rfl dX5_death_15 ?_
    refine lv_iload_n S.1 S.2.1 dX5_death_18 rfl (lv_at hl 1 rfl) ?_
    obtain ⟨h2, hf⟩ := gd_some hf
    refine x_aald S hK hP 4 (ok_lt (ok_ma1 hn)) e9_1 2 rfl h2 dX5_death_19 ?_
    refine x_get (v := .int (bo (gI M (7 + (ix a1)) 5))) S hK hP w_lay_X1 (ci := 1) rfl (7 + (ix a1)) (ok_lt (ok_m1 hn (ib_lt h2))) (e1 (ok_m1 hn (ib_lt h2)).1) 5 (by decide) w_fl_X5_193 rfl rfl dX5_death_20 ?_
    refine lv_if_eq (tgt := 30) S.1 S.2.1 dX5_death_23 (by decide) (fun h3 => ?_) (fun h3 => ?_)
    · replace hf := ift h3 hf
      refine lv_iload_n S.1 S.2.1 dX5_death_30 rfl (lv_at hl 2 rfl) ?_
      refine lv_aload_n S.1 S.2.1 dX5_death_31 rfl (lv_at hl 0 rfl) ?_
      refine x_get (v := .ref (ad 1)) S hK hP w_lay_X5 (ci := 5) rfl 0 (ok_lt (ok_p hn)) (e5 (ok_p hn).1) 0 (by decide) w_fl_X5_10 rfl rfl dX5_death_32 ?_
      refine x_get (v := .ref (ad 4)) S hK hP w_lay_X0 (ci := 0) rfl 1 (ok_lt (ok_b1 hn)) (e0 (ok_b1 hn).1) 1 (by decide) w_fl_X5_88 rfl rfl dX5_death_35 ?_
      refine lv_iload_n S.1 S.2.1 dX5_death_38 rfl (lv_at hl 1 rfl) ?_
      refine x_aald S hK hP 4 (ok_lt (ok_ma1 hn)) e9_1 2 rfl h2 dX5_death_39 ?_
      refine x_get (v := .int (gI M (7 + (ix a1)) 0)) S hK hP w_lay_X1 (ci := 1) rfl (7 + (ix a1)) (ok_lt (ok_m1 hn (ib_lt h2))) (e1 (ok_m1 hn (ib_lt h2)).1) 0 (by decide) w_fl_X5_203 rfl rfl dX5_death_40 ?_
      refine lv_aload_n S.1 S.2.1 dX5_death_43 rfl (lv_at hl 0 rfl) ?_
      refine x_get (v := .ref (ad 1)) S hK hP w_lay_X5 (ci := 5) rfl 0 (ok_lt (ok_p hn)) (e5 (ok_p hn).1) 0 (by decide) w_fl_X5_10 rfl rfl dX5_death_44 ?_
      refine x_get (v := .int (gI M 1 7)) S hK hP w_lay_X0 (ci := 0) rfl 1 (ok_lt (ok_b1 hn)) (e0 (ok_b1 hn).1) 7 (by decide) w_fl_X5_75 rfl rfl dX5_death_47 ?_
      refine y_Si (As := [.int a2, .int (gI M (7 + (ix a1)) 0), .int (gI M 1 7)]) S hK hN hP hS rfl (K_X5_isWithin l E ad n hI hn _ a2 (gI M (7 + (ix a1)) 0) (gI M 1 7)  M _ rfl) (cS 3 S w_co_yX5_isWithin w_in_X5 w_ml_X5_97 w_st_yX5_isWithin hd_X5_isWithin ⟨Nat.le_of_ble_eq_true rfl, Nat.le_of_ble_eq_true rfl⟩) hl.1 rfl rfl (Nat.le_of_ble_eq_true rfl) dX5_death_50 ⟨Nat.zero_le _, Nat.zero_le _⟩ (fun H locs hP hS => ?_)
      refine lv_if_ne (tgt := 60) S.1 S.2.1 dX5_death_53 (by decide) (fun h4 => ?_) (fun h4 => ?_)
      · replace hf := iff_ h4 hf
        refine lv_aload_n S.1 S.2.1 dX5_death_60 rfl (lv_at hl 0 rfl) ?_
        refine x_get (v := .ref (ad 1)) S hK hP w_lay_X5 (ci := 5) rfl 0 (ok_lt (ok_p hn)) (e5 (ok_p hn).1) 0 (by decide) w_fl_X5_10 rfl rfl dX5_death_61 ?_
        refine lv_iload_n S.1 S.2.1 dX5_death_64 rfl (lv_at hl 1 rfl) ?_
        refine lv_iload_n S.1 S.2.1 dX5_death_65 rfl (lv_at hl 2 rfl) ?_
        obtain ⟨x6, M5, gM5, hf⟩ := bn2_some hf
        refine y_Vl (As := [.int a1, .int a2]) S hK hN hP hS rfl (ok_lt (ok_b1 hn)) (e0 (ok_b1 hn).1) rfl (K_X0_learnDeath l E ad n hI hn _ N a1 a2  M x6 M5 gM5) (cV 2 S w_co_yX0_learnDeath w_in_X0 w_ml_X5_206 w_im_yX0_learnDeath w_se_yX0_learnDeath hd_X0_learnDeath ⟨Nat.le_of_ble_eq_true rfl, Nat.le_of_ble_eq_true rfl⟩) hl.1 rfl rfl (Nat.le_of_ble_eq_true rfl) dX5_death_66 ⟨Nat.zero_le _, Nat.zero_le _⟩ (fun H locs hP hS => ?_)
        cases hf
        exact r_l S hr hlk hP hS dX5_death_69
      · replace hf := ift h4 hf
        refine lv_ldc2 (own := "SurvivorPurse") (v := (-1000000000000000 : Int64)) S.1 S.2.1 S.2.2.2.1 (S.2.2.2.2 _ w_kl_X5_34) dX5_death_56 ?_
        cases hf
        exact r_l S hr hlk hP hS dX5_death_59
    · replace hf := iff_ h3 hf
      refine lv_ldc2 (own := "SurvivorPurse") (v := (-1000000000000000 : Int64)) S.1 S.2.1 S.2.2.2.1 (S.2.2.2.2 _ w_kl_X5_34) dX5_death_26 ?_
      cases hf
      exact r_l S hr hlk hP hS dX5_death_29
theorem hd_X5_close : yX5_close.cls ≠ "java/lang/invoke/MethodHandle" ∧ yX5_close.cls ≠ "java/lang/invoke/VarHandle" ∧ (parseMethodDescriptor yX5_close.desc).map (fun d => d.parameters.length) = some 1 := by decide +kernel
set_option maxHeartbeats 4000000 in
set_option maxRecDepth 100000 in
theorem K_X5_close (l : Launch) (E : EE) (ad : Nat → Nat) (n : Nat) (hI : ad_I ad n) (hn : 117 ≤ n) (sz : Nat) (N : Nat) (a1 : Int32)  (M : MM) (r : Int64) (M' : MM) (hf : F_X5_close N a1 M = some (r, M')) : CtL l yX5_close cX5_close 4 7 157 E (entC E ad n M) (entC E ad n M') ad n sz [.ref (ad 0), .int a1] (r) := by
  unfold CtL
  refine body_of (by decide) "SurvivorPurse" rfl (Nat.le_of_ble_eq_true rfl) ?_
  intro p e s m below meth c hsz S hr hlk hP hK hN ls hl
  subst hsz
  have hS : va_S (AA ad n s.heap.size) s.heap s.heap [] := va_S.rf
  have hl : lv_has ls 4 [(0, .ref (ad 0)), (1, .int a1)] := hl
  rw [F_X5_close] at hf
  refine lv_iload_n S.1 S.2.1 dX5_close_0 rfl (lv_at hl 1 rfl) ?_
  refine lv_iconst (v := (0 : Int32)) S.1 S.2.1 dX5_close_1 (by decide) ?_
  refine lv_ldc (own := "SurvivorPurse") (v := (100000000 : Int32)) S.1 S.2.1 S.2.2.2.1 (S.2.2.2.2 _ w_ki_X5_209) dX5_close_2 ?_
  refine y_Si (As := [.int a1, .int (0 : Int32), .int (100000000 : Int32)]) S hK hN hP hS rfl (K_X5_isWithin l E ad n hI hn _ a1 (0 : Int32) (100000000 : Int32)  M _ rfl) (cS 3 S w_co_yX5_isWithin w_in_X5 w_ml_X5_97 w_st_yX5_isWithin hd_X5_isWithin ⟨Nat.le_of_ble_eq_true rfl, Nat.le_of_ble_eq_true rfl⟩) hl.1 rfl rfl (Nat.le_of_ble_eq_true rfl) dX5_close_4 ⟨Nat.zero_le _, Nat.zero_le _⟩ (fun H locs hP hS => ?_)
  refine lv_if_eq (tgt := 22) S.1 S.2.1 dX5_close_7 (by decide) (fun h1 => ?_) (fun h1 => ?_)
  · replace hf := ift h1 hf
    refine lv_ldc2 (own := "SurvivorPurse") (v := (-1000000000000000 : Int64)) S.1 S.2.1 S.2.2.2.1 (S.2.2.2.2 _ w_kl_X5_34) dX5_close_22 ?_
    cases hf
    exact r_l S hr hlk hP hS dX5_close_25
  · replace hf := iff_ h1 hf
    refine lv_aload_n S.1 S.2.1 dX5_close_10 rfl (lv_at hl 0 rfl) ?_
    refine x_get (v := .ref (ad 1)) S hK hP w_lay_X5 (ci := 5) rfl 0 (ok_lt (ok_p hn)) (e5 (ok_p hn).1) 0 (by decide) w_fl_X5_10 rfl rfl dX5_close_11 ?_
    refine x_get (v := .int (gI M 1 7)) S hK hP w_lay_X0 (ci := 0) rfl 1 (ok_lt (ok_b1 hn)) (e0 (ok_b1 hn).1) 7 (by decide) w_fl_X5_75 rfl rfl dX5_close_14 ?_
    refine lv_bipush (v := (60 : Int32)) S.1 S.2.1 dX5_close_17 (by decide) ?_
    refine lv_icmp_lt (tgt := 26) S.1 S.2.1 dX5_close_19 (by decide) (fun h2 => ?_) (fun h2 => ?_)
    · replace hf := ift h2 hf
      refine lv_aload_n S.1 S.2.1 dX5_close_26 rfl (lv_at hl 0 rfl) ?_
      refine x_get (v := .ref (ad 1)) S hK hP w_lay_X5 (ci := 5) rfl 0 (ok_lt (ok_p hn)) (e5 (ok_p hn).1) 0 (by decide) w_fl_X5_10 rfl rfl dX5_close_27 ?_
      refine lv_iload_n S.1 S.2.1 dX5_close_30 rfl (lv_at hl 1 rfl) ?_
      obtain ⟨M3, gM3, hf⟩ := bn1_some hf
      refine y_Vv (As := [.int a1]) S hK hN hP hS rfl (ok_lt (ok_b1 hn)) (e0 (ok_b1 hn).1) rfl (K_X0_partPot l E ad n hI hn _ N a1  M M3 gM3) (cV 1 S w_co_yX0_partPot w_in_X0 w_ml_X5_210 w_im_yX0_partPot w_se_yX0_partPot hd_X0_partPot ⟨Nat.le_of_ble_eq_true rfl, Nat.le_of_ble_eq_true rfl⟩) hl.1 rfl rfl (Nat.le_of_ble_eq_true rfl) dX5_close_31 ⟨Nat.zero_le _, Nat.zero_le _⟩ (fun H locs hP hS => ?_)
      refine lv_aload_n S.1 S.2.1 dX5_close_34 rfl (lv_at hl 0 rfl) ?_
      refine x_get (v := .ref (ad 1)) S hK hP w_lay_X5 (ci := 5) rfl 0 (ok_lt (ok_p hn)) (e5 (ok_p hn).1) 0 (by decide) w_fl_X5_10 rfl rfl dX5_close_35 ?_
      obtain ⟨x5, M4, gM4, hf⟩ := bn2_some hf
      refine y_Vl (As := []) S hK hN hP hS rfl (ok_lt (ok_b1 hn)) (e0 (ok_b1 hn).1) rfl (K_X0_drawAll l E ad n hI hn _ N   M3 x5 M4 gM4) (cV 0 S w_co_yX0_drawAll w_in_X0 w_ml_X5_214 w_im_yX0_drawAll w_se_yX0_drawAll hd_X0_drawAll ⟨Nat.le_of_ble_eq_true rfl, Nat.le_of_ble_eq_true rfl⟩) hl.1 rfl rfl (Nat.le_of_ble_eq_true rfl) dX5_close_38 ⟨Nat.zero_le _, Nat.zero_le _⟩ (fun H locs hP hS => ?_)
      refine lv_lstore_n (lv' := [(2, .long x5), (0, .ref (ad 0)), (1, .int a1)]) S.1 S.2.1 dX5_close_41 rfl hl (by decide) rfl (fun ls hl => ?_)
      refine lv_aload_n S.1 S.2.1 dX5_close_42 rfl (lv_at hl 1 rfl) ?_
      refine x_get (v := .ref (ad 1)) S hK hP w_lay_X5 (ci := 5) rfl 0 (ok_lt (ok_p hn)) (e5 (ok_p hn).1) 0 (by decide) w_fl_X5_10 rfl rfl dX5_close_43 ?_
      obtain ⟨M6, gM6, hf⟩ := bn1_some hf
      refine y_Vv (As := []) S hK hN hP hS rfl (ok_lt (ok_b1 hn)) (e0 (ok_b1 hn).1) rfl (K_X0_beginNextYear l E ad n hI hn _ N   M4 M6 gM6) (cV 0 S w_co_yX0_beginNextYear w_in_X0 w_ml_X5_218 w_im_yX0_beginNextYear w_se_yX0_beginNextYear hd_X0_beginNextYear ⟨Nat.le_of_ble_eq_true rfl, Nat.le_of_ble_eq_true rfl⟩) hl.1 rfl rfl (Nat.le_of_ble_eq_true rfl) dX5_close_46 ⟨Nat.zero_le _, Nat.zero_le _⟩ (fun H locs hP hS => ?_)
      refine lv_aload_n S.1 S.2.1 dX5_close_49 rfl (lv_at hl 1 rfl) ?_
      refine x_get (v := .ref (ad 1)) S hK hP w_lay_X5 (ci := 5) rfl 0 (ok_lt (ok_p hn)) (e5 (ok_p hn).1) 0 (by decide) w_fl_X5_10 rfl rfl dX5_close_50 ?_
      obtain ⟨M7, gM7, hf⟩ := bn1_some hf
      refine y_Vv (As := []) S hK hN hP hS rfl (ok_lt (ok_b1 hn)) (e0 (ok_b1 hn).1) rfl (K_X0_giveBack l E ad n hI hn _ N   M6 M7 gM7) (cV 0 S w_co_yX0_giveBack w_in_X0 w_ml_X5_221 w_im_yX0_giveBack w_se_yX0_giveBack hd_X0_giveBack ⟨Nat.le_of_ble_eq_true rfl, Nat.le_of_ble_eq_true rfl⟩) hl.1 rfl rfl (Nat.le_of_ble_eq_true rfl) dX5_close_53 ⟨Nat.zero_le _, Nat.zero_le _⟩ (fun H locs hP hS => ?_)
      refine lv_lload_n S.1 S.2.1 dX5_close_56 rfl (lv_at hl 0 rfl) ?_
      cases hf
      exact r_l S hr hlk hP hS dX5_close_57
    · replace hf := iff_ h2 hf
      refine lv_ldc2 (own := "SurvivorPurse") (v := (-1000000000000000 : Int64)) S.1 S.2.1 S.2.2.2.1 (S.2.2.2.2 _ w_kl_X5_34) dX5_close_22 ?_
      cases hf
      exact r_l S hr hlk hP hS dX5_close_25

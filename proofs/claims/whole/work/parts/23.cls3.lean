def F_X4_sumAbove_7 (N : Nat) (c0 : Nat) (a1 : Int32) : Nat → Int64 → Int32 → MM → Option Int64
  | 0, _, _, _ => none
  | fu + 1, v2, v4, M =>
    if (110 : Int32) < v4 then
      some v2
    else
      bn1 (F_X4_at N c0 v4 M) (fun x3 =>
      bnd (v2 + x3) (fun x4 =>
      F_X4_sumAbove_7 N c0 a1 fu x4 (v4 + (1 : Int32)) M
      ))
def F_X4_sumAbove (N : Nat) (c0 : Nat) (a1 : Int32) (M : MM) : Option Int64 :=
  bnd (a1 + (1 : Int32)) (fun x1 =>
  F_X4_sumAbove_7 N c0 a1 N (0 : Int64) x1 M
  )
def F_X5_living (N : Nat) (a1 : Int32) (a2 : Int32) (M : MM) : Option (Int64 × MM) :=
  if bI (F_X5_isAge a1) = (0 : Int32) then
    some ((-1000000000000000 : Int64), M)
  else
    if a2 < (0 : Int32) then
      some ((-1000000000000000 : Int64), M)
    else
      if (100000 : Int32) < a2 then
        some ((-1000000000000000 : Int64), M)
      else
        bn1 (F_X4_fits N 2 a1 a2 M) (fun x4 =>
        if bI x4 = (0 : Int32) then
          some ((-1000000000000000 : Int64), M)
        else
          bn2 (F_X4_replace N 2 a1 a2 M) (fun x7 M6 =>
          some (x7, M6)
          )
        )
def F_X5_foretell (N : Nat) (a1 : Int32) (a2 : Int32) (M : MM) : Option Int64 :=
  if bI (F_X5_isAge a1) = (0 : Int32) then
    some (-1000000000000000 : Int64)
  else
    if (0 : Int32) ≤ a2 then
      if a2 ≤ (110 : Int32) - a1 then
        bn1 (F_X4_at N 2 (a1 + a2) M) (fun x4 =>
        bn1 (F_X4_at N 2 a1 M) (fun x5 =>
        some (F_X5_parted (1000000 : Int64) x4 x5)
        ))
      else
        some (0 : Int64)
    else
      some (-1000000000000000 : Int64)
def F_X5_mean (N : Nat) (a1 : Int32) (M : MM) : Option Int64 :=
  if bI (F_X5_isAge a1) = (0 : Int32) then
    some (-1000000000000000 : Int64)
  else
    bn1 (F_X4_sumAbove N 2 a1 M) (fun x2 =>
    bn1 (F_X4_at N 2 a1 M) (fun x3 =>
    some (F_X5_parted (1000 : Int64) x2 x3)
    ))
def F_X5_dearer (N : Nat) (a1 : Int32) (a2 : Int32) (M : MM) : Option Int64 :=
  if bI (F_X0_isRank a1 M) = (0 : Int32) then
    some (-1000000000000000 : Int64)
  else
    if bI (F_X0_isRank a2 M) = (0 : Int32) then
      some (-1000000000000000 : Int64)
    else
      gd (ib a1 6) (
      gd (ib a2 6) (
      bn1 (F_X4_sumAbove N 2 (gI M (31 + (ix a1)) 0) M) (fun x5 =>
      bn1 (F_X4_sumAbove N 2 (gI M (31 + (ix a2)) 0) M) (fun x6 =>
      if x5 = (0 : Int64) then
        some (F_X5_sign x6 x5)
      else
        if x6 = (0 : Int64) then
          some (F_X5_sign x6 x5)
        else
          bn1 (F_X4_at N 2 (gI M (31 + (ix a1)) 0) M) (fun x9 =>
          bn1 (F_X4_at N 2 (gI M (31 + (ix a2)) 0) M) (fun x10 =>
          some (F_X5_sign ((((gI M (31 + (ix a1)) 2).toInt64) * x9) * x6) ((((gI M (31 + (ix a2)) 2).toInt64) * x10) * x5))
          ))
      ))))
def F_X5_member (N : Nat) (a1 : Int32) (M : MM) : Option (Int64 × MM) :=
  if gI M 1 7 < a1 then
    some ((-1000000000000000 : Int64), M)
  else
    if a1 < (gI M 1 7) - (110 : Int32) then
      some ((-1000000000000000 : Int64), M)
    else
      if gI M 1 4 < (24 : Int32) then
        bn2 (F_X0_addMember N a1 M) (fun x5 M4 =>
        some (x5.toInt64, M4)
        )
      else
        some ((-1000000000000000 : Int64), M)
def F_X5_group (N : Nat) (a1 : Int32) (a2 : Int32) (a3 : Int32) (M : MM) : Option (Int64 × MM) :=
  if bI (F_X5_isAge a1) = (0 : Int32) then
    some ((-1000000000000000 : Int64), M)
  else
    if bI (F_X5_isAge a2) = (0 : Int32) then
      some ((-1000000000000000 : Int64), M)
    else
      if a1 ≤ a2 then
        if bI (F_X5_isWithin a3 (1 : Int32) (10000 : Int32)) = (0 : Int32) then
          some ((-1000000000000000 : Int64), M)
        else
          if gI M 1 5 < (6 : Int32) then
            bn2 (F_X0_addRank N a1 a2 a3 M) (fun x7 M6 =>
            some (x7.toInt64, M6)
            )
          else
            some ((-1000000000000000 : Int64), M)
      else
        some ((-1000000000000000 : Int64), M)
def F_X5_set_32 (N : Nat) (a1 : Int32) (a2 : Int32)  (M : MM) : Option (Int64 × MM) :=
    if a1 = (1 : Int32) then
      if bI (F_X5_isWithin a2 (0 : Int32) (1000 : Int32)) = (0 : Int32) then
        some ((-1000000000000000 : Int64), M)
      else
        bnd (gI M 1 9) (fun x7 =>
        bnd (sI M 1 9 a2) (fun M8 =>
        some (x7.toInt64, M8)
        ))
    else
      some ((-1000000000000000 : Int64), M)
def F_X5_set (N : Nat) (a1 : Int32) (a2 : Int32) (M : MM) : Option (Int64 × MM) :=
  if a1 = (0 : Int32) then
    if bI (F_X5_isWithin a2 (1 : Int32) (5 : Int32)) = (0 : Int32) then
      F_X5_set_32 N a1 a2   M
    else
      bnd (gI M 1 8) (fun x3 =>
      bnd (sI M 1 8 a2) (fun M4 =>
      some (x3.toInt64, M4)
      ))
  else
    F_X5_set_32 N a1 a2   M
def F_X5_pledge (N : Nat) (a1 : Int32) (a2 : Int32) (a3 : Int32) (M : MM) : Option (Int64 × MM) :=
  if bI (F_X0_isShare a1 M) = (0 : Int32) then
    some ((-1000000000000000 : Int64), M)
  else
    if bI (F_X0_isMember a2 M) = (0 : Int32) then
      some ((-1000000000000000 : Int64), M)
    else
      if bI (F_X5_isWithin a3 (0 : Int32) (1000000000 : Int32)) = (0 : Int32) then
        some ((-1000000000000000 : Int64), M)
      else
        gd (ib a1 40) (
        bnd (gL M (37 + (ix a1)) 11) (fun x5 =>
        bnd (sL M (37 + (ix a1)) 11 a3.toInt64) (fun M6 =>
        bnd (sI M6 (37 + (ix a1)) 12 a2) (fun M7 =>
        some (x5, M7)
        ))))
def F_X5_drew (N : Nat) (a1 : Int32) (a2 : Int32) (M : MM) : Option Int64 :=
  if bI (F_X0_isShare a1 M) = (0 : Int32) then
    some (-1000000000000000 : Int64)
  else
    if bI (F_X5_isWithin a2 (0 : Int32) ((gI M 1 7) - (1 : Int32))) = (0 : Int32) then
      some (-1000000000000000 : Int64)
    else
      gd (ib a1 40) (
      bn1 (F_X3_drewIn N (37 + (ix a1)) a2 (a2 + (1 : Int32)) M) (fun x4 =>
      some x4
      ))
def F_X5_proof (N : Nat) (a1 : Int32) (M : MM) : Option (Int64 × MM) :=
  if bI (F_X0_isMember a1 M) = (0 : Int32) then
    some ((-1000000000000000 : Int64), M)
  else
    gd (ib a1 24) (
    if bo (gI M (7 + (ix a1)) 5) = (0 : Int32) then
      if bo (gI M (7 + (ix a1)) 4) = (0 : Int32) then
        bn2 (F_X0_prove N a1 M) (fun x6 M5 =>
        some (x6, M5)
        )
      else
        some ((-1000000000000000 : Int64), M)
    else
      some ((-1000000000000000 : Int64), M)
    )
def F_X5_told (N : Nat) (a1 : Int32) (M : MM) : Option Int64 :=
  if a1 = (0 : Int32) then
    some ((gI M 1 7).toInt64)
  else
    if a1 = (1 : Int32) then
      some (gL M 1 10)
    else
      if a1 = (2 : Int32) then
        some (gL M 1 11)
      else
        if a1 = (3 : Int32) then
          bn1 (F_X0_allHeld N  M) (fun x5 =>
          some x5
          )
        else
          if a1 = (4 : Int32) then
            bn1 (F_X0_allPurses N  M) (fun x7 =>
            some x7
            )
          else
            if a1 = (5 : Int32) then
              bn1 (F_X0_allStocks N  M) (fun x9 =>
              some x9
              )
            else
              if a1 = (6 : Int32) then
                bn1 (F_X0_allDebts N  M) (fun x11 =>
                some x11
                )
              else
                if a1 = (7 : Int32) then
                  some (gL M 1 12)
                else
                  if a1 = (8 : Int32) then
                    some ((gI M 1 4).toInt64)
                  else
                    if a1 = (9 : Int32) then
                      some ((gI M 1 5).toInt64)
                    else
                      if a1 = (10 : Int32) then
                        some ((gI M 1 6).toInt64)
                      else
                        some (-1000000000000000 : Int64)
def F_X0_addShare (N : Nat) (a1 : Int32) (a2 : Int32) (a3 : Int32) (a4 : Int32) (a5 : Int32) (M : MM) : Option (Int32 × MM) :=
  gd (ib (gI M 1 6) 40) (
  bn1 (F_X3_begin N (37 + (ix (gI M 1 6))) (gI M 1 7) M) (fun M2 =>
  bnd (sI M2 (37 + (ix (gI M 1 6))) 0 a1) (fun M3 =>
  bnd (sI M3 (37 + (ix (gI M 1 6))) 1 a2) (fun M4 =>
  bnd (sI M4 (37 + (ix (gI M 1 6))) 2 a3) (fun M5 =>
  bnd (sI M5 (37 + (ix (gI M 1 6))) 3 a4) (fun M6 =>
  bnd (sI M6 (37 + (ix (gI M 1 6))) 4 a5) (fun M7 =>
  gd (ib a5 6) (
  bnd (sL M7 (37 + (ix (gI M 1 6))) 6 (a4.toInt64 * ((gI M7 (31 + (ix a5)) 2).toInt64))) (fun M9 =>
  bnd (sL M9 (31 + (ix a5)) 3 ((gL M9 (31 + (ix a5)) 3) + (gL M9 (37 + (ix (gI M 1 6))) 6))) (fun M10 =>
  bnd (sL M10 1 12 ((gL M10 1 12) + (gL M10 (37 + (ix (gI M 1 6))) 6))) (fun M11 =>
  bnd (sI M11 1 6 ((gI M11 1 6) + (1 : Int32))) (fun M12 =>
  some ((gI M12 1 6) - (1 : Int32), M12)
  ))))))))))))
def F_X0_addPart (N : Nat) (c1 : Nat) (a2 : Int32) (M : MM) : Option (Int32 × MM) :=
  gd (ib (gI M 1 6) 40) (
  bn1 (F_X3_copyFrom N (37 + (ix (gI M 1 6))) c1 M) (fun M2 =>
  bn1 (F_X3_shrinkTo N (37 + (ix (gI M 1 6))) a2 M2) (fun M3 =>
  bn1 (F_X3_loseTo N c1 (37 + (ix (gI M 1 6))) M3) (fun M4 =>
  bnd (sI M4 1 6 ((gI M4 1 6) + (1 : Int32))) (fun M5 =>
  some ((gI M5 1 6) - (1 : Int32), M5)
  )))))
def F_X0_settle (N : Nat) (c1 : Nat) (M : MM) : Option (Int64 × MM) :=
  bn1 (F_X0_endOf N c1 M) (fun x1 =>
  bn2 (F_X3_forgetHeldAbove N c1 x1 (gI M 1 7) M) (fun x3 M2 =>
  bnd (sL M2 1 10 ((gL M 1 10) + x3)) (fun M4 =>
  bn2 (F_X0_payHeld N c1 M4) (fun x6 M5 =>
  bn1 (F_X3_drewIn N c1 (mxI (x1 + (1 : Int32)) (gI M5 c1 9)) (gI M5 1 7) M5) (fun x7 =>
  gd (ib (gI M5 c1 0) 24) (
  bnd (sL M5 (7 + (ix (gI M5 c1 0))) 2 ((gL M5 (7 + (ix (gI M5 c1 0))) 2) + x7)) (fun M9 =>
  some (x7, M9)
  )))))))
theorem hd_X4_sumAbove : yX4_sumAbove.cls ≠ "java/lang/invoke/MethodHandle" ∧ yX4_sumAbove.cls ≠ "java/lang/invoke/VarHandle" ∧ (parseMethodDescriptor yX4_sumAbove.desc).map (fun d => d.parameters.length) = some 1 := by decide +kernel
set_option maxHeartbeats 4000000 in
set_option maxRecDepth 100000 in
theorem L_X4_sumAbove_7 (l : Launch) (E : EE) (ad : Nat → Nat) (n : Nat) (hI : ad_I ad n) (hn : 117 ≤ n) (N : Nat) (c0 : Nat) (a1 : Int32) (P0 : ok 4 n c0) {p : Program} {e : Env} {s : State} {m : MethodId} {below : List Frame} {meth : Method} {c : Code} (S : CallFix p m c cX4_sumAbove 5 s [.ref (ad c0), .int a1].toArray bg_B "SurvivorPurse$Table") (hr : meth.sig.returnType = (some .long)) (hlk : meth.locks = false) (hK : va_K E.1 vwCl (tysE E) s) (hN : NW s) (r : Int64) : ∀ (fu : Nat) (v2 : Int64) (v4 : Int32)  (M : MM), F_X4_sumAbove_7 N c0 a1 fu v2 v4 M = some r → ∀ (H : Heap) (locs : List Loc) (ls : Array Slot), va_P E.1 vwCl (mw (entC E ad n M) ad n) H → va_S (AA ad n s.heap.size) s.heap H locs → lv_has ls 5 [(0, .ref (ad c0)), (2, .long v2), (4, .int v4)] → W p l e { frames := 3, cells := 0, slots := 0, locals := 63 } s m [.ref (ad c0), .int a1].toArray below meth c H locs 0 0 (MQ below (va_Ql (fun r0 (_ : Unit) => r0 = r) (fun _ t => QB E (entC E ad n M) ad n t) (AA ad n s.heap.size)) [.ref (ad c0), .int a1].toArray s 0 0 (AA ad n s.heap.size)) (F0 m 7 ls []) := by
  intro fu
  induction fu with
  | zero =>
    intro v2 v4 M hf
    rw [F_X4_sumAbove_7] at hf
    cases hf
  | succ fu ih =>
    intro v2 v4 M hf H locs ls hP hS hl
    rw [F_X4_sumAbove_7] at hf
    refine lv_iload S.1 S.2.1 dX4_sumAbove_7 (lv_at hl 2 rfl) ?_
    refine lv_bipush (v := (110 : Int32)) S.1 S.2.1 dX4_sumAbove_9 (by decide) ?_
    refine lv_icmp_gt (tgt := 29) S.1 S.2.1 dX4_sumAbove_11 (by decide) (fun h2 => ?_) (fun h2 => ?_)
    · replace hf := ift h2 hf
      refine lv_lload_n S.1 S.2.1 dX4_sumAbove_29 rfl (lv_at hl 1 rfl) ?_
      cases hf
      exact r_l S hr hlk hP hS dX4_sumAbove_30
    · replace hf := iff_ h2 hf
      refine lv_lload_n S.1 S.2.1 dX4_sumAbove_14 rfl (lv_at hl 1 rfl) ?_
      refine lv_aload_n S.1 S.2.1 dX4_sumAbove_15 rfl (lv_at hl 0 rfl) ?_
      refine lv_iload S.1 S.2.1 dX4_sumAbove_16 (lv_at hl 2 rfl) ?_
      obtain ⟨x3, gx3, hf⟩ := bn1_some hf
      refine y_Vl (As := [.int v4]) S hK hN hP hS rfl (ok_lt P0) (e4 P0.1) rfl (K_X4_at l E ad n hI hn _ N c0 v4 P0 M x3 gx3) (cV 1 S w_co_yX4_at w_in_X4 w_ml_X4_20 w_im_yX4_at w_se_yX4_at hd_X4_at ⟨Nat.le_of_ble_eq_true rfl, Nat.le_of_ble_eq_true rfl⟩) hl.1 rfl rfl (Nat.le_of_ble_eq_true rfl) dX4_sumAbove_18 ⟨Nat.zero_le _, Nat.zero_le _⟩ (fun H locs hP hS => ?_)
      refine lv_ladd S.1 S.2.1 dX4_sumAbove_21 ?_
      obtain ⟨x4, ex4, hf⟩ := bnd_some hf
      refine lv_rel ex4 ?_
      refine lv_lstore_n (lv' := [(2, .long x4), (0, .ref (ad c0)), (4, .int v4)]) S.1 S.2.1 dX4_sumAbove_22 rfl hl (by decide) rfl (fun ls hl => ?_)
      refine lv_iinc (v := v4 + (1 : Int32)) (lv' := [(4, .int (v4 + (1 : Int32))), (2, .long x4), (0, .ref (ad c0))]) S.1 S.2.1 dX4_sumAbove_23 hl (k := 2) rfl rfl (by decide) rfl (fun ls hl => ?_)
      refine lv_goto (tgt := 7) S.1 S.2.1 dX4_sumAbove_26 (by decide) ?_
      exact ih x4 (v4 + (1 : Int32))  M hf _ _ _ hP hS (lv_sub hl [2, 1, 0] rfl)
set_option maxHeartbeats 4000000 in
set_option maxRecDepth 100000 in
theorem K_X4_sumAbove (l : Launch) (E : EE) (ad : Nat → Nat) (n : Nat) (hI : ad_I ad n) (hn : 117 ≤ n) (sz : Nat) (N : Nat) (c0 : Nat) (a1 : Int32) (P0 : ok 4 n c0) (M : MM) (r : Int64) (hf : F_X4_sumAbove N c0 a1 M = some r) : CtL l yX4_sumAbove cX4_sumAbove 5 3 63 E (entC E ad n M) (entC E ad n M) ad n sz [.ref (ad c0), .int a1] (r) := by
  unfold CtL
  refine body_of (by decide) "SurvivorPurse$Table" rfl (Nat.le_of_ble_eq_true rfl) ?_
  intro p e s m below meth c hsz S hr hlk hP hK hN ls hl
  subst hsz
  have hS : va_S (AA ad n s.heap.size) s.heap s.heap [] := va_S.rf
  have hl : lv_has ls 5 [(0, .ref (ad c0)), (1, .int a1)] := hl
  rw [F_X4_sumAbove] at hf
  refine lv_lconst (v := (0 : Int64)) S.1 S.2.1 dX4_sumAbove_0 (by decide) ?_
  refine lv_lstore_n (lv' := [(2, .long (0 : Int64)), (0, .ref (ad c0)), (1, .int a1)]) S.1 S.2.1 dX4_sumAbove_1 rfl hl (by decide) rfl (fun ls hl => ?_)
  refine lv_iload_n S.1 S.2.1 dX4_sumAbove_2 rfl (lv_at hl 2 rfl) ?_
  refine lv_iconst (v := (1 : Int32)) S.1 S.2.1 dX4_sumAbove_3 (by decide) ?_
  refine lv_iadd S.1 S.2.1 dX4_sumAbove_4 ?_
  obtain ⟨x1, ex1, hf⟩ := bnd_some hf
  refine lv_rei ex1 ?_
  refine lv_istore (lv' := [(4, .int x1), (2, .long (0 : Int64)), (0, .ref (ad c0)), (1, .int a1)]) S.1 S.2.1 dX4_sumAbove_5 hl (by decide) rfl (fun ls hl => ?_)
  exact L_X4_sumAbove_7 l E ad n hI hn N c0 a1 P0 S hr hlk hK hN _ N (0 : Int64) x1  M hf _ _ _ hP hS (lv_sub hl [2, 1, 0] rfl)
theorem hd_X5_living : yX5_living.cls ≠ "java/lang/invoke/MethodHandle" ∧ yX5_living.cls ≠ "java/lang/invoke/VarHandle" ∧ (parseMethodDescriptor yX5_living.desc).map (fun d => d.parameters.length) = some 2 := by decide +kernel
set_option maxHeartbeats 4000000 in
set_option maxRecDepth 100000 in
theorem K_X5_living (l : Launch) (E : EE) (ad : Nat → Nat) (n : Nat) (hI : ad_I ad n) (hn : 117 ≤ n) (sz : Nat) (N : Nat) (a1 : Int32) (a2 : Int32)  (M : MM) (r : Int64) (M' : MM) (hf : F_X5_living N a1 a2 M = some (r, M')) : CtL l yX5_living cX5_living 3 4 87 E (entC E ad n M) (entC E ad n M') ad n sz [.ref (ad 0), .int a1, .int a2] (r) := by
  unfold CtL
  refine body_of (by decide) "SurvivorPurse" rfl (Nat.le_of_ble_eq_true rfl) ?_
  intro p e s m below meth c hsz S hr hlk hP hK hN ls hl
  subst hsz
  have hS : va_S (AA ad n s.heap.size) s.heap s.heap [] := va_S.rf
  have hl : lv_has ls 3 [(0, .ref (ad 0)), (1, .int a1), (2, .int a2)] := hl
  rw [F_X5_living] at hf
  refine lv_iload_n S.1 S.2.1 dX5_living_0 rfl (lv_at hl 1 rfl) ?_
  refine y_Si (As := [.int a1]) S hK hN hP hS rfl (K_X5_isAge l E ad n hI hn _ a1  M _ rfl) (cS 1 S w_co_yX5_isAge w_in_X5 w_ml_X5_19 w_st_yX5_isAge hd_X5_isAge ⟨Nat.le_of_ble_eq_true rfl, Nat.le_of_ble_eq_true rfl⟩) hl.1 rfl rfl (Nat.le_of_ble_eq_true rfl) dX5_living_1 ⟨Nat.zero_le _, Nat.zero_le _⟩ (fun H locs hP hS => ?_)
  refine lv_if_eq (tgt := 32) S.1 S.2.1 dX5_living_4 (by decide) (fun h1 => ?_) (fun h1 => ?_)
  · replace hf := ift h1 hf
    refine lv_ldc2 (own := "SurvivorPurse") (v := (-1000000000000000 : Int64)) S.1 S.2.1 S.2.2.2.1 (S.2.2.2.2 _ w_kl_X5_34) dX5_living_32 ?_
    cases hf
    exact r_l S hr hlk hP hS dX5_living_35
  · replace hf := iff_ h1 hf
    refine lv_iload_n S.1 S.2.1 dX5_living_7 rfl (lv_at hl 2 rfl) ?_
    refine lv_if_lt (tgt := 32) S.1 S.2.1 dX5_living_8 (by decide) (fun h2 => ?_) (fun h2 => ?_)
    · replace hf := ift h2 hf
      refine lv_ldc2 (own := "SurvivorPurse") (v := (-1000000000000000 : Int64)) S.1 S.2.1 S.2.2.2.1 (S.2.2.2.2 _ w_kl_X5_34) dX5_living_32 ?_
      cases hf
      exact r_l S hr hlk hP hS dX5_living_35
    · replace hf := iff_ h2 hf
      refine lv_iload_n S.1 S.2.1 dX5_living_11 rfl (lv_at hl 2 rfl) ?_
      refine lv_ldc (own := "SurvivorPurse") (v := (100000 : Int32)) S.1 S.2.1 S.2.2.2.1 (S.2.2.2.2 _ w_ki_X5_23) dX5_living_12 ?_
      refine lv_icmp_gt (tgt := 32) S.1 S.2.1 dX5_living_14 (by decide) (fun h3 => ?_) (fun h3 => ?_)
      · replace hf := ift h3 hf
        refine lv_ldc2 (own := "SurvivorPurse") (v := (-1000000000000000 : Int64)) S.1 S.2.1 S.2.2.2.1 (S.2.2.2.2 _ w_kl_X5_34) dX5_living_32 ?_
        cases hf
        exact r_l S hr hlk hP hS dX5_living_35
      · replace hf := iff_ h3 hf
        refine lv_aload_n S.1 S.2.1 dX5_living_17 rfl (lv_at hl 0 rfl) ?_
        refine x_get (v := .ref (ad 1)) S hK hP w_lay_X5 (ci := 5) rfl 0 (ok_lt (ok_p hn)) (e5 (ok_p hn).1) 0 (by decide) w_fl_X5_10 rfl rfl dX5_living_18 ?_
        refine x_get (v := .ref (ad 2)) S hK hP w_lay_X0 (ci := 0) rfl 1 (ok_lt (ok_b1 hn)) (e0 (ok_b1 hn).1) 0 (by decide) w_fl_X5_24 rfl rfl dX5_living_21 ?_
        refine lv_iload_n S.1 S.2.1 dX5_living_24 rfl (lv_at hl 1 rfl) ?_
        refine lv_iload_n S.1 S.2.1 dX5_living_25 rfl (lv_at hl 2 rfl) ?_
        obtain ⟨x4, gx4, hf⟩ := bn1_some hf
        refine y_Vi (As := [.int a1, .int a2]) S hK hN hP hS rfl (ok_lt (ok_t1 hn)) (e4 (ok_t1 hn).1) rfl (K_X4_fits l E ad n hI hn _ N 2 a1 a2 (ok_t1 hn) M x4 gx4) (cV 2 S w_co_yX4_fits w_in_X4 w_ml_X5_28 w_im_yX4_fits w_se_yX4_fits hd_X4_fits ⟨Nat.le_of_ble_eq_true rfl, Nat.le_of_ble_eq_true rfl⟩) hl.1 rfl rfl (Nat.le_of_ble_eq_true rfl) dX5_living_26 ⟨Nat.zero_le _, Nat.zero_le _⟩ (fun H locs hP hS => ?_)
        refine lv_if_ne (tgt := 36) S.1 S.2.1 dX5_living_29 (by decide) (fun h5 => ?_) (fun h5 => ?_)
        · replace hf := iff_ h5 hf
          refine lv_aload_n S.1 S.2.1 dX5_living_36 rfl (lv_at hl 0 rfl) ?_
          refine x_get (v := .ref (ad 1)) S hK hP w_lay_X5 (ci := 5) rfl 0 (ok_lt (ok_p hn)) (e5 (ok_p hn).1) 0 (by decide) w_fl_X5_10 rfl rfl dX5_living_37 ?_
          refine x_get (v := .ref (ad 2)) S hK hP w_lay_X0 (ci := 0) rfl 1 (ok_lt (ok_b1 hn)) (e0 (ok_b1 hn).1) 0 (by decide) w_fl_X5_24 rfl rfl dX5_living_40 ?_
          refine lv_iload_n S.1 S.2.1 dX5_living_43 rfl (lv_at hl 1 rfl) ?_
          refine lv_iload_n S.1 S.2.1 dX5_living_44 rfl (lv_at hl 2 rfl) ?_
          obtain ⟨x7, M6, gM6, hf⟩ := bn2_some hf
          refine y_Vl (As := [.int a1, .int a2]) S hK hN hP hS rfl (ok_lt (ok_t1 hn)) (e4 (ok_t1 hn).1) rfl (K_X4_replace l E ad n hI hn _ N 2 a1 a2 (ok_t1 hn) M x7 M6 gM6) (cV 2 S w_co_yX4_replace w_in_X4 w_ml_X5_36 w_im_yX4_replace w_se_yX4_replace hd_X4_replace ⟨Nat.le_of_ble_eq_true rfl, Nat.le_of_ble_eq_true rfl⟩) hl.1 rfl rfl (Nat.le_of_ble_eq_true rfl) dX5_living_45 ⟨Nat.zero_le _, Nat.zero_le _⟩ (fun H locs hP hS => ?_)
          cases hf
          exact r_l S hr hlk hP hS dX5_living_48
        · replace hf := ift h5 hf
          refine lv_ldc2 (own := "SurvivorPurse") (v := (-1000000000000000 : Int64)) S.1 S.2.1 S.2.2.2.1 (S.2.2.2.2 _ w_kl_X5_34) dX5_living_32 ?_
          cases hf
          exact r_l S hr hlk hP hS dX5_living_35
theorem hd_X5_foretell : yX5_foretell.cls ≠ "java/lang/invoke/MethodHandle" ∧ yX5_foretell.cls ≠ "java/lang/invoke/VarHandle" ∧ (parseMethodDescriptor yX5_foretell.desc).map (fun d => d.parameters.length) = some 2 := by decide +kernel
set_option maxHeartbeats 4000000 in
set_option maxRecDepth 100000 in
theorem K_X5_foretell (l : Launch) (E : EE) (ad : Nat → Nat) (n : Nat) (hI : ad_I ad n) (hn : 117 ≤ n) (sz : Nat) (N : Nat) (a1 : Int32) (a2 : Int32)  (M : MM) (r : Int64) (hf : F_X5_foretell N a1 a2 M = some r) : CtL l yX5_foretell cX5_foretell 3 3 63 E (entC E ad n M) (entC E ad n M) ad n sz [.ref (ad 0), .int a1, .int a2] (r) := by
  unfold CtL
  refine body_of (by decide) "SurvivorPurse" rfl (Nat.le_of_ble_eq_true rfl) ?_
  intro p e s m below meth c hsz S hr hlk hP hK hN ls hl
  subst hsz
  have hS : va_S (AA ad n s.heap.size) s.heap s.heap [] := va_S.rf
  have hl : lv_has ls 3 [(0, .ref (ad 0)), (1, .int a1), (2, .int a2)] := hl
  rw [F_X5_foretell] at hf
  refine lv_iload_n S.1 S.2.1 dX5_foretell_0 rfl (lv_at hl 1 rfl) ?_
  refine y_Si (As := [.int a1]) S hK hN hP hS rfl (K_X5_isAge l E ad n hI hn _ a1  M _ rfl) (cS 1 S w_co_yX5_isAge w_in_X5 w_ml_X5_19 w_st_yX5_isAge hd_X5_isAge ⟨Nat.le_of_ble_eq_true rfl, Nat.le_of_ble_eq_true rfl⟩) hl.1 rfl rfl (Nat.le_of_ble_eq_true rfl) dX5_foretell_1 ⟨Nat.zero_le _, Nat.zero_le _⟩ (fun H locs hP hS => ?_)
  refine lv_if_eq (tgt := 11) S.1 S.2.1 dX5_foretell_4 (by decide) (fun h1 => ?_) (fun h1 => ?_)
  · replace hf := ift h1 hf
    refine lv_ldc2 (own := "SurvivorPurse") (v := (-1000000000000000 : Int64)) S.1 S.2.1 S.2.2.2.1 (S.2.2.2.2 _ w_kl_X5_34) dX5_foretell_11 ?_
    cases hf
    exact r_l S hr hlk hP hS dX5_foretell_14
  · replace hf := iff_ h1 hf
    refine lv_iload_n S.1 S.2.1 dX5_foretell_7 rfl (lv_at hl 2 rfl) ?_
    refine lv_if_ge (tgt := 15) S.1 S.2.1 dX5_foretell_8 (by decide) (fun h2 => ?_) (fun h2 => ?_)
    · replace hf := ift h2 hf
      refine lv_iload_n S.1 S.2.1 dX5_foretell_15 rfl (lv_at hl 2 rfl) ?_
      refine lv_bipush (v := (110 : Int32)) S.1 S.2.1 dX5_foretell_16 (by decide) ?_
      refine lv_iload_n S.1 S.2.1 dX5_foretell_18 rfl (lv_at hl 1 rfl) ?_
      refine lv_isub S.1 S.2.1 dX5_foretell_19 ?_
      refine lv_icmp_le (tgt := 27) S.1 S.2.1 dX5_foretell_20 (by decide) (fun h3 => ?_) (fun h3 => ?_)
      · replace hf := ift h3 hf
        refine lv_ldc2 (own := "SurvivorPurse") (v := (1000000 : Int64)) S.1 S.2.1 S.2.2.2.1 (S.2.2.2.2 _ w_kl_X5_40) dX5_foretell_27 ?_
        refine lv_aload_n S.1 S.2.1 dX5_foretell_30 rfl (lv_at hl 0 rfl) ?_
        refine x_get (v := .ref (ad 1)) S hK hP w_lay_X5 (ci := 5) rfl 0 (ok_lt (ok_p hn)) (e5 (ok_p hn).1) 0 (by decide) w_fl_X5_10 rfl rfl dX5_foretell_31 ?_
        refine x_get (v := .ref (ad 2)) S hK hP w_lay_X0 (ci := 0) rfl 1 (ok_lt (ok_b1 hn)) (e0 (ok_b1 hn).1) 0 (by decide) w_fl_X5_24 rfl rfl dX5_foretell_34 ?_
        refine lv_iload_n S.1 S.2.1 dX5_foretell_37 rfl (lv_at hl 1 rfl) ?_
        refine lv_iload_n S.1 S.2.1 dX5_foretell_38 rfl (lv_at hl 2 rfl) ?_
        refine lv_iadd S.1 S.2.1 dX5_foretell_39 ?_
        obtain ⟨x4, gx4, hf⟩ := bn1_some hf
        refine y_Vl (As := [.int (a1 + a2)]) S hK hN hP hS rfl (ok_lt (ok_t1 hn)) (e4 (ok_t1 hn).1) rfl (K_X4_at l E ad n hI hn _ N 2 (a1 + a2) (ok_t1 hn) M x4 gx4) (cV 1 S w_co_yX4_at w_in_X4 w_ml_X5_42 w_im_yX4_at w_se_yX4_at hd_X4_at ⟨Nat.le_of_ble_eq_true rfl, Nat.le_of_ble_eq_true rfl⟩) hl.1 rfl rfl (Nat.le_of_ble_eq_true rfl) dX5_foretell_40 ⟨Nat.zero_le _, Nat.zero_le _⟩ (fun H locs hP hS => ?_)
        refine lv_aload_n S.1 S.2.1 dX5_foretell_43 rfl (lv_at hl 0 rfl) ?_
        refine x_get (v := .ref (ad 1)) S hK hP w_lay_X5 (ci := 5) rfl 0 (ok_lt (ok_p hn)) (e5 (ok_p hn).1) 0 (by decide) w_fl_X5_10 rfl rfl dX5_foretell_44 ?_
        refine x_get (v := .ref (ad 2)) S hK hP w_lay_X0 (ci := 0) rfl 1 (ok_lt (ok_b1 hn)) (e0 (ok_b1 hn).1) 0 (by decide) w_fl_X5_24 rfl rfl dX5_foretell_47 ?_
        refine lv_iload_n S.1 S.2.1 dX5_foretell_50 rfl (lv_at hl 1 rfl) ?_
        obtain ⟨x5, gx5, hf⟩ := bn1_some hf
        refine y_Vl (As := [.int a1]) S hK hN hP hS rfl (ok_lt (ok_t1 hn)) (e4 (ok_t1 hn).1) rfl (K_X4_at l E ad n hI hn _ N 2 a1 (ok_t1 hn) M x5 gx5) (cV 1 S w_co_yX4_at w_in_X4 w_ml_X5_42 w_im_yX4_at w_se_yX4_at hd_X4_at ⟨Nat.le_of_ble_eq_true rfl, Nat.le_of_ble_eq_true rfl⟩) hl.1 rfl rfl (Nat.le_of_ble_eq_true rfl) dX5_foretell_51 ⟨Nat.zero_le _, Nat.zero_le _⟩ (fun H locs hP hS => ?_)
        refine y_Sl (As := [.long (1000000 : Int64), .long x4, .long x5]) S hK hN hP hS rfl (K_X5_parted l E ad n hI hn _ (1000000 : Int64) x4 x5  M _ rfl) (cS 3 S w_co_yX5_parted w_in_X5 w_ml_X5_46 w_st_yX5_parted hd_X5_parted ⟨Nat.le_of_ble_eq_true rfl, Nat.le_of_ble_eq_true rfl⟩) hl.1 rfl rfl (Nat.le_of_ble_eq_true rfl) dX5_foretell_54 ⟨Nat.zero_le _, Nat.zero_le _⟩ (fun H locs hP hS => ?_)
        cases hf
        exact r_l S hr hlk hP hS dX5_foretell_57
      · replace hf := iff_ h3 hf
        refine lv_lconst (v := (0 : Int64)) S.1 S.2.1 dX5_foretell_23 (by decide) ?_
        refine lv_goto (tgt := 57) S.1 S.2.1 dX5_foretell_24 (by decide) ?_
        cases hf
        exact r_l S hr hlk hP hS dX5_foretell_57
    · replace hf := iff_ h2 hf
      refine lv_ldc2 (own := "SurvivorPurse") (v := (-1000000000000000 : Int64)) S.1 S.2.1 S.2.2.2.1 (S.2.2.2.2 _ w_kl_X5_34) dX5_foretell_11 ?_
      cases hf
      exact r_l S hr hlk hP hS dX5_foretell_14
theorem hd_X5_mean : yX5_mean.cls ≠ "java/lang/invoke/MethodHandle" ∧ yX5_mean.cls ≠ "java/lang/invoke/VarHandle" ∧ (parseMethodDescriptor yX5_mean.desc).map (fun d => d.parameters.length) = some 1 := by decide +kernel
set_option maxHeartbeats 4000000 in
set_option maxRecDepth 100000 in
theorem K_X5_mean (l : Launch) (E : EE) (ad : Nat → Nat) (n : Nat) (hI : ad_I ad n) (hn : 117 ≤ n) (sz : Nat) (N : Nat) (a1 : Int32)  (M : MM) (r : Int64) (hf : F_X5_mean N a1 M = some r) : CtL l yX5_mean cX5_mean 2 4 87 E (entC E ad n M) (entC E ad n M) ad n sz [.ref (ad 0), .int a1] (r) := by
  unfold CtL
  refine body_of (by decide) "SurvivorPurse" rfl (Nat.le_of_ble_eq_true rfl) ?_
  intro p e s m below meth c hsz S hr hlk hP hK hN ls hl
  subst hsz
  have hS : va_S (AA ad n s.heap.size) s.heap s.heap [] := va_S.rf
  have hl : lv_has ls 2 [(0, .ref (ad 0)), (1, .int a1)] := hl
  rw [F_X5_mean] at hf
  refine lv_iload_n S.1 S.2.1 dX5_mean_0 rfl (lv_at hl 1 rfl) ?_
  refine y_Si (As := [.int a1]) S hK hN hP hS rfl (K_X5_isAge l E ad n hI hn _ a1  M _ rfl) (cS 1 S w_co_yX5_isAge w_in_X5 w_ml_X5_19 w_st_yX5_isAge hd_X5_isAge ⟨Nat.le_of_ble_eq_true rfl, Nat.le_of_ble_eq_true rfl⟩) hl.1 rfl rfl (Nat.le_of_ble_eq_true rfl) dX5_mean_1 ⟨Nat.zero_le _, Nat.zero_le _⟩ (fun H locs hP hS => ?_)
  refine lv_if_ne (tgt := 11) S.1 S.2.1 dX5_mean_4 (by decide) (fun h1 => ?_) (fun h1 => ?_)
  · replace hf := iff_ h1 hf
    refine lv_ldc2 (own := "SurvivorPurse") (v := (1000 : Int64)) S.1 S.2.1 S.2.2.2.1 (S.2.2.2.2 _ w_kl_X5_50) dX5_mean_11 ?_
    refine lv_aload_n S.1 S.2.1 dX5_mean_14 rfl (lv_at hl 0 rfl) ?_
    refine x_get (v := .ref (ad 1)) S hK hP w_lay_X5 (ci := 5) rfl 0 (ok_lt (ok_p hn)) (e5 (ok_p hn).1) 0 (by decide) w_fl_X5_10 rfl rfl dX5_mean_15 ?_
    refine x_get (v := .ref (ad 2)) S hK hP w_lay_X0 (ci := 0) rfl 1 (ok_lt (ok_b1 hn)) (e0 (ok_b1 hn).1) 0 (by decide) w_fl_X5_24 rfl rfl dX5_mean_18 ?_
    refine lv_iload_n S.1 S.2.1 dX5_mean_21 rfl (lv_at hl 1 rfl) ?_
    obtain ⟨x2, gx2, hf⟩ := bn1_some hf
    refine y_Vl (As := [.int a1]) S hK hN hP hS rfl (ok_lt (ok_t1 hn)) (e4 (ok_t1 hn).1) rfl (K_X4_sumAbove l E ad n hI hn _ N 2 a1 (ok_t1 hn) M x2 gx2) (cV 1 S w_co_yX4_sumAbove w_in_X4 w_ml_X5_52 w_im_yX4_sumAbove w_se_yX4_sumAbove hd_X4_sumAbove ⟨Nat.le_of_ble_eq_true rfl, Nat.le_of_ble_eq_true rfl⟩) hl.1 rfl rfl (Nat.le_of_ble_eq_true rfl) dX5_mean_22 ⟨Nat.zero_le _, Nat.zero_le _⟩ (fun H locs hP hS => ?_)
    refine lv_aload_n S.1 S.2.1 dX5_mean_25 rfl (lv_at hl 0 rfl) ?_
    refine x_get (v := .ref (ad 1)) S hK hP w_lay_X5 (ci := 5) rfl 0 (ok_lt (ok_p hn)) (e5 (ok_p hn).1) 0 (by decide) w_fl_X5_10 rfl rfl dX5_mean_26 ?_
    refine x_get (v := .ref (ad 2)) S hK hP w_lay_X0 (ci := 0) rfl 1 (ok_lt (ok_b1 hn)) (e0 (ok_b1 hn).1) 0 (by decide) w_fl_X5_24 rfl rfl dX5_mean_29 ?_
    refine lv_iload_n S.1 S.2.1 dX5_mean_32 rfl (lv_at hl 1 rfl) ?_
    obtain ⟨x3, gx3, hf⟩ := bn1_some hf
    refine y_Vl (As := [.int a1]) S hK hN hP hS rfl (ok_lt (ok_t1 hn)) (e4 (ok_t1 hn).1) rfl (K_X4_at l E ad n hI hn _ N 2 a1 (ok_t1 hn) M x3 gx3) (cV 1 S w_co_yX4_at w_in_X4 w_ml_X5_42 w_im_yX4_at w_se_yX4_at hd_X4_at ⟨Nat.le_of_ble_eq_true rfl, Nat.le_of_ble_eq_true rfl⟩) hl.1 rfl rfl (Nat.le_of_ble_eq_true rfl) dX5_mean_33 ⟨Nat.zero_le _, Nat.zero_le _⟩ (fun H locs hP hS => ?_)
    refine y_Sl (As := [.long (1000 : Int64), .long x2, .long x3]) S hK hN hP hS rfl (K_X5_parted l E ad n hI hn _ (1000 : Int64) x2 x3  M _ rfl) (cS 3 S w_co_yX5_parted w_in_X5 w_ml_X5_46 w_st_yX5_parted hd_X5_parted ⟨Nat.le_of_ble_eq_true rfl, Nat.le_of_ble_eq_true rfl⟩) hl.1 rfl rfl (Nat.le_of_ble_eq_true rfl) dX5_mean_36 ⟨Nat.zero_le _, Nat.zero_le _⟩ (fun H locs hP hS => ?_)
    cases hf
    exact r_l S hr hlk hP hS dX5_mean_39
  · replace hf := ift h1 hf
    refine lv_ldc2 (own := "SurvivorPurse") (v := (-1000000000000000 : Int64)) S.1 S.2.1 S.2.2.2.1 (S.2.2.2.2 _ w_kl_X5_34) dX5_mean_7 ?_
    cases hf
    exact r_l S hr hlk hP hS dX5_mean_10
theorem hd_X5_dearer : yX5_dearer.cls ≠ "java/lang/invoke/MethodHandle" ∧ yX5_dearer.cls ≠ "java/lang/invoke/VarHandle" ∧ (parseMethodDescriptor yX5_dearer.desc).map (fun d => d.parameters.length) = some 2 := by decide +kernel
set_option maxHeartbeats 4000000 in
set_option maxRecDepth 100000 in
theorem K_X5_dearer (l : Launch) (E : EE) (ad : Nat → Nat) (n : Nat) (hI : ad_I ad n) (hn : 117 ≤ n) (sz : Nat) (N : Nat) (a1 : Int32) (a2 : Int32)  (M : MM) (r : Int64) (hf : F_X5_dearer N a1 a2 M = some r) : CtL l yX5_dearer cX5_dearer 9 4 87 E (entC E ad n M) (entC E ad n M) ad n sz [.ref (ad 0), .int a1, .int a2] (r) := by
  unfold CtL
  refine body_of (by decide) "SurvivorPurse" rfl (Nat.le_of_ble_eq_true rfl) ?_
  intro p e s m below meth c hsz S hr hlk hP hK hN ls hl
  subst hsz
  have hS : va_S (AA ad n s.heap.size) s.heap s.heap [] := va_S.rf
  have hl : lv_has ls 9 [(0, .ref (ad 0)), (1, .int a1), (2, .int a2)] := hl
  rw [F_X5_dearer] at hf
  refine lv_aload_n S.1 S.2.1 dX5_dearer_0 rfl (lv_at hl 0 rfl) ?_
  refine x_get (v := .ref (ad 1)) S hK hP w_lay_X5 (ci := 5) rfl 0 (ok_lt (ok_p hn)) (e5 (ok_p hn).1) 0 (by decide) w_fl_X5_10 rfl rfl dX5_dearer_1 ?_
  refine lv_iload_n S.1 S.2.1 dX5_dearer_4 rfl (lv_at hl 1 rfl) ?_
  refine y_Vi (As := [.int a1]) S hK hN hP hS rfl (ok_lt (ok_b1 hn)) (e0 (ok_b1 hn).1) rfl (K_X0_isRank l E ad n hI hn _ a1  M _ rfl) (cV 1 S w_co_yX0_isRank w_in_X0 w_ml_X5_55 w_im_yX0_isRank w_se_yX0_isRank hd_X0_isRank ⟨Nat.le_of_ble_eq_true rfl, Nat.le_of_ble_eq_true rfl⟩) hl.1 rfl rfl (Nat.le_of_ble_eq_true rfl) dX5_dearer_5 ⟨Nat.zero_le _, Nat.zero_le _⟩ (fun H locs hP hS => ?_)
  refine lv_if_eq (tgt := 22) S.1 S.2.1 dX5_dearer_8 (by decide) (fun h1 => ?_) (fun h1 => ?_)
  · replace hf := ift h1 hf
    refine lv_ldc2 (own := "SurvivorPurse") (v := (-1000000000000000 : Int64)) S.1 S.2.1 S.2.2.2.1 (S.2.2.2.2 _ w_kl_X5_34) dX5_dearer_22 ?_
    cases hf
    exact r_l S hr hlk hP hS dX5_dearer_25
  · replace hf := iff_ h1 hf
    refine lv_aload_n S.1 S.2.1 dX5_dearer_11 rfl (lv_at hl 0 rfl) ?_
    refine x_get (v := .ref (ad 1)) S hK hP w_lay_X5 (ci := 5) rfl 0 (ok_lt (ok_p hn)) (e5 (ok_p hn).1) 0 (by decide) w_fl_X5_10 rfl rfl dX5_dearer_12 ?_
    refine lv_iload_n S.1 S.2.1 dX5_dearer_15 rfl (lv_at hl 2 rfl) ?_
    refine y_Vi (As := [.int a2]) S hK hN hP hS rfl (ok_lt (ok_b1 hn)) (e0 (ok_b1 hn).1) rfl (K_X0_isRank l E ad n hI hn _ a2  M _ rfl) (cV 1 S w_co_yX0_isRank w_in_X0 w_ml_X5_55 w_im_yX0_isRank w_se_yX0_isRank hd_X0_isRank ⟨Nat.le_of_ble_eq_true rfl, Nat.le_of_ble_eq_true rfl⟩) hl.1 rfl rfl (Nat.le_of_ble_eq_true rfl) dX5_dearer_16 ⟨Nat.zero_le _, Nat.zero_le _⟩ (fun H locs hP hS => ?_)
    refine lv_if_ne (tgt := 26) S.1 S.2.1 dX5_dearer_19 (by decide) (fun h2 => ?_) (fun h2 => ?_)
    · replace hf := iff_ h2 hf
      refine lv_aload_n S.1 S.2.1 dX5_dearer_26 rfl (lv_at hl 0 rfl) ?_
      refine x_get (v := .ref (ad 1)) S hK hP w_lay_X5 (ci := 5) rfl 0 (ok_lt (ok_p hn)) (e5 (ok_p hn).1) 0 (by decide) w_fl_X5_10 rfl rfl dX5_dearer_27 ?_
      refine x_get (v := .ref (ad 5)) S hK hP w_lay_X0 (ci := 0) rfl 1 (ok_lt (ok_b1 hn)) (e0 (ok_b1 hn).1) 2 (by decide) w_fl_X5_58 rfl rfl dX5_dearer_30 ?_
      refine lv_iload_n S.1 S.2.1 dX5_dearer_33 rfl (lv_at hl 1 rfl) ?_
      obtain ⟨h3, hf⟩ := gd_some hf
      refine x_aald S hK hP 5 (ok_lt (ok_ra1 hn)) e10_1 3 rfl h3 dX5_dearer_34 ?_
      refine lv_astore_n (lv' := [(3, .ref (ad (31 + (ix a1)))), (0, .ref (ad 0)), (1, .int a1), (2, .int a2)]) S.1 S.2.1 dX5_dearer_35 rfl hl (by decide) rfl (fun ls hl => ?_)
      refine lv_aload_n S.1 S.2.1 dX5_dearer_36 rfl (lv_at hl 1 rfl) ?_
      refine x_get (v := .ref (ad 1)) S hK hP w_lay_X5 (ci := 5) rfl 0 (ok_lt (ok_p hn)) (e5 (ok_p hn).1) 0 (by decide) w_fl_X5_10 rfl rfl dX5_dearer_37 ?_
      refine x_get (v := .ref (ad 5)) S hK hP w_lay_X0 (ci := 0) rfl 1 (ok_lt (ok_b1 hn)) (e0 (ok_b1 hn).1) 2 (by decide) w_fl_X5_58 rfl rfl dX5_dearer_40 ?_
      refine lv_iload_n S.1 S.2.1 dX5_dearer_43 rfl (lv_at hl 3 rfl) ?_
      obtain ⟨h4, hf⟩ := gd_some hf
      refine x_aald S hK hP 5 (ok_lt (ok_ra1 hn)) e10_1 3 rfl h4 dX5_dearer_44 ?_
      refine lv_astore (lv' := [(4, .ref (ad (31 + (ix a2)))), (3, .ref (ad (31 + (ix a1)))), (0, .ref (ad 0)), (1, .int a1), (2, .int a2)]) S.1 S.2.1 dX5_dearer_45 hl (by decide) rfl (fun ls hl => ?_)
      refine lv_aload_n S.1 S.2.1 dX5_dearer_47 rfl (lv_at hl 2 rfl) ?_
      refine x_get (v := .ref (ad 1)) S hK hP w_lay_X5 (ci := 5) rfl 0 (ok_lt (ok_p hn)) (e5 (ok_p hn).1) 0 (by decide) w_fl_X5_10 rfl rfl dX5_dearer_48 ?_
      refine x_get (v := .ref (ad 2)) S hK hP w_lay_X0 (ci := 0) rfl 1 (ok_lt (ok_b1 hn)) (e0 (ok_b1 hn).1) 0 (by decide) w_fl_X5_24 rfl rfl dX5_dearer_51 ?_
      refine lv_aload_n S.1 S.2.1 dX5_dearer_54 rfl (lv_at hl 1 rfl) ?_
      refine x_get (v := .int (gI M (31 + (ix a1)) 0)) S hK hP w_lay_X2 (ci := 2) rfl (31 + (ix a1)) (ok_lt (ok_r1 hn (ib_lt h3))) (e2 (ok_r1 hn (ib_lt h3)).1) 0 (by decide) w_fl_X5_62 rfl rfl dX5_dearer_55 ?_
      obtain ⟨x5, gx5, hf⟩ := bn1_some hf
      refine y_Vl (As := [.int (gI M (31 + (ix a1)) 0)]) S hK hN hP hS rfl (ok_lt (ok_t1 hn)) (e4 (ok_t1 hn).1) rfl (K_X4_sumAbove l E ad n hI hn _ N 2 (gI M (31 + (ix a1)) 0) (ok_t1 hn) M x5 gx5) (cV 1 S w_co_yX4_sumAbove w_in_X4 w_ml_X5_52 w_im_yX4_sumAbove w_se_yX4_sumAbove hd_X4_sumAbove ⟨Nat.le_of_ble_eq_true rfl, Nat.le_of_ble_eq_true rfl⟩) hl.1 rfl rfl (Nat.le_of_ble_eq_true rfl) dX5_dearer_58 ⟨Nat.zero_le _, Nat.zero_le _⟩ (fun H locs hP hS => ?_)
      refine lv_lstore (lv' := [(5, .long x5), (4, .ref (ad (31 + (ix a2)))), (3, .ref (ad (31 + (ix a1)))), (0, .ref (ad 0)), (1, .int a1), (2, .int a2)]) S.1 S.2.1 dX5_dearer_61 hl (by decide) rfl (fun ls hl => ?_)
      refine lv_aload_n S.1 S.2.1 dX5_dearer_63 rfl (lv_at hl 3 rfl) ?_
      refine x_get (v := .ref (ad 1)) S hK hP w_lay_X5 (ci := 5) rfl 0 (ok_lt (ok_p hn)) (e5 (ok_p hn).1) 0 (by decide) w_fl_X5_10 rfl rfl dX5_dearer_64 ?_
      refine x_get (v := .ref (ad 2)) S hK hP w_lay_X0 (ci := 0) rfl 1 (ok_lt (ok_b1 hn)) (e0 (ok_b1 hn).1) 0 (by decide) w_fl_X5_24 rfl rfl dX5_dearer_67 ?_
      refine lv_aload S.1 S.2.1 dX5_dearer_70 (lv_at hl 1 rfl) ?_
      refine x_get (v := .int (gI M (31 + (ix a2)) 0)) S hK hP w_lay_X2 (ci := 2) rfl (31 + (ix a2)) (ok_lt (ok_r1 hn (ib_lt h4))) (e2 (ok_r1 hn (ib_lt h4)).1) 0 (by decide) w_fl_X5_62 rfl rfl dX5_dearer_72 ?_
      obtain ⟨x6, gx6, hf⟩ := bn1_some hf
      refine y_Vl (As := [.int (gI M (31 + (ix a2)) 0)]) S hK hN hP hS rfl (ok_lt (ok_t1 hn)) (e4 (ok_t1 hn).1) rfl (K_X4_sumAbove l E ad n hI hn _ N 2 (gI M (31 + (ix a2)) 0) (ok_t1 hn) M x6 gx6) (cV 1 S w_co_yX4_sumAbove w_in_X4 w_ml_X5_52 w_im_yX4_sumAbove w_se_yX4_sumAbove hd_X4_sumAbove ⟨Nat.le_of_ble_eq_true rfl, Nat.le_of_ble_eq_true rfl⟩) hl.1 rfl rfl (Nat.le_of_ble_eq_true rfl) dX5_dearer_75 ⟨Nat.zero_le _, Nat.zero_le _⟩ (fun H locs hP hS => ?_)
      refine lv_lstore (lv' := [(7, .long x6), (5, .long x5), (4, .ref (ad (31 + (ix a2)))), (3, .ref (ad (31 + (ix a1)))), (0, .ref (ad 0)), (1, .int a1), (2, .int a2)]) S.1 S.2.1 dX5_dearer_78 hl (by decide) rfl (fun ls hl => ?_)
      refine lv_lload S.1 S.2.1 dX5_dearer_80 (lv_at hl 1 rfl) ?_
      refine lv_lconst (v := (0 : Int64)) S.1 S.2.1 dX5_dearer_82 (by decide) ?_
      refine ll_eq (tgt := 94) S dX5_dearer_83 dX5_dearer_84 (by decide) (fun h7 => ?_) (fun h7 => ?_)
      · replace hf := ift h7 hf
        refine lv_lload S.1 S.2.1 dX5_dearer_94 (lv_at hl 0 rfl) ?_
        refine lv_lload S.1 S.2.1 dX5_dearer_96 (lv_at hl 1 rfl) ?_
        refine y_Sl (As := [.long x6, .long x5]) S hK hN hP hS rfl (K_X5_sign l E ad n hI hn _ x6 x5  M _ rfl) (cS 2 S w_co_yX5_sign w_in_X5 w_ml_X5_68 w_st_yX5_sign hd_X5_sign ⟨Nat.le_of_ble_eq_true rfl, Nat.le_of_ble_eq_true rfl⟩) hl.1 rfl rfl (Nat.le_of_ble_eq_true rfl) dX5_dearer_98 ⟨Nat.zero_le _, Nat.zero_le _⟩ (fun H locs hP hS => ?_)
        cases hf
        exact r_l S hr hlk hP hS dX5_dearer_101
      · replace hf := iff_ h7 hf
        refine lv_lload S.1 S.2.1 dX5_dearer_87 (lv_at hl 0 rfl) ?_
        refine lv_lconst (v := (0 : Int64)) S.1 S.2.1 dX5_dearer_89 (by decide) ?_
        refine ll_ne (tgt := 102) S dX5_dearer_90 dX5_dearer_91 (by decide) (fun h8 => ?_) (fun h8 => ?_)
        · replace hf := iff_ h8 hf
          refine lv_aload_n S.1 S.2.1 dX5_dearer_102 rfl (lv_at hl 3 rfl) ?_
          refine x_get (v := .int (gI M (31 + (ix a1)) 2)) S hK hP w_lay_X2 (ci := 2) rfl (31 + (ix a1)) (ok_lt (ok_r1 hn (ib_lt h3))) (e2 (ok_r1 hn (ib_lt h3)).1) 2 (by decide) w_fl_X5_72 rfl rfl dX5_dearer_103 ?_
          refine lv_i2l (v := (gI M (31 + (ix a1)) 2).toInt64) S.1 S.2.1 dX5_dearer_106 rfl ?_
          refine lv_aload_n S.1 S.2.1 dX5_dearer_107 rfl (lv_at hl 4 rfl) ?_
          refine x_get (v := .ref (ad 1)) S hK hP w_lay_X5 (ci := 5) rfl 0 (ok_lt (ok_p hn)) (e5 (ok_p hn).1) 0 (by decide) w_fl_X5_10 rfl rfl dX5_dearer_108 ?_
          refine x_get (v := .ref (ad 2)) S hK hP w_lay_X0 (ci := 0) rfl 1 (ok_lt (ok_b1 hn)) (e0 (ok_b1 hn).1) 0 (by decide) w_fl_X5_24 rfl rfl dX5_dearer_111 ?_
          refine lv_aload_n S.1 S.2.1 dX5_dearer_114 rfl (lv_at hl 3 rfl) ?_
          refine x_get (v := .int (gI M (31 + (ix a1)) 0)) S hK hP w_lay_X2 (ci := 2) rfl (31 + (ix a1)) (ok_lt (ok_r1 hn (ib_lt h3))) (e2 (ok_r1 hn (ib_lt h3)).1) 0 (by decide) w_fl_X5_62 rfl rfl dX5_dearer_115 ?_
          obtain ⟨x9, gx9, hf⟩ := bn1_some hf
          refine y_Vl (As := [.int (gI M (31 + (ix a1)) 0)]) S hK hN hP hS rfl (ok_lt (ok_t1 hn)) (e4 (ok_t1 hn).1) rfl (K_X4_at l E ad n hI hn _ N 2 (gI M (31 + (ix a1)) 0) (ok_t1 hn) M x9 gx9) (cV 1 S w_co_yX4_at w_in_X4 w_ml_X5_42 w_im_yX4_at w_se_yX4_at hd_X4_at ⟨Nat.le_of_ble_eq_true rfl, Nat.le_of_ble_eq_true rfl⟩) hl.1 rfl rfl (Nat.le_of_ble_eq_true rfl) dX5_dearer_118 ⟨Nat.zero_le _, Nat.zero_le _⟩ (fun H locs hP hS => ?_)
          refine lv_lmul S.1 S.2.1 dX5_dearer_121 ?_
          refine lv_lload S.1 S.2.1 dX5_dearer_122 (lv_at hl 0 rfl) ?_
          refine lv_lmul S.1 S.2.1 dX5_dearer_124 ?_
          refine lv_aload S.1 S.2.1 dX5_dearer_125 (lv_at hl 2 rfl) ?_
          refine x_get (v := .int (gI M (31 + (ix a2)) 2)) S hK hP w_lay_X2 (ci := 2) rfl (31 + (ix a2)) (ok_lt (ok_r1 hn (ib_lt h4))) (e2 (ok_r1 hn (ib_lt h4)).1) 2 (by decide) w_fl_X5_72 rfl rfl dX5_dearer_127 ?_
          refine lv_i2l (v := (gI M (31 + (ix a2)) 2).toInt64) S.1 S.2.1 dX5_dearer_130 rfl ?_
          refine lv_aload_n S.1 S.2.1 dX5_dearer_131 rfl (lv_at hl 4 rfl) ?_
          refine x_get (v := .ref (ad 1)) S hK hP w_lay_X5 (ci := 5) rfl 0 (ok_lt (ok_p hn)) (e5 (ok_p hn).1) 0 (by decide) w_fl_X5_10 rfl rfl dX5_dearer_132 ?_
          refine x_get (v := .ref (ad 2)) S hK hP w_lay_X0 (ci := 0) rfl 1 (ok_lt (ok_b1 hn)) (e0 (ok_b1 hn).1) 0 (by decide) w_fl_X5_24 rfl rfl dX5_dearer_135 ?_
          refine lv_aload S.1 S.2.1 dX5_dearer_138 (lv_at hl 2 rfl) ?_
          refine x_get (v := .int (gI M (31 + (ix a2)) 0)) S hK hP w_lay_X2 (ci := 2) rfl (31 + (ix a2)) (ok_lt (ok_r1 hn (ib_lt h4))) (e2 (ok_r1 hn (ib_lt h4)).1) 0 (by decide) w_fl_X5_62 rfl rfl dX5_dearer_140 ?_
          obtain ⟨x10, gx10, hf⟩ := bn1_some hf
          refine y_Vl (As := [.int (gI M (31 + (ix a2)) 0)]) S hK hN hP hS rfl (ok_lt (ok_t1 hn)) (e4 (ok_t1 hn).1) rfl (K_X4_at l E ad n hI hn _ N 2 (gI M (31 + (ix a2)) 0) (ok_t1 hn) M x10 gx10) (cV 1 S w_co_yX4_at w_in_X4 w_ml_X5_42 w_im_yX4_at w_se_yX4_at hd_X4_at ⟨Nat.le_of_ble_eq_true rfl, Nat.le_of_ble_eq_true rfl⟩) hl.1 rfl rfl (Nat.le_of_ble_eq_true rfl) dX5_dearer_143 ⟨Nat.zero_le _, Nat.zero_le _⟩ (fun H locs hP hS => ?_)
          refine lv_lmul S.1 S.2.1 dX5_dearer_146 ?_
          refine lv_lload S.1 S.2.1 dX5_dearer_147 (lv_at hl 1 rfl) ?_
          refine lv_lmul S.1 S.2.1 dX5_dearer_149 ?_
          refine y_Sl (As := [.long ((((gI M (31 + (ix a1)) 2).toInt64) * x9) * x6), .long ((((gI M (31 + (ix a2)) 2).toInt64) * x10) * x5)]) S hK hN hP hS rfl (K_X5_sign l E ad n hI hn _ ((((gI M (31 + (ix a1)) 2).toInt64) * x9) * x6) ((((gI M (31 + (ix a2)) 2).toInt64) * x10) * x5)  M _ rfl) (cS 2 S w_co_yX5_sign w_in_X5 w_ml_X5_68 w_st_yX5_sign hd_X5_sign ⟨Nat.le_of_ble_eq_true rfl, Nat.le_of_ble_eq_true rfl⟩) hl.1 rfl rfl (Nat.le_of_ble_eq_true rfl) dX5_dearer_150 ⟨Nat.zero_le _, Nat.zero_le _⟩ (fun H locs hP hS => ?_)
          cases hf
          exact r_l S hr hlk hP hS dX5_dearer_153
        · replace hf := ift h8 hf
          refine lv_lload S.1 S.2.1 dX5_dearer_94 (lv_at hl 0 rfl) ?_
          refine lv_lload S.1 S.2.1 dX5_dearer_96 (lv_at hl 1 rfl) ?_
          refine y_Sl (As := [.long x6, .long x5]) S hK hN hP hS rfl (K_X5_sign l E ad n hI hn _ x6 x5  M _ rfl) (cS 2 S w_co_yX5_sign w_in_X5 w_ml_X5_68 w_st_yX5_sign hd_X5_sign ⟨Nat.le_of_ble_eq_true rfl, Nat.le_of_ble_eq_true rfl⟩) hl.1 rfl rfl (Nat.le_of_ble_eq_true rfl) dX5_dearer_98 ⟨Nat.zero_le _, Nat.zero_le _⟩ (fun H locs hP hS => ?_)
          cases hf
          exact r_l S hr hlk hP hS dX5_dearer_101
    · replace hf := ift h2 hf
      refine lv_ldc2 (own := "SurvivorPurse") (v := (-1000000000000000 : Int64)) S.1 S.2.1 S.2.2.2.1 (S.2.2.2.2 _ w_kl_X5_34) dX5_dearer_22 ?_
      cases hf
      exact r_l S hr hlk hP hS dX5_dearer_25
theorem hd_X5_member : yX5_member.cls ≠ "java/lang/invoke/MethodHandle" ∧ yX5_member.cls ≠ "java/lang/invoke/VarHandle" ∧ (parseMethodDescriptor yX5_member.desc).map (fun d => d.parameters.length) = some 1 := by decide +kernel
set_option maxHeartbeats 4000000 in
set_option maxRecDepth 100000 in
theorem K_X5_member (l : Launch) (E : EE) (ad : Nat → Nat) (n : Nat) (hI : ad_I ad n) (hn : 117 ≤ n) (sz : Nat) (N : Nat) (a1 : Int32)  (M : MM) (r : Int64) (M' : MM) (hf : F_X5_member N a1 M = some (r, M')) : CtL l yX5_member cX5_member 2 2 42 E (entC E ad n M) (entC E ad n M') ad n sz [.ref (ad 0), .int a1] (r) := by
  unfold CtL
  refine body_of (by decide) "SurvivorPurse" rfl (Nat.le_of_ble_eq_true rfl) ?_
  intro p e s m below meth c hsz S hr hlk hP hK hN ls hl
  subst hsz
  have hS : va_S (AA ad n s.heap.size) s.heap s.heap [] := va_S.rf
  have hl : lv_has ls 2 [(0, .ref (ad 0)), (1, .int a1)] := hl
  rw [F_X5_member] at hf
  refine lv_iload_n S.1 S.2.1 dX5_member_0 rfl (lv_at hl 1 rfl) ?_
  refine lv_aload_n S.1 S.2.1 dX5_member_1 rfl (lv_at hl 0 rfl) ?_
  refine x_get (v := .ref (ad 1)) S hK hP w_lay_X5 (ci := 5) rfl 0 (ok_lt (ok_p hn)) (e5 (ok_p hn).1) 0 (by decide) w_fl_X5_10 rfl rfl dX5_member_2 ?_
  refine x_get (v := .int (gI M 1 7)) S hK hP w_lay_X0 (ci := 0) rfl 1 (ok_lt (ok_b1 hn)) (e0 (ok_b1 hn).1) 7 (by decide) w_fl_X5_75 rfl rfl dX5_member_5 ?_
  refine lv_icmp_gt (tgt := 37) S.1 S.2.1 dX5_member_8 (by decide) (fun h1 => ?_) (fun h1 => ?_)
  · replace hf := ift h1 hf
    refine lv_ldc2 (own := "SurvivorPurse") (v := (-1000000000000000 : Int64)) S.1 S.2.1 S.2.2.2.1 (S.2.2.2.2 _ w_kl_X5_34) dX5_member_37 ?_
    cases hf
    exact r_l S hr hlk hP hS dX5_member_40
  · replace hf := iff_ h1 hf
    refine lv_iload_n S.1 S.2.1 dX5_member_11 rfl (lv_at hl 1 rfl) ?_
    refine lv_aload_n S.1 S.2.1 dX5_member_12 rfl (lv_at hl 0 rfl) ?_
    refine x_get (v := .ref (ad 1)) S hK hP w_lay_X5 (ci := 5) rfl 0 (ok_lt (ok_p hn)) (e5 (ok_p hn).1) 0 (by decide) w_fl_X5_10 rfl rfl dX5_member_13 ?_
    refine x_get (v := .int (gI M 1 7)) S hK hP w_lay_X0 (ci := 0) rfl 1 (ok_lt (ok_b1 hn)) (e0 (ok_b1 hn).1) 7 (by decide) w_fl_X5_75 rfl rfl dX5_member_16 ?_
    refine lv_bipush (v := (110 : Int32)) S.1 S.2.1 dX5_member_19 (by decide) ?_
    refine lv_isub S.1 S.2.1 dX5_member_21 ?_
    refine lv_icmp_lt (tgt := 37) S.1 S.2.1 dX5_member_22 (by decide) (fun h2 => ?_) (fun h2 => ?_)
    · replace hf := ift h2 hf
      refine lv_ldc2 (own := "SurvivorPurse") (v := (-1000000000000000 : Int64)) S.1 S.2.1 S.2.2.2.1 (S.2.2.2.2 _ w_kl_X5_34) dX5_member_37 ?_
      cases hf
      exact r_l S hr hlk hP hS dX5_member_40
    · replace hf := iff_ h2 hf
      refine lv_aload_n S.1 S.2.1 dX5_member_25 rfl (lv_at hl 0 rfl) ?_
      refine x_get (v := .ref (ad 1)) S hK hP w_lay_X5 (ci := 5) rfl 0 (ok_lt (ok_p hn)) (e5 (ok_p hn).1) 0 (by decide) w_fl_X5_10 rfl rfl dX5_member_26 ?_
      refine x_get (v := .int (gI M 1 4)) S hK hP w_lay_X0 (ci := 0) rfl 1 (ok_lt (ok_b1 hn)) (e0 (ok_b1 hn).1) 4 (by decide) w_fl_X5_78 rfl rfl dX5_member_29 ?_
      refine lv_bipush (v := (24 : Int32)) S.1 S.2.1 dX5_member_32 (by decide) ?_
      refine lv_icmp_lt (tgt := 41) S.1 S.2.1 dX5_member_34 (by decide) (fun h3 => ?_) (fun h3 => ?_)
      · replace hf := ift h3 hf
        refine lv_aload_n S.1 S.2.1 dX5_member_41 rfl (lv_at hl 0 rfl) ?_
        refine x_get (v := .ref (ad 1)) S hK hP w_lay_X5 (ci := 5) rfl 0 (ok_lt (ok_p hn)) (e5 (ok_p hn).1) 0 (by decide) w_fl_X5_10 rfl rfl dX5_member_42 ?_
        refine lv_iload_n S.1 S.2.1 dX5_member_45 rfl (lv_at hl 1 rfl) ?_
        obtain ⟨x5, M4, gM4, hf⟩ := bn2_some hf
        refine y_Vi (As := [.int a1]) S hK hN hP hS rfl (ok_lt (ok_b1 hn)) (e0 (ok_b1 hn).1) rfl (K_X0_addMember l E ad n hI hn _ N a1  M x5 M4 gM4) (cV 1 S w_co_yX0_addMember w_in_X0 w_ml_X5_81 w_im_yX0_addMember w_se_yX0_addMember hd_X0_addMember ⟨Nat.le_of_ble_eq_true rfl, Nat.le_of_ble_eq_true rfl⟩) hl.1 rfl rfl (Nat.le_of_ble_eq_true rfl) dX5_member_46 ⟨Nat.zero_le _, Nat.zero_le _⟩ (fun H locs hP hS => ?_)
        refine lv_i2l (v := x5.toInt64) S.1 S.2.1 dX5_member_49 rfl ?_
        cases hf
        exact r_l S hr hlk hP hS dX5_member_50
      · replace hf := iff_ h3 hf
        refine lv_ldc2 (own := "SurvivorPurse") (v := (-1000000000000000 : Int64)) S.1 S.2.1 S.2.2.2.1 (S.2.2.2.2 _ w_kl_X5_34) dX5_member_37 ?_
        cases hf
        exact r_l S hr hlk hP hS dX5_member_40
theorem hd_X5_group : yX5_group.cls ≠ "java/lang/invoke/MethodHandle" ∧ yX5_group.cls ≠ "java/lang/invoke/VarHandle" ∧ (parseMethodDescriptor yX5_group.desc).map (fun d => d.parameters.length) = some 3 := by decide +kernel
set_option maxHeartbeats 4000000 in
set_option maxRecDepth 100000 in
theorem K_X5_group (l : Launch) (E : EE) (ad : Nat → Nat) (n : Nat) (hI : ad_I ad n) (hn : 117 ≤ n) (sz : Nat) (N : Nat) (a1 : Int32) (a2 : Int32) (a3 : Int32)  (M : MM) (r : Int64) (M' : MM) (hf : F_X5_group N a1 a2 a3 M = some (r, M')) : CtL l yX5_group cX5_group 4 2 46 E (entC E ad n M) (entC E ad n M') ad n sz [.ref (ad 0), .int a1, .int a2, .int a3] (r) := by
  unfold CtL
  refine body_of (by decide) "SurvivorPurse" rfl (Nat.le_of_ble_eq_true rfl) ?_
  intro p e s m below meth c hsz S hr hlk hP hK hN ls hl
  subst hsz
  have hS : va_S (AA ad n s.heap.size) s.heap s.heap [] := va_S.rf
  have hl : lv_has ls 4 [(0, .ref (ad 0)), (1, .int a1), (2, .int a2), (3, .int a3)] := hl
  rw [F_X5_group] at hf
  refine lv_iload_n S.1 S.2.1 dX5_group_0 rfl (lv_at hl 1 rfl) ?_
  refine y_Si (As := [.int a1]) S hK hN hP hS rfl (K_X5_isAge l E ad n hI hn _ a1  M _ rfl) (cS 1 S w_co_yX5_isAge w_in_X5 w_ml_X5_19 w_st_yX5_isAge hd_X5_isAge ⟨Nat.le_of_ble_eq_true rfl, Nat.le_of_ble_eq_true rfl⟩) hl.1 rfl rfl (Nat.le_of_ble_eq_true rfl) dX5_group_1 ⟨Nat.zero_le _, Nat.zero_le _⟩ (fun H locs hP hS => ?_)
  refine lv_if_eq (tgt := 19) S.1 S.2.1 dX5_group_4 (by decide) (fun h1 => ?_) (fun h1 => ?_)
  · replace hf := ift h1 hf
    refine lv_ldc2 (own := "SurvivorPurse") (v := (-1000000000000000 : Int64)) S.1 S.2.1 S.2.2.2.1 (S.2.2.2.2 _ w_kl_X5_34) dX5_group_19 ?_
    cases hf
    exact r_l S hr hlk hP hS dX5_group_22
  · replace hf := iff_ h1 hf
    refine lv_iload_n S.1 S.2.1 dX5_group_7 rfl (lv_at hl 2 rfl) ?_
    refine y_Si (As := [.int a2]) S hK hN hP hS rfl (K_X5_isAge l E ad n hI hn _ a2  M _ rfl) (cS 1 S w_co_yX5_isAge w_in_X5 w_ml_X5_19 w_st_yX5_isAge hd_X5_isAge ⟨Nat.le_of_ble_eq_true rfl, Nat.le_of_ble_eq_true rfl⟩) hl.1 rfl rfl (Nat.le_of_ble_eq_true rfl) dX5_group_8 ⟨Nat.zero_le _, Nat.zero_le _⟩ (fun H locs hP hS => ?_)
    refine lv_if_eq (tgt := 19) S.1 S.2.1 dX5_group_11 (by decide) (fun h2 => ?_) (fun h2 => ?_)
    · replace hf := ift h2 hf
      refine lv_ldc2 (own := "SurvivorPurse") (v := (-1000000000000000 : Int64)) S.1 S.2.1 S.2.2.2.1 (S.2.2.2.2 _ w_kl_X5_34) dX5_group_19 ?_
      cases hf
      exact r_l S hr hlk hP hS dX5_group_22
    · replace hf := iff_ h2 hf
      refine lv_iload_n S.1 S.2.1 dX5_group_14 rfl (lv_at hl 1 rfl) ?_
      refine lv_iload_n S.1 S.2.1 dX5_group_15 rfl (lv_at hl 2 rfl) ?_
      refine lv_icmp_le (tgt := 23) S.1 S.2.1 dX5_group_16 (by decide) (fun h3 => ?_) (fun h3 => ?_)
      · replace hf := ift h3 hf
        refine lv_iload_n S.1 S.2.1 dX5_group_23 rfl (lv_at hl 3 rfl) ?_
        refine lv_iconst (v := (1 : Int32)) S.1 S.2.1 dX5_group_24 (by decide) ?_
        refine lv_sipush (v := (10000 : Int32)) S.1 S.2.1 dX5_group_25 (by decide) ?_
        refine y_Si (As := [.int a3, .int (1 : Int32), .int (10000 : Int32)]) S hK hN hP hS rfl (K_X5_isWithin l E ad n hI hn _ a3 (1 : Int32) (10000 : Int32)  M _ rfl) (cS 3 S w_co_yX5_isWithin w_in_X5 w_ml_X5_97 w_st_yX5_isWithin hd_X5_isWithin ⟨Nat.le_of_ble_eq_true rfl, Nat.le_of_ble_eq_true rfl⟩) hl.1 rfl rfl (Nat.le_of_ble_eq_true rfl) dX5_group_28 ⟨Nat.zero_le _, Nat.zero_le _⟩ (fun H locs hP hS => ?_)
        refine lv_if_eq (tgt := 46) S.1 S.2.1 dX5_group_31 (by decide) (fun h4 => ?_) (fun h4 => ?_)
        · replace hf := ift h4 hf
          refine lv_ldc2 (own := "SurvivorPurse") (v := (-1000000000000000 : Int64)) S.1 S.2.1 S.2.2.2.1 (S.2.2.2.2 _ w_kl_X5_34) dX5_group_46 ?_
          cases hf
          exact r_l S hr hlk hP hS dX5_group_49
        · replace hf := iff_ h4 hf
          refine lv_aload_n S.1 S.2.1 dX5_group_34 rfl (lv_at hl 0 rfl) ?_
          refine x_get (v := .ref (ad 1)) S hK hP w_lay_X5 (ci := 5) rfl 0 (ok_lt (ok_p hn)) (e5 (ok_p hn).1) 0 (by decide) w_fl_X5_10 rfl rfl dX5_group_35 ?_
          refine x_get (v := .int (gI M 1 5)) S hK hP w_lay_X0 (ci := 0) rfl 1 (ok_lt (ok_b1 hn)) (e0 (ok_b1 hn).1) 5 (by decide) w_fl_X5_101 rfl rfl dX5_group_38 ?_
          refine lv_bipush (v := (6 : Int32)) S.1 S.2.1 dX5_group_41 (by decide) ?_
          refine lv_icmp_lt (tgt := 50) S.1 S.2.1 dX5_group_43 (by decide) (fun h5 => ?_) (fun h5 => ?_)
          · replace hf := ift h5 hf
            refine lv_aload_n S.1 S.2.1 dX5_group_50 rfl (lv_at hl 0 rfl) ?_
            refine x_get (v := .ref (ad 1)) S hK hP w_lay_X5 (ci := 5) rfl 0 (ok_lt (ok_p hn)) (e5 (ok_p hn).1) 0 (by decide) w_fl_X5_10 rfl rfl dX5_group_51 ?_
            refine lv_iload_n S.1 S.2.1 dX5_group_54 rfl (lv_at hl 1 rfl) ?_
            refine lv_iload_n S.1 S.2.1 dX5_group_55 rfl (lv_at hl 2 rfl) ?_
            refine lv_iload_n S.1 S.2.1 dX5_group_56 rfl (lv_at hl 3 rfl) ?_
            obtain ⟨x7, M6, gM6, hf⟩ := bn2_some hf
            refine y_Vi (As := [.int a1, .int a2, .int a3]) S hK hN hP hS rfl (ok_lt (ok_b1 hn)) (e0 (ok_b1 hn).1) rfl (K_X0_addRank l E ad n hI hn _ N a1 a2 a3  M x7 M6 gM6) (cV 3 S w_co_yX0_addRank w_in_X0 w_ml_X5_104 w_im_yX0_addRank w_se_yX0_addRank hd_X0_addRank ⟨Nat.le_of_ble_eq_true rfl, Nat.le_of_ble_eq_true rfl⟩) hl.1 rfl rfl (Nat.le_of_ble_eq_true rfl) dX5_group_57 ⟨Nat.zero_le _, Nat.zero_le _⟩ (fun H locs hP hS => ?_)
            refine lv_i2l (v := x7.toInt64) S.1 S.2.1 dX5_group_60 rfl ?_
            cases hf
            exact r_l S hr hlk hP hS dX5_group_61
          · replace hf := iff_ h5 hf
            refine lv_ldc2 (own := "SurvivorPurse") (v := (-1000000000000000 : Int64)) S.1 S.2.1 S.2.2.2.1 (S.2.2.2.2 _ w_kl_X5_34) dX5_group_46 ?_
            cases hf
            exact r_l S hr hlk hP hS dX5_group_49
      · replace hf := iff_ h3 hf
        refine lv_ldc2 (own := "SurvivorPurse") (v := (-1000000000000000 : Int64)) S.1 S.2.1 S.2.2.2.1 (S.2.2.2.2 _ w_kl_X5_34) dX5_group_19 ?_
        cases hf
        exact r_l S hr hlk hP hS dX5_group_22
theorem hd_X5_set : yX5_set.cls ≠ "java/lang/invoke/MethodHandle" ∧ yX5_set.cls ≠ "java/lang/invoke/VarHandle" ∧ (parseMethodDescriptor yX5_set.desc).map (fun d => d.parameters.length) = some 2 := by decide +kernel
set_option maxHeartbeats 4000000 in
set_option maxRecDepth 100000 in
theorem L_X5_set_32 (l : Launch) (E : EE) (ad : Nat → Nat) (n : Nat) (hI : ad_I ad n) (hn : 117 ≤ n) (N : Nat) (a1 : Int32) (a2 : Int32)  {p : Program} {e : Env} {s : State} {m : MethodId} {below : List Frame} {meth : Method} {c : Code} (S : CallFix p m c cX5_set 4 s [.ref (ad 0), .int a1, .int a2].toArray bg_B "SurvivorPurse") (hr : meth.sig.returnType = (some .long)) (hlk : meth.locks = false) (hK : va_K E.1 vwCl (tysE E) s) (hN : NW s) (r : Int64) (M' : MM) : ∀   (M : MM), F_X5_set_32 N a1 a2  M = some (r, M') → ∀ (H : Heap) (locs : List Loc) (ls : Array Slot), va_P E.1 vwCl (mw (entC E ad n M) ad n) H → va_S (AA ad n s.heap.size) s.heap H locs → lv_has ls 4 [(0, .ref (ad 0)), (1, .int a1), (2, .int a2)] → W p l e { frames := 1, cells := 0, slots := 0, locals := 22 } s m [.ref (ad 0), .int a1, .int a2].toArray below meth c H locs 0 0 (MQ below (va_Ql (fun r0 (_ : Unit) => r0 = r) (fun _ t => QB E (entC E ad n M') ad n t) (AA ad n s.heap.size)) [.ref (ad 0), .int a1, .int a2].toArray s 0 0 (AA ad n s.heap.size)) (F0 m 32 ls []) := by
  intro M hf H locs ls hP hS hl
  rw [F_X5_set_32] at hf
  refine lv_iload_n S.1 S.2.1 dX5_set_32 rfl (lv_at hl 1 rfl) ?_
  refine lv_iconst (v := (1 : Int32)) S.1 S.2.1 dX5_set_33 (by decide) ?_
  refine lv_icmp_ne (tgt := 67) S.1 S.2.1 dX5_set_34 (by decide) (fun h5 => ?_) (fun h5 => ?_)
  · replace hf := iff_ h5 hf
    refine lv_ldc2 (own := "SurvivorPurse") (v := (-1000000000000000 : Int64)) S.1 S.2.1 S.2.2.2.1 (S.2.2.2.2 _ w_kl_X5_34) dX5_set_67 ?_
    cases hf
    exact r_l S hr hlk hP hS dX5_set_70
  · replace hf := ift h5 hf
    refine lv_iload_n S.1 S.2.1 dX5_set_37 rfl (lv_at hl 2 rfl) ?_
    refine lv_iconst (v := (0 : Int32)) S.1 S.2.1 dX5_set_38 (by decide) ?_
    refine lv_sipush (v := (1000 : Int32)) S.1 S.2.1 dX5_set_39 (by decide) ?_
    refine y_Si (As := [.int a2, .int (0 : Int32), .int (1000 : Int32)]) S hK hN hP hS rfl (K_X5_isWithin l E ad n hI hn _ a2 (0 : Int32) (1000 : Int32)  M _ rfl) (cS 3 S w_co_yX5_isWithin w_in_X5 w_ml_X5_97 w_st_yX5_isWithin hd_X5_isWithin ⟨Nat.le_of_ble_eq_true rfl, Nat.le_of_ble_eq_true rfl⟩) hl.1 rfl rfl (Nat.le_of_ble_eq_true rfl) dX5_set_42 ⟨Nat.zero_le _, Nat.zero_le _⟩ (fun H locs hP hS => ?_)
    refine lv_if_eq (tgt := 67) S.1 S.2.1 dX5_set_45 (by decide) (fun h6 => ?_) (fun h6 => ?_)
    · replace hf := ift h6 hf
      refine lv_ldc2 (own := "SurvivorPurse") (v := (-1000000000000000 : Int64)) S.1 S.2.1 S.2.2.2.1 (S.2.2.2.2 _ w_kl_X5_34) dX5_set_67 ?_
      cases hf
      exact r_l S hr hlk hP hS dX5_set_70
    · replace hf := iff_ h6 hf
      refine lv_aload_n S.1 S.2.1 dX5_set_48 rfl (lv_at hl 0 rfl) ?_
      refine x_get (v := .ref (ad 1)) S hK hP w_lay_X5 (ci := 5) rfl 0 (ok_lt (ok_p hn)) (e5 (ok_p hn).1) 0 (by decide) w_fl_X5_10 rfl rfl dX5_set_49 ?_
      refine x_get (v := .int (gI M 1 9)) S hK hP w_lay_X0 (ci := 0) rfl 1 (ok_lt (ok_b1 hn)) (e0 (ok_b1 hn).1) 9 (by decide) w_fl_X5_111 rfl rfl dX5_set_52 ?_
      obtain ⟨x7, ex7, hf⟩ := bnd_some hf
      refine lv_rei ex7 ?_
      refine lv_istore_n (lv' := [(3, .int x7), (0, .ref (ad 0)), (1, .int a1), (2, .int a2)]) S.1 S.2.1 dX5_set_55 rfl hl (by decide) rfl (fun ls hl => ?_)
      refine lv_aload_n S.1 S.2.1 dX5_set_56 rfl (lv_at hl 1 rfl) ?_
      refine x_get (v := .ref (ad 1)) S hK hP w_lay_X5 (ci := 5) rfl 0 (ok_lt (ok_p hn)) (e5 (ok_p hn).1) 0 (by decide) w_fl_X5_10 rfl rfl dX5_set_57 ?_
      refine lv_iload_n S.1 S.2.1 dX5_set_60 rfl (lv_at hl 3 rfl) ?_
      refine x_put S hI hK hP hS w_lay_X0 tyX0 tyX0_ok nmX0 (ci := 0) rfl 1 (ok_lt (ok_b1 hn)) (e0 (ok_b1 hn).1) 9 (by decide) w_fl_X5_111 rfl rfl rfl rfl (Nat.le_of_ble_eq_true rfl) (entC E ad n (sI M 1 9 a2)) (h1_X0_9 (ok_b1 hn).1 ) (fun _ h => entC_sI _ h) dX5_set_61 (fun H locs hP hS => ?_)
      obtain ⟨M8, eM8, hf⟩ := bnd_some hf
      rw [← eM8] at hP
      refine lv_iload_n S.1 S.2.1 dX5_set_64 rfl (lv_at hl 0 rfl) ?_
      refine lv_i2l (v := x7.toInt64) S.1 S.2.1 dX5_set_65 rfl ?_
      cases hf
      exact r_l S hr hlk hP hS dX5_set_66
set_option maxHeartbeats 4000000 in
set_option maxRecDepth 100000 in
theorem K_X5_set (l : Launch) (E : EE) (ad : Nat → Nat) (n : Nat) (hI : ad_I ad n) (hn : 117 ≤ n) (sz : Nat) (N : Nat) (a1 : Int32) (a2 : Int32)  (M : MM) (r : Int64) (M' : MM) (hf : F_X5_set N a1 a2 M = some (r, M')) : CtL l yX5_set cX5_set 4 1 22 E (entC E ad n M) (entC E ad n M') ad n sz [.ref (ad 0), .int a1, .int a2] (r) := by
  unfold CtL
  refine body_of (by decide) "SurvivorPurse" rfl (Nat.le_of_ble_eq_true rfl) ?_
  intro p e s m below meth c hsz S hr hlk hP hK hN ls hl
  subst hsz
  have hS : va_S (AA ad n s.heap.size) s.heap s.heap [] := va_S.rf
  have hl : lv_has ls 4 [(0, .ref (ad 0)), (1, .int a1), (2, .int a2)] := hl
  rw [F_X5_set] at hf
  refine lv_iload_n S.1 S.2.1 dX5_set_0 rfl (lv_at hl 1 rfl) ?_
  refine lv_if_ne (tgt := 32) S.1 S.2.1 dX5_set_1 (by decide) (fun h1 => ?_) (fun h1 => ?_)
  · replace hf := iff_ h1 hf
    exact L_X5_set_32 l E ad n hI hn N a1 a2  S hr hlk hK hN _ _    M hf _ _ _ hP hS (lv_sub hl [0, 1, 2] rfl)
  · replace hf := ift h1 hf
    refine lv_iload_n S.1 S.2.1 dX5_set_4 rfl (lv_at hl 2 rfl) ?_
    refine lv_iconst (v := (1 : Int32)) S.1 S.2.1 dX5_set_5 (by decide) ?_
    refine lv_iconst (v := (5 : Int32)) S.1 S.2.1 dX5_set_6 (by decide) ?_
    refine y_Si (As := [.int a2, .int (1 : Int32), .int (5 : Int32)]) S hK hN hP hS rfl (K_X5_isWithin l E ad n hI hn _ a2 (1 : Int32) (5 : Int32)  M _ rfl) (cS 3 S w_co_yX5_isWithin w_in_X5 w_ml_X5_97 w_st_yX5_isWithin hd_X5_isWithin ⟨Nat.le_of_ble_eq_true rfl, Nat.le_of_ble_eq_true rfl⟩) hl.1 rfl rfl (Nat.le_of_ble_eq_true rfl) dX5_set_7 ⟨Nat.zero_le _, Nat.zero_le _⟩ (fun H locs hP hS => ?_)
    refine lv_if_eq (tgt := 32) S.1 S.2.1 dX5_set_10 (by decide) (fun h2 => ?_) (fun h2 => ?_)
    · replace hf := ift h2 hf
      exact L_X5_set_32 l E ad n hI hn N a1 a2  S hr hlk hK hN _ _    M hf _ _ _ hP hS (lv_sub hl [0, 1, 2] rfl)
    · replace hf := iff_ h2 hf
      refine lv_aload_n S.1 S.2.1 dX5_set_13 rfl (lv_at hl 0 rfl) ?_
      refine x_get (v := .ref (ad 1)) S hK hP w_lay_X5 (ci := 5) rfl 0 (ok_lt (ok_p hn)) (e5 (ok_p hn).1) 0 (by decide) w_fl_X5_10 rfl rfl dX5_set_14 ?_
      refine x_get (v := .int (gI M 1 8)) S hK hP w_lay_X0 (ci := 0) rfl 1 (ok_lt (ok_b1 hn)) (e0 (ok_b1 hn).1) 8 (by decide) w_fl_X5_108 rfl rfl dX5_set_17 ?_
      obtain ⟨x3, ex3, hf⟩ := bnd_some hf
      refine lv_rei ex3 ?_
      refine lv_istore_n (lv' := [(3, .int x3), (0, .ref (ad 0)), (1, .int a1), (2, .int a2)]) S.1 S.2.1 dX5_set_20 rfl hl (by decide) rfl (fun ls hl => ?_)
      refine lv_aload_n S.1 S.2.1 dX5_set_21 rfl (lv_at hl 1 rfl) ?_
      refine x_get (v := .ref (ad 1)) S hK hP w_lay_X5 (ci := 5) rfl 0 (ok_lt (ok_p hn)) (e5 (ok_p hn).1) 0 (by decide) w_fl_X5_10 rfl rfl dX5_set_22 ?_
      refine lv_iload_n S.1 S.2.1 dX5_set_25 rfl (lv_at hl 3 rfl) ?_
      refine x_put S hI hK hP hS w_lay_X0 tyX0 tyX0_ok nmX0 (ci := 0) rfl 1 (ok_lt (ok_b1 hn)) (e0 (ok_b1 hn).1) 8 (by decide) w_fl_X5_108 rfl rfl rfl rfl (Nat.le_of_ble_eq_true rfl) (entC E ad n (sI M 1 8 a2)) (h1_X0_8 (ok_b1 hn).1 ) (fun _ h => entC_sI _ h) dX5_set_26 (fun H locs hP hS => ?_)
      obtain ⟨M4, eM4, hf⟩ := bnd_some hf
      rw [← eM4] at hP
      refine lv_iload_n S.1 S.2.1 dX5_set_29 rfl (lv_at hl 0 rfl) ?_
      refine lv_i2l (v := x3.toInt64) S.1 S.2.1 dX5_set_30 rfl ?_
      cases hf
      exact r_l S hr hlk hP hS dX5_set_31
theorem hd_X5_pledge : yX5_pledge.cls ≠ "java/lang/invoke/MethodHandle" ∧ yX5_pledge.cls ≠ "java/lang/invoke/VarHandle" ∧ (parseMethodDescriptor yX5_pledge.desc).map (fun d => d.parameters.length) = some 3 := by decide +kernel
set_option maxHeartbeats 4000000 in
set_option maxRecDepth 100000 in
theorem K_X5_pledge (l : Launch) (E : EE) (ad : Nat → Nat) (n : Nat) (hI : ad_I ad n) (hn : 117 ≤ n) (sz : Nat) (N : Nat) (a1 : Int32) (a2 : Int32) (a3 : Int32)  (M : MM) (r : Int64) (M' : MM) (hf : F_X5_pledge N a1 a2 a3 M = some (r, M')) : CtL l yX5_pledge cX5_pledge 7 1 22 E (entC E ad n M) (entC E ad n M') ad n sz [.ref (ad 0), .int a1, .int a2, .int a3] (r) := by
  unfold CtL
  refine body_of (by decide) "SurvivorPurse" rfl (Nat.le_of_ble_eq_true rfl) ?_
  intro p e s m below meth c hsz S hr hlk hP hK hN ls hl
  subst hsz
  have hS : va_S (AA ad n s.heap.size) s.heap s.heap [] := va_S.rf
  have hl : lv_has ls 7 [(0, .ref (ad 0)), (1, .int a1), (2, .int a2), (3, .int a3)] := hl
  rw [F_X5_pledge] at hf
  refine lv_aload_n S.1 S.2.1 dX5_pledge_0 rfl (lv_at hl 0 rfl) ?_
  refine x_get (v := .ref (ad 1)) S hK hP w_lay_X5 (ci := 5) rfl 0 (ok_lt (ok_p hn)) (e5 (ok_p hn).1) 0 (by decide) w_fl_X5_10 rfl rfl dX5_pledge_1 ?_
  refine lv_iload_n S.1 S.2.1 dX5_pledge_4 rfl (lv_at hl 1 rfl) ?_
  refine y_Vi (As := [.int a1]) S hK hN hP hS rfl (ok_lt (ok_b1 hn)) (e0 (ok_b1 hn).1) rfl (K_X0_isShare l E ad n hI hn _ a1  M _ rfl) (cV 1 S w_co_yX0_isShare w_in_X0 w_ml_X5_141 w_im_yX0_isShare w_se_yX0_isShare hd_X0_isShare ⟨Nat.le_of_ble_eq_true rfl, Nat.le_of_ble_eq_true rfl⟩) hl.1 rfl rfl (Nat.le_of_ble_eq_true rfl) dX5_pledge_5 ⟨Nat.zero_le _, Nat.zero_le _⟩ (fun H locs hP hS => ?_)
  refine lv_if_eq (tgt := 32) S.1 S.2.1 dX5_pledge_8 (by decide) (fun h1 => ?_) (fun h1 => ?_)
  · replace hf := ift h1 hf
    refine lv_ldc2 (own := "SurvivorPurse") (v := (-1000000000000000 : Int64)) S.1 S.2.1 S.2.2.2.1 (S.2.2.2.2 _ w_kl_X5_34) dX5_pledge_32 ?_
    cases hf
    exact r_l S hr hlk hP hS dX5_pledge_35
  · replace hf := iff_ h1 hf
    refine lv_aload_n S.1 S.2.1 dX5_pledge_11 rfl (lv_at hl 0 rfl) ?_
    refine x_get (v := .ref (ad 1)) S hK hP w_lay_X5 (ci := 5) rfl 0 (ok_lt (ok_p hn)) (e5 (ok_p hn).1) 0 (by decide) w_fl_X5_10 rfl rfl dX5_pledge_12 ?_
    refine lv_iload_n S.1 S.2.1 dX5_pledge_15 rfl (lv_at hl 2 rfl) ?_
    refine y_Vi (As := [.int a2]) S hK hN hP hS rfl (ok_lt (ok_b1 hn)) (e0 (ok_b1 hn).1) rfl (K_X0_isMember l E ad n hI hn _ a2  M _ rfl) (cV 1 S w_co_yX0_isMember w_in_X0 w_ml_X5_85 w_im_yX0_isMember w_se_yX0_isMember hd_X0_isMember ⟨Nat.le_of_ble_eq_true rfl, Nat.le_of_ble_eq_true rfl⟩) hl.1 rfl rfl (Nat.le_of_ble_eq_true rfl) dX5_pledge_16 ⟨Nat.zero_le _, Nat.zero_le _⟩ (fun H locs hP hS => ?_)
    refine lv_if_eq (tgt := 32) S.1 S.2.1 dX5_pledge_19 (by decide) (fun h2 => ?_) (fun h2 => ?_)
    · replace hf := ift h2 hf
      refine lv_ldc2 (own := "SurvivorPurse") (v := (-1000000000000000 : Int64)) S.1 S.2.1 S.2.2.2.1 (S.2.2.2.2 _ w_kl_X5_34) dX5_pledge_32 ?_
      cases hf
      exact r_l S hr hlk hP hS dX5_pledge_35
    · replace hf := iff_ h2 hf
      refine lv_iload_n S.1 S.2.1 dX5_pledge_22 rfl (lv_at hl 3 rfl) ?_
      refine lv_iconst (v := (0 : Int32)) S.1 S.2.1 dX5_pledge_23 (by decide) ?_
      refine lv_ldc (own := "SurvivorPurse") (v := (1000000000 : Int32)) S.1 S.2.1 S.2.2.2.1 (S.2.2.2.2 _ w_ki_X5_154) dX5_pledge_24 ?_
      refine y_Si (As := [.int a3, .int (0 : Int32), .int (1000000000 : Int32)]) S hK hN hP hS rfl (K_X5_isWithin l E ad n hI hn _ a3 (0 : Int32) (1000000000 : Int32)  M _ rfl) (cS 3 S w_co_yX5_isWithin w_in_X5 w_ml_X5_97 w_st_yX5_isWithin hd_X5_isWithin ⟨Nat.le_of_ble_eq_true rfl, Nat.le_of_ble_eq_true rfl⟩) hl.1 rfl rfl (Nat.le_of_ble_eq_true rfl) dX5_pledge_26 ⟨Nat.zero_le _, Nat.zero_le _⟩ (fun H locs hP hS => ?_)
      refine lv_if_ne (tgt := 36) S.1 S.2.1 dX5_pledge_29 (by decide) (fun h3 => ?_) (fun h3 => ?_)
      · replace hf := iff_ h3 hf
        refine lv_aload_n S.1 S.2.1 dX5_pledge_36 rfl (lv_at hl 0 rfl) ?_
        refine x_get (v := .ref (ad 1)) S hK hP w_lay_X5 (ci := 5) rfl 0 (ok_lt (ok_p hn)) (e5 (ok_p hn).1) 0 (by decide) w_fl_X5_10 rfl rfl dX5_pledge_37 ?_
        refine x_get (v := .ref (ad 6)) S hK hP w_lay_X0 (ci := 0) rfl 1 (ok_lt (ok_b1 hn)) (e0 (ok_b1 hn).1) 3 (by decide) w_fl_X5_129 rfl rfl dX5_pledge_40 ?_
        refine lv_iload_n S.1 S.2.1 dX5_pledge_43 rfl (lv_at hl 1 rfl) ?_
        obtain ⟨h4, hf⟩ := gd_some hf
        refine x_aald S hK hP 6 (ok_lt (ok_sa1 hn)) e11_1 4 rfl h4 dX5_pledge_44 ?_
        refine lv_astore (lv' := [(4, .ref (ad (37 + (ix a1)))), (0, .ref (ad 0)), (1, .int a1), (2, .int a2), (3, .int a3)]) S.1 S.2.1 dX5_pledge_45 hl (by decide) rfl (fun ls hl => ?_)
        refine lv_aload S.1 S.2.1 dX5_pledge_47 (lv_at hl 0 rfl) ?_
        refine x_get (v := .long (gL M (37 + (ix a1)) 11)) S hK hP w_lay_X3 (ci := 3) rfl (37 + (ix a1)) (ok_lt (ok_s1 hn (ib_lt h4))) (e3 (ok_s1 hn (ib_lt h4)).1) 11 (by decide) w_fl_X5_155 rfl rfl dX5_pledge_49 ?_
        obtain ⟨x5, ex5, hf⟩ := bnd_some hf
        refine lv_rel ex5 ?_
        refine lv_lstore (lv' := [(5, .long x5), (4, .ref (ad (37 + (ix a1)))), (0, .ref (ad 0)), (1, .int a1), (2, .int a2), (3, .int a3)]) S.1 S.2.1 dX5_pledge_52 hl (by decide) rfl (fun ls hl => ?_)
        refine lv_aload S.1 S.2.1 dX5_pledge_54 (lv_at hl 1 rfl) ?_
        refine lv_iload_n S.1 S.2.1 dX5_pledge_56 rfl (lv_at hl 5 rfl) ?_
        refine lv_i2l (v := a3.toInt64) S.1 S.2.1 dX5_pledge_57 rfl ?_
        refine x_put S hI hK hP hS w_lay_X3 tyX3 tyX3_ok nmX3 (ci := 3) rfl (37 + (ix a1)) (ok_lt (ok_s1 hn (ib_lt h4))) (e3 (ok_s1 hn (ib_lt h4)).1) 11 (by decide) w_fl_X5_155 rfl rfl rfl rfl (Nat.le_of_ble_eq_true rfl) (entC E ad n (sL M (37 + (ix a1)) 11 a3.toInt64)) (h1_X3_11 (ok_s1 hn (ib_lt h4)).1 ) (fun _ h => entC_sL _ h) dX5_pledge_58 (fun H locs hP hS => ?_)
        obtain ⟨M6, eM6, hf⟩ := bnd_some hf
        rw [← eM6] at hP
        refine lv_aload S.1 S.2.1 dX5_pledge_61 (lv_at hl 1 rfl) ?_
        refine lv_iload_n S.1 S.2.1 dX5_pledge_63 rfl (lv_at hl 4 rfl) ?_
        refine x_put S hI hK hP hS w_lay_X3 tyX3 tyX3_ok nmX3 (ci := 3) rfl (37 + (ix a1)) (ok_lt (ok_s1 hn (ib_lt h4))) (e3 (ok_s1 hn (ib_lt h4)).1) 12 (by decide) w_fl_X5_159 rfl rfl rfl rfl (Nat.le_of_ble_eq_true rfl) (entC E ad n (sI M6 (37 + (ix a1)) 12 a2)) (h1_X3_12 (ok_s1 hn (ib_lt h4)).1 ) (fun _ h => entC_sI _ h) dX5_pledge_64 (fun H locs hP hS => ?_)
        obtain ⟨M7, eM7, hf⟩ := bnd_some hf
        rw [← eM7] at hP
        refine lv_lload S.1 S.2.1 dX5_pledge_67 (lv_at hl 0 rfl) ?_
        cases hf
        exact r_l S hr hlk hP hS dX5_pledge_69
      · replace hf := ift h3 hf
        refine lv_ldc2 (own := "SurvivorPurse") (v := (-1000000000000000 : Int64)) S.1 S.2.1 S.2.2.2.1 (S.2.2.2.2 _ w_kl_X5_34) dX5_pledge_32 ?_
        cases hf
        exact r_l S hr hlk hP hS dX5_pledge_35
theorem hd_X5_drew : yX5_drew.cls ≠ "java/lang/invoke/MethodHandle" ∧ yX5_drew.cls ≠ "java/lang/invoke/VarHandle" ∧ (parseMethodDescriptor yX5_drew.desc).map (fun d => d.parameters.length) = some 2 := by decide +kernel
set_option maxHeartbeats 4000000 in
set_option maxRecDepth 100000 in
theorem K_X5_drew (l : Launch) (E : EE) (ad : Nat → Nat) (n : Nat) (hI : ad_I ad n) (hn : 117 ≤ n) (sz : Nat) (N : Nat) (a1 : Int32) (a2 : Int32)  (M : MM) (r : Int64) (hf : F_X5_drew N a1 a2 M = some r) : CtL l yX5_drew cX5_drew 3 2 55 E (entC E ad n M) (entC E ad n M) ad n sz [.ref (ad 0), .int a1, .int a2] (r) := by
  unfold CtL
  refine body_of (by decide) "SurvivorPurse" rfl (Nat.le_of_ble_eq_true rfl) ?_
  intro p e s m below meth c hsz S hr hlk hP hK hN ls hl
  subst hsz
  have hS : va_S (AA ad n s.heap.size) s.heap s.heap [] := va_S.rf
  have hl : lv_has ls 3 [(0, .ref (ad 0)), (1, .int a1), (2, .int a2)] := hl
  rw [F_X5_drew] at hf
  refine lv_aload_n S.1 S.2.1 dX5_drew_0 rfl (lv_at hl 0 rfl) ?_
  refine x_get (v := .ref (ad 1)) S hK hP w_lay_X5 (ci := 5) rfl 0 (ok_lt (ok_p hn)) (e5 (ok_p hn).1) 0 (by decide) w_fl_X5_10 rfl rfl dX5_drew_1 ?_
  refine lv_iload_n S.1 S.2.1 dX5_drew_4 rfl (lv_at hl 1 rfl) ?_
  refine y_Vi (As := [.int a1]) S hK hN hP hS rfl (ok_lt (ok_b1 hn)) (e0 (ok_b1 hn).1) rfl (K_X0_isShare l E ad n hI hn _ a1  M _ rfl) (cV 1 S w_co_yX0_isShare w_in_X0 w_ml_X5_141 w_im_yX0_isShare w_se_yX0_isShare hd_X0_isShare ⟨Nat.le_of_ble_eq_true rfl, Nat.le_of_ble_eq_true rfl⟩) hl.1 rfl rfl (Nat.le_of_ble_eq_true rfl) dX5_drew_5 ⟨Nat.zero_le _, Nat.zero_le _⟩ (fun H locs hP hS => ?_)
  refine lv_if_eq (tgt := 28) S.1 S.2.1 dX5_drew_8 (by decide) (fun h1 => ?_) (fun h1 => ?_)
  · replace hf := ift h1 hf
    refine lv_ldc2 (own := "SurvivorPurse") (v := (-1000000000000000 : Int64)) S.1 S.2.1 S.2.2.2.1 (S.2.2.2.2 _ w_kl_X5_34) dX5_drew_28 ?_
    cases hf
    exact r_l S hr hlk hP hS dX5_drew_31
  · replace hf := iff_ h1 hf
    refine lv_iload_n S.1 S.2.1 dX5_drew_11 rfl (lv_at hl 2 rfl) ?_
    refine lv_iconst (v := (0 : Int32)) S.1 S.2.1 dX5_drew_12 (by decide) ?_
    refine lv_aload_n S.1 S.2.1 dX5_drew_13 rfl (lv_at hl 0 rfl) ?_
    refine x_get (v := .ref (ad 1)) S hK hP w_lay_X5 (ci := 5) rfl 0 (ok_lt (ok_p hn)) (e5 (ok_p hn).1) 0 (by decide) w_fl_X5_10 rfl rfl dX5_drew_14 ?_
    refine x_get (v := .int (gI M 1 7)) S hK hP w_lay_X0 (ci := 0) rfl 1 (ok_lt (ok_b1 hn)) (e0 (ok_b1 hn).1) 7 (by decide) w_fl_X5_75 rfl rfl dX5_drew_17 ?_
    refine lv_iconst (v := (1 : Int32)) S.1 S.2.1 dX5_drew_20 (by decide) ?_
    refine lv_isub S.1 S.2.1 dX5_drew_21 ?_
    refine y_Si (As := [.int a2, .int (0 : Int32), .int ((gI M 1 7) - (1 : Int32))]) S hK hN hP hS rfl (K_X5_isWithin l E ad n hI hn _ a2 (0 : Int32) ((gI M 1 7) - (1 : Int32))  M _ rfl) (cS 3 S w_co_yX5_isWithin w_in_X5 w_ml_X5_97 w_st_yX5_isWithin hd_X5_isWithin ⟨Nat.le_of_ble_eq_true rfl, Nat.le_of_ble_eq_true rfl⟩) hl.1 rfl rfl (Nat.le_of_ble_eq_true rfl) dX5_drew_22 ⟨Nat.zero_le _, Nat.zero_le _⟩ (fun H locs hP hS => ?_)
    refine lv_if_ne (tgt := 32) S.1 S.2.1 dX5_drew_25 (by decide) (fun h2 => ?_) (fun h2 => ?_)
    · replace hf := iff_ h2 hf
      refine lv_aload_n S.1 S.2.1 dX5_drew_32 rfl (lv_at hl 0 rfl) ?_
      refine x_get (v := .ref (ad 1)) S hK hP w_lay_X5 (ci := 5) rfl 0 (ok_lt (ok_p hn)) (e5 (ok_p hn).1) 0 (by decide) w_fl_X5_10 rfl rfl dX5_drew_33 ?_
      refine x_get (v := .ref (ad 6)) S hK hP w_lay_X0 (ci := 0) rfl 1 (ok_lt (ok_b1 hn)) (e0 (ok_b1 hn).1) 3 (by decide) w_fl_X5_129 rfl rfl dX5_drew_36 ?_
      refine lv_iload_n S.1 S.2.1 dX5_drew_39 rfl (lv_at hl 1 rfl) ?_
      obtain ⟨h3, hf⟩ := gd_some hf
      refine x_aald S hK hP 6 (ok_lt (ok_sa1 hn)) e11_1 4 rfl h3 dX5_drew_40 ?_
      refine lv_iload_n S.1 S.2.1 dX5_drew_41 rfl (lv_at hl 2 rfl) ?_
      refine lv_iload_n S.1 S.2.1 dX5_drew_42 rfl (lv_at hl 2 rfl) ?_
      refine lv_iconst (v := (1 : Int32)) S.1 S.2.1 dX5_drew_43 (by decide) ?_
      refine lv_iadd S.1 S.2.1 dX5_drew_44 ?_
      obtain ⟨x4, gx4, hf⟩ := bn1_some hf
      refine y_Vl (As := [.int a2, .int (a2 + (1 : Int32))]) S hK hN hP hS rfl (ok_lt (ok_s1 hn (ib_lt h3))) (e3 (ok_s1 hn (ib_lt h3)).1) rfl (K_X3_drewIn l E ad n hI hn _ N (37 + (ix a1)) a2 (a2 + (1 : Int32)) (ok_s1 hn (ib_lt h3)) M x4 gx4) (cV 2 S w_co_yX3_drewIn w_in_X3 w_ml_X5_190 w_im_yX3_drewIn w_se_yX3_drewIn hd_X3_drewIn ⟨Nat.le_of_ble_eq_true rfl, Nat.le_of_ble_eq_true rfl⟩) hl.1 rfl rfl (Nat.le_of_ble_eq_true rfl) dX5_drew_45 ⟨Nat.zero_le _, Nat.zero_le _⟩ (fun H locs hP hS => ?_)
      cases hf
      exact r_l S hr hlk hP hS dX5_drew_48
    · replace hf := ift h2 hf
      refine lv_ldc2 (own := "SurvivorPurse") (v := (-1000000000000000 : Int64)) S.1 S.2.1 S.2.2.2.1 (S.2.2.2.2 _ w_kl_X5_34) dX5_drew_28 ?_
      cases hf
      exact r_l S hr hlk hP hS dX5_drew_31
theorem hd_X5_proof : yX5_proof.cls ≠ "java/lang/invoke/MethodHandle" ∧ yX5_proof.cls ≠ "java/lang/invoke/VarHandle" ∧ (parseMethodDescriptor yX5_proof.desc).map (fun d => d.parameters.length) = some 1 := by decide +kernel
set_option maxHeartbeats 4000000 in
set_option maxRecDepth 100000 in
theorem K_X5_proof (l : Launch) (E : EE) (ad : Nat → Nat) (n : Nat) (hI : ad_I ad n) (hn : 117 ≤ n) (sz : Nat) (N : Nat) (a1 : Int32)  (M : MM) (r : Int64) (M' : MM) (hf : F_X5_proof N a1 M = some (r, M')) : CtL l yX5_proof cX5_proof 2 6 146 E (entC E ad n M) (entC E ad n M') ad n sz [.ref (ad 0), .int a1] (r) := by
  unfold CtL
  refine body_of (by decide) "SurvivorPurse" rfl (Nat.le_of_ble_eq_true rfl) ?_
  intro p e s m below meth c hsz S hr hlk hP hK hN ls hl
  subst hsz
  have hS : va_S (AA ad n s.heap.size) s.heap s.heap [] := va_S.rf
  have hl : lv_has ls 2 [(0, .ref (ad 0)), (1, .int a1)] := hl
  rw [F_X5_proof] at hf
  refine lv_aload_n S.1 S.2.1 dX5_proof_0 rfl (lv_at hl 0 rfl) ?_
  refine x_get (v := .ref (ad 1)) S hK hP w_lay_X5 (ci := 5) rfl 0 (ok_lt (ok_p hn)) (e5 (ok_p hn).1) 0 (by decide) w_fl_X5_10 rfl rfl dX5_proof_1 ?_
  refine lv_iload_n S.1 S.2.1 dX5_proof_4 rfl (lv_at hl 1 rfl) ?_
  refine y_Vi (As := [.int a1]) S hK hN hP hS rfl (ok_lt (ok_b1 hn)) (e0 (ok_b1 hn).1) rfl (K_X0_isMember l E ad n hI hn _ a1  M _ rfl) (cV 1 S w_co_yX0_isMember w_in_X0 w_ml_X5_85 w_im_yX0_isMember w_se_yX0_isMember hd_X0_isMember ⟨Nat.le_of_ble_eq_true rfl, Nat.le_of_ble_eq_true rfl⟩) hl.1 rfl rfl (Nat.le_of_ble_eq_true rfl) dX5_proof_5 ⟨Nat.zero_le _, Nat.zero_le _⟩ (fun H locs hP hS => ?_)
  refine lv_if_eq (tgt := 41) S.1 S.2.1 dX5_proof_8 (by decide) (fun h1 => ?_) (fun h1 => ?_)
  · replace hf := ift h1 hf
    refine lv_ldc2 (own := "SurvivorPurse") (v := (-1000000000000000 : Int64)) S.1 S.2.1 S.2.2.2.1 (S.2.2.2.2 _ w_kl_X5_34) dX5_proof_41 ?_
    cases hf
    exact r_l S hr hlk hP hS dX5_proof_44
  · replace hf := iff_ h1 hf
    refine lv_aload_n S.1 S.2.1 dX5_proof_11 rfl (lv_at hl 0 rfl) ?_
    refine x_get (v := .ref (ad 1)) S hK hP w_lay_X5 (ci := 5) rfl 0 (ok_lt (ok_p hn)) (e5 (ok_p hn).1) 0 (by decide) w_fl_X5_10 rfl rfl dX5_proof_12 ?_
    refine x_get (v := .ref (ad 4)) S hK hP w_lay_X0 (ci := 0) rfl 1 (ok_lt (ok_b1 hn)) (e0 (ok_b1 hn).1) 1 (by decide) w_fl_X5_88 rfl rfl dX5_proof_15 ?_
    refine lv_iload_n S.1 S.2.1 dX5_proof_18 rfl (lv_at hl 1 rfl) ?_
    obtain ⟨h2, hf⟩ := gd_some hf
    refine x_aald S hK hP 4 (ok_lt (ok_ma1 hn)) e9_1 2 rfl h2 dX5_proof_19 ?_
    refine x_get (v := .int (bo (gI M (7 + (ix a1)) 5))) S hK hP w_lay_X1 (ci := 1) rfl (7 + (ix a1)) (ok_lt (ok_m1 hn (ib_lt h2))) (e1 (ok_m1 hn (ib_lt h2)).1) 5 (by decide) w_fl_X5_193 rfl rfl dX5_proof_20 ?_
    refine lv_if_ne (tgt := 41) S.1 S.2.1 dX5_proof_23 (by decide) (fun h3 => ?_) (fun h3 => ?_)
    · replace hf := iff_ h3 hf
      refine lv_ldc2 (own := "SurvivorPurse") (v := (-1000000000000000 : Int64)) S.1 S.2.1 S.2.2.2.1 (S.2.2.2.2 _ w_kl_X5_34) dX5_proof_41 ?_
      cases hf
      exact r_l S hr hlk hP hS dX5_proof_44
    · replace hf := ift h3 hf
      refine lv_aload_n S.1 S.2.1 dX5_proof_26 rfl (lv_at hl 0 rfl) ?_
      refine x_get (v := .ref (ad 1)) S hK hP w_lay_X5 (ci := 5) rfl 0 (ok_lt (ok_p hn)) (e5 (ok_p hn).1) 0 (by decide) w_fl_X5_10 rfl rfl dX5_proof_27 ?_
      refine x_get (v := .ref (ad 4)) S hK hP w_lay_X0 (ci := 0) rfl 1 (ok_lt (ok_b1 hn)) (e0 (ok_b1 hn).1) 1 (by decide) w_fl_X5_88 rfl rfl dX5_proof_30 ?_
      refine lv_iload_n S.1 S.2.1 dX5_proof_33 rfl (lv_at hl 1 rfl) ?_
      refine x_aald S hK hP 4 (ok_lt (ok_ma1 hn)) e9_1 2 rfl h2 dX5_proof_34 ?_
      refine x_get (v := .int (bo (gI M (7 + (ix a1)) 4))) S hK hP w_lay_X1 (ci := 1) rfl (7 + (ix a1)) (ok_lt (ok_m1 hn (ib_lt h2))) (e1 (ok_m1 hn (ib_lt h2)).1) 4 (by decide) w_fl_X5_197 rfl rfl dX5_proof_35 ?_
      refine lv_if_eq (tgt := 45) S.1 S.2.1 dX5_proof_38 (by decide) (fun h4 => ?_) (fun h4 => ?_)
      · replace hf := ift h4 hf
        refine lv_aload_n S.1 S.2.1 dX5_proof_45 rfl (lv_at hl 0 rfl) ?_
        refine x_get (v := .ref (ad 1)) S hK hP w_lay_X5 (ci := 5) rfl 0 (ok_lt (ok_p hn)) (e5 (ok_p hn).1) 0 (by decide) w_fl_X5_10 rfl rfl dX5_proof_46 ?_
        refine lv_iload_n S.1 S.2.1 dX5_proof_49 rfl (lv_at hl 1 rfl) ?_
        obtain ⟨x6, M5, gM5, hf⟩ := bn2_some hf
        refine y_Vl (As := [.int a1]) S hK hN hP hS rfl (ok_lt (ok_b1 hn)) (e0 (ok_b1 hn).1) rfl (K_X0_prove l E ad n hI hn _ N a1  M x6 M5 gM5) (cV 1 S w_co_yX0_prove w_in_X0 w_ml_X5_200 w_im_yX0_prove w_se_yX0_prove hd_X0_prove ⟨Nat.le_of_ble_eq_true rfl, Nat.le_of_ble_eq_true rfl⟩) hl.1 rfl rfl (Nat.le_of_ble_eq_true rfl) dX5_proof_50 ⟨Nat.zero_le _, Nat.zero_le _⟩ (fun H locs hP hS => ?_)
        cases hf
        exact r_l S hr hlk hP hS dX5_proof_53
      · replace hf := iff_ h4 hf
        refine lv_ldc2 (own := "SurvivorPurse") (v := (-1000000000000000 : Int64)) S.1 S.2.1 S.2.2.2.1 (S.2.2.2.2 _ w_kl_X5_34) dX5_proof_41 ?_
        cases hf
        exact r_l S hr hlk hP hS dX5_proof_44
theorem hd_X5_told : yX5_told.cls ≠ "java/lang/invoke/MethodHandle" ∧ yX5_told.cls ≠ "java/lang/invoke/VarHandle" ∧ (parseMethodDescriptor yX5_told.desc).map (fun d => d.parameters.length) = some 1 := by decide +kernel
set_option maxHeartbeats 4000000 in
set_option maxRecDepth 100000 in
theorem K_X5_told (l : Launch) (E : EE) (ad : Nat → Nat) (n : Nat) (hI : ad_I ad n) (hn : 117 ≤ n) (sz : Nat) (N : Nat) (a1 : Int32)  (M : MM) (r : Int64) (hf : F_X5_told N a1 M = some r) : CtL l yX5_told cX5_told 2 4 99 E (entC E ad n M) (entC E ad n M) ad n sz [.ref (ad 0), .int a1] (r) := by
  unfold CtL
  refine body_of (by decide) "SurvivorPurse" rfl (Nat.le_of_ble_eq_true rfl) ?_
  intro p e s m below meth c hsz S hr hlk hP hK hN ls hl
  subst hsz
  have hS : va_S (AA ad n s.heap.size) s.heap s.heap [] := va_S.rf
  have hl : lv_has ls 2 [(0, .ref (ad 0)), (1, .int a1)] := hl
  rw [F_X5_told] at hf
  refine lv_iload_n S.1 S.2.1 dX5_told_0 rfl (lv_at hl 1 rfl) ?_
  by_cases h1 : a1 = (0 : Int32)
  · replace hf := ift h1 hf
    refine lv_tableIn (tgt := 60) (off := 59) S.1 S.2.1 dX5_told_1 (by rw [h1]; decide) (by rw [h1]; decide) (by rw [h1]; rfl) (by decide) ?_
    refine lv_aload_n S.1 S.2.1 dX5_told_60 rfl (lv_at hl 0 rfl) ?_
    refine x_get (v := .ref (ad 1)) S hK hP w_lay_X5 (ci := 5) rfl 0 (ok_lt (ok_p hn)) (e5 (ok_p hn).1) 0 (by decide) w_fl_X5_10 rfl rfl dX5_told_61 ?_
    refine x_get (v := .int (gI M 1 7)) S hK hP w_lay_X0 (ci := 0) rfl 1 (ok_lt (ok_b1 hn)) (e0 (ok_b1 hn).1) 7 (by decide) w_fl_X5_75 rfl rfl dX5_told_64 ?_
    refine lv_i2l (v := (gI M 1 7).toInt64) S.1 S.2.1 dX5_told_67 rfl ?_
    cases hf
    exact r_l S hr hlk hP hS dX5_told_68
  · replace hf := iff_ h1 hf
    by_cases h2 : a1 = (1 : Int32)
    · replace hf := ift h2 hf
      refine lv_tableIn (tgt := 69) (off := 68) S.1 S.2.1 dX5_told_1 (by rw [h2]; decide) (by rw [h2]; decide) (by rw [h2]; rfl) (by decide) ?_
      refine lv_aload_n S.1 S.2.1 dX5_told_69 rfl (lv_at hl 0 rfl) ?_
      refine x_get (v := .ref (ad 1)) S hK hP w_lay_X5 (ci := 5) rfl 0 (ok_lt (ok_p hn)) (e5 (ok_p hn).1) 0 (by decide) w_fl_X5_10 rfl rfl dX5_told_70 ?_
      refine x_get (v := .long (gL M 1 10)) S hK hP w_lay_X0 (ci := 0) rfl 1 (ok_lt (ok_b1 hn)) (e0 (ok_b1 hn).1) 10 (by decide) w_fl_X5_245 rfl rfl dX5_told_73 ?_
      cases hf
      exact r_l S hr hlk hP hS dX5_told_76
    · replace hf := iff_ h2 hf
      by_cases h3 : a1 = (2 : Int32)
      · replace hf := ift h3 hf
        refine lv_tableIn (tgt := 77) (off := 76) S.1 S.2.1 dX5_told_1 (by rw [h3]; decide) (by rw [h3]; decide) (by rw [h3]; rfl) (by decide) ?_
        refine lv_aload_n S.1 S.2.1 dX5_told_77 rfl (lv_at hl 0 rfl) ?_
        refine x_get (v := .ref (ad 1)) S hK hP w_lay_X5 (ci := 5) rfl 0 (ok_lt (ok_p hn)) (e5 (ok_p hn).1) 0 (by decide) w_fl_X5_10 rfl rfl dX5_told_78 ?_
        refine x_get (v := .long (gL M 1 11)) S hK hP w_lay_X0 (ci := 0) rfl 1 (ok_lt (ok_b1 hn)) (e0 (ok_b1 hn).1) 11 (by decide) w_fl_X5_248 rfl rfl dX5_told_81 ?_
        cases hf
        exact r_l S hr hlk hP hS dX5_told_84
      · replace hf := iff_ h3 hf
        by_cases h4 : a1 = (3 : Int32)
        · replace hf := ift h4 hf
          refine lv_tableIn (tgt := 85) (off := 84) S.1 S.2.1 dX5_told_1 (by rw [h4]; decide) (by rw [h4]; decide) (by rw [h4]; rfl) (by decide) ?_
          refine lv_aload_n S.1 S.2.1 dX5_told_85 rfl (lv_at hl 0 rfl) ?_
          refine x_get (v := .ref (ad 1)) S hK hP w_lay_X5 (ci := 5) rfl 0 (ok_lt (ok_p hn)) (e5 (ok_p hn).1) 0 (by decide) w_fl_X5_10 rfl rfl dX5_told_86 ?_
          obtain ⟨x5, gx5, hf⟩ := bn1_some hf
          refine y_Vl (As := []) S hK hN hP hS rfl (ok_lt (ok_b1 hn)) (e0 (ok_b1 hn).1) rfl (K_X0_allHeld l E ad n hI hn _ N   M x5 gx5) (cV 0 S w_co_yX0_allHeld w_in_X0 w_ml_X5_251 w_im_yX0_allHeld w_se_yX0_allHeld hd_X0_allHeld ⟨Nat.le_of_ble_eq_true rfl, Nat.le_of_ble_eq_true rfl⟩) hl.1 rfl rfl (Nat.le_of_ble_eq_true rfl) dX5_told_89 ⟨Nat.zero_le _, Nat.zero_le _⟩ (fun H locs hP hS => ?_)
          cases hf
          exact r_l S hr hlk hP hS dX5_told_92
        · replace hf := iff_ h4 hf
          by_cases h6 : a1 = (4 : Int32)
          · replace hf := ift h6 hf
            refine lv_tableIn (tgt := 93) (off := 92) S.1 S.2.1 dX5_told_1 (by rw [h6]; decide) (by rw [h6]; decide) (by rw [h6]; rfl) (by decide) ?_
            refine lv_aload_n S.1 S.2.1 dX5_told_93 rfl (lv_at hl 0 rfl) ?_
            refine x_get (v := .ref (ad 1)) S hK hP w_lay_X5 (ci := 5) rfl 0 (ok_lt (ok_p hn)) (e5 (ok_p hn).1) 0 (by decide) w_fl_X5_10 rfl rfl dX5_told_94 ?_
            obtain ⟨x7, gx7, hf⟩ := bn1_some hf
            refine y_Vl (As := []) S hK hN hP hS rfl (ok_lt (ok_b1 hn)) (e0 (ok_b1 hn).1) rfl (K_X0_allPurses l E ad n hI hn _ N   M x7 gx7) (cV 0 S w_co_yX0_allPurses w_in_X0 w_ml_X5_254 w_im_yX0_allPurses w_se_yX0_allPurses hd_X0_allPurses ⟨Nat.le_of_ble_eq_true rfl, Nat.le_of_ble_eq_true rfl⟩) hl.1 rfl rfl (Nat.le_of_ble_eq_true rfl) dX5_told_97 ⟨Nat.zero_le _, Nat.zero_le _⟩ (fun H locs hP hS => ?_)
            cases hf
            exact r_l S hr hlk hP hS dX5_told_100
          · replace hf := iff_ h6 hf
            by_cases h8 : a1 = (5 : Int32)
            · replace hf := ift h8 hf
              refine lv_tableIn (tgt := 101) (off := 100) S.1 S.2.1 dX5_told_1 (by rw [h8]; decide) (by rw [h8]; decide) (by rw [h8]; rfl) (by decide) ?_
              refine lv_aload_n S.1 S.2.1 dX5_told_101 rfl (lv_at hl 0 rfl) ?_
              refine x_get (v := .ref (ad 1)) S hK hP w_lay_X5 (ci := 5) rfl 0 (ok_lt (ok_p hn)) (e5 (ok_p hn).1) 0 (by decide) w_fl_X5_10 rfl rfl dX5_told_102 ?_
              obtain ⟨x9, gx9, hf⟩ := bn1_some hf
              refine y_Vl (As := []) S hK hN hP hS rfl (ok_lt (ok_b1 hn)) (e0 (ok_b1 hn).1) rfl (K_X0_allStocks l E ad n hI hn _ N   M x9 gx9) (cV 0 S w_co_yX0_allStocks w_in_X0 w_ml_X5_257 w_im_yX0_allStocks w_se_yX0_allStocks hd_X0_allStocks ⟨Nat.le_of_ble_eq_true rfl, Nat.le_of_ble_eq_true rfl⟩) hl.1 rfl rfl (Nat.le_of_ble_eq_true rfl) dX5_told_105 ⟨Nat.zero_le _, Nat.zero_le _⟩ (fun H locs hP hS => ?_)
              cases hf
              exact r_l S hr hlk hP hS dX5_told_108
            · replace hf := iff_ h8 hf
              by_cases h10 : a1 = (6 : Int32)
              · replace hf := ift h10 hf
                refine lv_tableIn (tgt := 109) (off := 108) S.1 S.2.1 dX5_told_1 (by rw [h10]; decide) (by rw [h10]; decide) (by rw [h10]; rfl) (by decide) ?_
                refine lv_aload_n S.1 S.2.1 dX5_told_109 rfl (lv_at hl 0 rfl) ?_
                refine x_get (v := .ref (ad 1)) S hK hP w_lay_X5 (ci := 5) rfl 0 (ok_lt (ok_p hn)) (e5 (ok_p hn).1) 0 (by decide) w_fl_X5_10 rfl rfl dX5_told_110 ?_
                obtain ⟨x11, gx11, hf⟩ := bn1_some hf
                refine y_Vl (As := []) S hK hN hP hS rfl (ok_lt (ok_b1 hn)) (e0 (ok_b1 hn).1) rfl (K_X0_allDebts l E ad n hI hn _ N   M x11 gx11) (cV 0 S w_co_yX0_allDebts w_in_X0 w_ml_X5_260 w_im_yX0_allDebts w_se_yX0_allDebts hd_X0_allDebts ⟨Nat.le_of_ble_eq_true rfl, Nat.le_of_ble_eq_true rfl⟩) hl.1 rfl rfl (Nat.le_of_ble_eq_true rfl) dX5_told_113 ⟨Nat.zero_le _, Nat.zero_le _⟩ (fun H locs hP hS => ?_)
                cases hf
                exact r_l S hr hlk hP hS dX5_told_116
              · replace hf := iff_ h10 hf
                by_cases h12 : a1 = (7 : Int32)
                · replace hf := ift h12 hf
                  refine lv_tableIn (tgt := 117) (off := 116) S.1 S.2.1 dX5_told_1 (by rw [h12]; decide) (by rw [h12]; decide) (by rw [h12]; rfl) (by decide) ?_
                  refine lv_aload_n S.1 S.2.1 dX5_told_117 rfl (lv_at hl 0 rfl) ?_
                  refine x_get (v := .ref (ad 1)) S hK hP w_lay_X5 (ci := 5) rfl 0 (ok_lt (ok_p hn)) (e5 (ok_p hn).1) 0 (by decide) w_fl_X5_10 rfl rfl dX5_told_118 ?_
                  refine x_get (v := .long (gL M 1 12)) S hK hP w_lay_X0 (ci := 0) rfl 1 (ok_lt (ok_b1 hn)) (e0 (ok_b1 hn).1) 12 (by decide) w_fl_X5_263 rfl rfl dX5_told_121 ?_
                  cases hf
                  exact r_l S hr hlk hP hS dX5_told_124
                · replace hf := iff_ h12 hf
                  by_cases h13 : a1 = (8 : Int32)
                  · replace hf := ift h13 hf
                    refine lv_tableIn (tgt := 125) (off := 124) S.1 S.2.1 dX5_told_1 (by rw [h13]; decide) (by rw [h13]; decide) (by rw [h13]; rfl) (by decide) ?_
                    refine lv_aload_n S.1 S.2.1 dX5_told_125 rfl (lv_at hl 0 rfl) ?_
                    refine x_get (v := .ref (ad 1)) S hK hP w_lay_X5 (ci := 5) rfl 0 (ok_lt (ok_p hn)) (e5 (ok_p hn).1) 0 (by decide) w_fl_X5_10 rfl rfl dX5_told_126 ?_
                    refine x_get (v := .int (gI M 1 4)) S hK hP w_lay_X0 (ci := 0) rfl 1 (ok_lt (ok_b1 hn)) (e0 (ok_b1 hn).1) 4 (by decide) w_fl_X5_78 rfl rfl dX5_told_129 ?_
                    refine lv_i2l (v := (gI M 1 4).toInt64) S.1 S.2.1 dX5_told_132 rfl ?_
                    cases hf
                    exact r_l S hr hlk hP hS dX5_told_133
                  · replace hf := iff_ h13 hf
                    by_cases h14 : a1 = (9 : Int32)
                    · replace hf := ift h14 hf
                      refine lv_tableIn (tgt := 134) (off := 133) S.1 S.2.1 dX5_told_1 (by rw [h14]; decide) (by rw [h14]; decide) (by rw [h14]; rfl) (by decide) ?_
                      refine lv_aload_n S.1 S.2.1 dX5_told_134 rfl (lv_at hl 0 rfl) ?_
                      refine x_get (v := .ref (ad 1)) S hK hP w_lay_X5 (ci := 5) rfl 0 (ok_lt (ok_p hn)) (e5 (ok_p hn).1) 0 (by decide) w_fl_X5_10 rfl rfl dX5_told_135 ?_
                      refine x_get (v := .int (gI M 1 5)) S hK hP w_lay_X0 (ci := 0) rfl 1 (ok_lt (ok_b1 hn)) (e0 (ok_b1 hn).1) 5 (by decide) w_fl_X5_101 rfl rfl dX5_told_138 ?_
                      refine lv_i2l (v := (gI M 1 5).toInt64) S.1 S.2.1 dX5_told_141 rfl ?_
                      cases hf
                      exact r_l S hr hlk hP hS dX5_told_142
                    · replace hf := iff_ h14 hf
                      by_cases h15 : a1 = (10 : Int32)
                      · replace hf := ift h15 hf
                        refine lv_tableIn (tgt := 143) (off := 142) S.1 S.2.1 dX5_told_1 (by rw [h15]; decide) (by rw [h15]; decide) (by rw [h15]; rfl) (by decide) ?_
                        refine lv_aload_n S.1 S.2.1 dX5_told_143 rfl (lv_at hl 0 rfl) ?_
                        refine x_get (v := .ref (ad 1)) S hK hP w_lay_X5 (ci := 5) rfl 0 (ok_lt (ok_p hn)) (e5 (ok_p hn).1) 0 (by decide) w_fl_X5_10 rfl rfl dX5_told_144 ?_
                        refine x_get (v := .int (gI M 1 6)) S hK hP w_lay_X0 (ci := 0) rfl 1 (ok_lt (ok_b1 hn)) (e0 (ok_b1 hn).1) 6 (by decide) w_fl_X5_122 rfl rfl dX5_told_147 ?_
                        refine lv_i2l (v := (gI M 1 6).toInt64) S.1 S.2.1 dX5_told_150 rfl ?_
                        cases hf
                        exact r_l S hr hlk hP hS dX5_told_151
                      · replace hf := iff_ h15 hf
                        refine lv_tableOut (tgt := 152) S.1 S.2.1 dX5_told_1 (by have q0 := swn h1 (show ((0 : Int32) : Int32).toInt = 0 from rfl); have q1 := swn h2 (show ((1 : Int32) : Int32).toInt = 1 from rfl); have q2 := swn h3 (show ((2 : Int32) : Int32).toInt = 2 from rfl); have q3 := swn h4 (show ((3 : Int32) : Int32).toInt = 3 from rfl); have q4 := swn h6 (show ((4 : Int32) : Int32).toInt = 4 from rfl); have q5 := swn h8 (show ((5 : Int32) : Int32).toInt = 5 from rfl); have q6 := swn h10 (show ((6 : Int32) : Int32).toInt = 6 from rfl); have q7 := swn h12 (show ((7 : Int32) : Int32).toInt = 7 from rfl); have q8 := swn h13 (show ((8 : Int32) : Int32).toInt = 8 from rfl); have q9 := swn h14 (show ((9 : Int32) : Int32).toInt = 9 from rfl); have q10 := swn h15 (show ((10 : Int32) : Int32).toInt = 10 from rfl); omega) (by decide) ?_
                        refine lv_ldc2 (own := "SurvivorPurse") (v := (-1000000000000000 : Int64)) S.1 S.2.1 S.2.2.2.1 (S.2.2.2.2 _ w_kl_X5_34) dX5_told_152 ?_
                        cases hf
                        exact r_l S hr hlk hP hS dX5_told_155
theorem hd_X0_addShare : yX0_addShare.cls ≠ "java/lang/invoke/MethodHandle" ∧ yX0_addShare.cls ≠ "java/lang/invoke/VarHandle" ∧ (parseMethodDescriptor yX0_addShare.desc).map (fun d => d.parameters.length) = some 5 := by decide +kernel
set_option maxHeartbeats 4000000 in
set_option maxRecDepth 100000 in
theorem K_X0_addShare (l : Launch) (E : EE) (ad : Nat → Nat) (n : Nat) (hI : ad_I ad n) (hn : 117 ≤ n) (sz : Nat) (N : Nat) (a1 : Int32) (a2 : Int32) (a3 : Int32) (a4 : Int32) (a5 : Int32)  (M : MM) (r : Int32) (M' : MM) (hf : F_X0_addShare N a1 a2 a3 a4 a5 M = some (r, M')) : CtI l yX0_addShare cX0_addShare 7 2 45 .int E (entC E ad n M) (entC E ad n M') ad n sz [.ref (ad 1), .int a1, .int a2, .int a3, .int a4, .int a5] (r) := by
  unfold CtI
  refine body_of (by decide) "SurvivorPurse$Book" rfl (Nat.le_of_ble_eq_true rfl) ?_
  intro p e s m below meth c hsz S hr hlk hP hK hN ls hl
  subst hsz
  have hS : va_S (AA ad n s.heap.size) s.heap s.heap [] := va_S.rf
  have hl : lv_has ls 7 [(0, .ref (ad 1)), (1, .int a1), (2, .int a2), (3, .int a3), (4, .int a4), (5, .int a5)] := hl
  rw [F_X0_addShare] at hf
  refine lv_aload_n S.1 S.2.1 dX0_addShare_0 rfl (lv_at hl 0 rfl) ?_
  refine x_get (v := .ref (ad 6)) S hK hP w_lay_X0 (ci := 0) rfl 1 (ok_lt (ok_b1 hn)) (e0 (ok_b1 hn).1) 3 (by decide) w_fl_X0_32 rfl rfl dX0_addShare_1 ?_
  refine lv_aload_n S.1 S.2.1 dX0_addShare_4 rfl (lv_at hl 0 rfl) ?_
  refine x_get (v := .int (gI M 1 6)) S hK hP w_lay_X0 (ci := 0) rfl 1 (ok_lt (ok_b1 hn)) (e0 (ok_b1 hn).1) 6 (by decide) w_fl_X0_53 rfl rfl dX0_addShare_5 ?_
  obtain ⟨h1, hf⟩ := gd_some hf
  refine x_aald S hK hP 6 (ok_lt (ok_sa1 hn)) e11_1 4 rfl h1 dX0_addShare_8 ?_
  refine lv_astore (lv' := [(6, .ref (ad (37 + (ix (gI M 1 6))))), (0, .ref (ad 1)), (1, .int a1), (2, .int a2), (3, .int a3), (4, .int a4), (5, .int a5)]) S.1 S.2.1 dX0_addShare_9 hl (by decide) rfl (fun ls hl => ?_)
  refine lv_aload S.1 S.2.1 dX0_addShare_11 (lv_at hl 0 rfl) ?_
  refine lv_aload_n S.1 S.2.1 dX0_addShare_13 rfl (lv_at hl 1 rfl) ?_
  refine x_get (v := .int (gI M 1 7)) S hK hP w_lay_X0 (ci := 0) rfl 1 (ok_lt (ok_b1 hn)) (e0 (ok_b1 hn).1) 7 (by decide) w_fl_X0_56 rfl rfl dX0_addShare_14 ?_
  obtain ⟨M2, gM2, hf⟩ := bn1_some hf
  refine y_Vv (As := [.int (gI M 1 7)]) S hK hN hP hS rfl (ok_lt (ok_s1 hn (ib_lt h1))) (e3 (ok_s1 hn (ib_lt h1)).1) rfl (K_X3_begin l E ad n hI hn _ N (37 + (ix (gI M 1 6))) (gI M 1 7) (ok_s1 hn (ib_lt h1)) M M2 gM2) (cV 1 S w_co_yX3_begin w_in_X3 w_ml_X0_88 w_im_yX3_begin w_se_yX3_begin hd_X3_begin ⟨Nat.le_of_ble_eq_true rfl, Nat.le_of_ble_eq_true rfl⟩) hl.1 rfl rfl (Nat.le_of_ble_eq_true rfl) dX0_addShare_17 ⟨Nat.zero_le _, Nat.zero_le _⟩ (fun H locs hP hS => ?_)
  refine lv_aload S.1 S.2.1 dX0_addShare_20 (lv_at hl 0 rfl) ?_
  refine lv_iload_n S.1 S.2.1 dX0_addShare_22 rfl (lv_at hl 2 rfl) ?_
  refine x_put S hI hK hP hS w_lay_X3 tyX3 tyX3_ok nmX3 (ci := 3) rfl (37 + (ix (gI M 1 6))) (ok_lt (ok_s1 hn (ib_lt h1))) (e3 (ok_s1 hn (ib_lt h1)).1) 0 (by decide) w_fl_X0_89 rfl rfl rfl rfl (Nat.le_of_ble_eq_true rfl) (entC E ad n (sI M2 (37 + (ix (gI M 1 6))) 0 a1)) (h1_X3_0 (ok_s1 hn (ib_lt h1)).1 ) (fun _ h => entC_sI _ h) dX0_addShare_23 (fun H locs hP hS => ?_)
  obtain ⟨M3, eM3, hf⟩ := bnd_some hf
  rw [← eM3] at hP
  refine lv_aload S.1 S.2.1 dX0_addShare_26 (lv_at hl 0 rfl) ?_
  refine lv_iload_n S.1 S.2.1 dX0_addShare_28 rfl (lv_at hl 3 rfl) ?_
  refine x_put S hI hK hP hS w_lay_X3 tyX3 tyX3_ok nmX3 (ci := 3) rfl (37 + (ix (gI M 1 6))) (ok_lt (ok_s1 hn (ib_lt h1))) (e3 (ok_s1 hn (ib_lt h1)).1) 1 (by decide) w_fl_X0_92 rfl rfl rfl rfl (Nat.le_of_ble_eq_true rfl) (entC E ad n (sI M3 (37 + (ix (gI M 1 6))) 1 a2)) (h1_X3_1 (ok_s1 hn (ib_lt h1)).1 ) (fun _ h => entC_sI _ h) dX0_addShare_29 (fun H locs hP hS => ?_)
  obtain ⟨M4, eM4, hf⟩ := bnd_some hf
  rw [← eM4] at hP
  refine lv_aload S.1 S.2.1 dX0_addShare_32 (lv_at hl 0 rfl) ?_
  refine lv_iload_n S.1 S.2.1 dX0_addShare_34 rfl (lv_at hl 4 rfl) ?_
  refine x_put S hI hK hP hS w_lay_X3 tyX3 tyX3_ok nmX3 (ci := 3) rfl (37 + (ix (gI M 1 6))) (ok_lt (ok_s1 hn (ib_lt h1))) (e3 (ok_s1 hn (ib_lt h1)).1) 2 (by decide) w_fl_X0_95 rfl rfl rfl rfl (Nat.le_of_ble_eq_true rfl) (entC E ad n (sI M4 (37 + (ix (gI M 1 6))) 2 a3)) (h1_X3_2 (ok_s1 hn (ib_lt h1)).1 ) (fun _ h => entC_sI _ h) dX0_addShare_35 (fun H locs hP hS => ?_)
  obtain ⟨M5, eM5, hf⟩ := bnd_some hf
  rw [← eM5] at hP
  refine lv_aload S.1 S.2.1 dX0_addShare_38 (lv_at hl 0 rfl) ?_
  refine lv_iload S.1 S.2.1 dX0_addShare_40 (lv_at hl 5 rfl) ?_
  refine x_put S hI hK hP hS w_lay_X3 tyX3 tyX3_ok nmX3 (ci := 3) rfl (37 + (ix (gI M 1 6))) (ok_lt (ok_s1 hn (ib_lt h1))) (e3 (ok_s1 hn (ib_lt h1)).1) 3 (by decide) w_fl_X0_98 rfl rfl rfl rfl (Nat.le_of_ble_eq_true rfl) (entC E ad n (sI M5 (37 + (ix (gI M 1 6))) 3 a4)) (h1_X3_3 (ok_s1 hn (ib_lt h1)).1 ) (fun _ h => entC_sI _ h) dX0_addShare_42 (fun H locs hP hS => ?_)
  obtain ⟨M6, eM6, hf⟩ := bnd_some hf
  rw [← eM6] at hP
  refine lv_aload S.1 S.2.1 dX0_addShare_45 (lv_at hl 0 rfl) ?_
  refine lv_iload S.1 S.2.1 dX0_addShare_47 (lv_at hl 6 rfl) ?_
  refine x_put S hI hK hP hS w_lay_X3 tyX3 tyX3_ok nmX3 (ci := 3) rfl (37 + (ix (gI M 1 6))) (ok_lt (ok_s1 hn (ib_lt h1))) (e3 (ok_s1 hn (ib_lt h1)).1) 4 (by decide) w_fl_X0_101 rfl rfl rfl rfl (Nat.le_of_ble_eq_true rfl) (entC E ad n (sI M6 (37 + (ix (gI M 1 6))) 4 a5)) (h1_X3_4 (ok_s1 hn (ib_lt h1)).1 ) (fun _ h => entC_sI _ h) dX0_addShare_49 (fun H locs hP hS => ?_)
  obtain ⟨M7, eM7, hf⟩ := bnd_some hf
  rw [← eM7] at hP
  refine lv_aload S.1 S.2.1 dX0_addShare_52 (lv_at hl 0 rfl) ?_
  refine lv_iload S.1 S.2.1 dX0_addShare_54 (lv_at hl 5 rfl) ?_
  refine lv_i2l (v := a4.toInt64) S.1 S.2.1 dX0_addShare_56 rfl ?_
  refine lv_aload_n S.1 S.2.1 dX0_addShare_57 rfl (lv_at hl 1 rfl) ?_
  refine x_get (v := .ref (ad 5)) S hK hP w_lay_X0 (ci := 0) rfl 1 (ok_lt (ok_b1 hn)) (e0 (ok_b1 hn).1) 2 (by decide) w_fl_X0_26 rfl rfl dX0_addShare_58 ?_
  refine lv_iload S.1 S.2.1 dX0_addShare_61 (lv_at hl 6 rfl) ?_
  obtain ⟨h8, hf⟩ := gd_some hf
  refine x_aald S hK hP 5 (ok_lt (ok_ra1 hn)) e10_1 3 rfl h8 dX0_addShare_63 ?_
  refine x_get (v := .int (gI M7 (31 + (ix a5)) 2)) S hK hP w_lay_X2 (ci := 2) rfl (31 + (ix a5)) (ok_lt (ok_r1 hn (ib_lt h8))) (e2 (ok_r1 hn (ib_lt h8)).1) 2 (by decide) w_fl_X0_104 rfl rfl dX0_addShare_64 ?_
  refine lv_i2l (v := (gI M7 (31 + (ix a5)) 2).toInt64) S.1 S.2.1 dX0_addShare_67 rfl ?_
  refine lv_lmul S.1 S.2.1 dX0_addShare_68 ?_
  refine x_put S hI hK hP hS w_lay_X3 tyX3 tyX3_ok nmX3 (ci := 3) rfl (37 + (ix (gI M 1 6))) (ok_lt (ok_s1 hn (ib_lt h1))) (e3 (ok_s1 hn (ib_lt h1)).1) 6 (by decide) w_fl_X0_107 rfl rfl rfl rfl (Nat.le_of_ble_eq_true rfl) (entC E ad n (sL M7 (37 + (ix (gI M 1 6))) 6 (a4.toInt64 * ((gI M7 (31 + (ix a5)) 2).toInt64)))) (h1_X3_6 (ok_s1 hn (ib_lt h1)).1 ) (fun _ h => entC_sL _ h) dX0_addShare_69 (fun H locs hP hS => ?_)
  obtain ⟨M9, eM9, hf⟩ := bnd_some hf
  rw [← eM9] at hP
  refine lv_aload_n S.1 S.2.1 dX0_addShare_72 rfl (lv_at hl 1 rfl) ?_
  refine x_get (v := .ref (ad 5)) S hK hP w_lay_X0 (ci := 0) rfl 1 (ok_lt (ok_b1 hn)) (e0 (ok_b1 hn).1) 2 (by decide) w_fl_X0_26 rfl rfl dX0_addShare_73 ?_
  refine lv_iload S.1 S.2.1 dX0_addShare_76 (lv_at hl 6 rfl) ?_
  refine x_aald S hK hP 5 (ok_lt (ok_ra1 hn)) e10_1 3 rfl h8 dX0_addShare_78 ?_
  refine lv_dup S.1 S.2.1 dX0_addShare_79 rfl ?_
  refine x_get (v := .long (gL M9 (31 + (ix a5)) 3)) S hK hP w_lay_X2 (ci := 2) rfl (31 + (ix a5)) (ok_lt (ok_r1 hn (ib_lt h8))) (e2 (ok_r1 hn (ib_lt h8)).1) 3 (by decide) w_fl_X0_110 rfl rfl dX0_addShare_80 ?_
  refine lv_aload S.1 S.2.1 dX0_addShare_83 (lv_at hl 0 rfl) ?_
  refine x_get (v := .long (gL M9 (37 + (ix (gI M 1 6))) 6)) S hK hP w_lay_X3 (ci := 3) rfl (37 + (ix (gI M 1 6))) (ok_lt (ok_s1 hn (ib_lt h1))) (e3 (ok_s1 hn (ib_lt h1)).1) 6 (by decide) w_fl_X0_107 rfl rfl dX0_addShare_85 ?_
  refine lv_ladd S.1 S.2.1 dX0_addShare_88 ?_
  refine x_put S hI hK hP hS w_lay_X2 tyX2 tyX2_ok nmX2 (ci := 2) rfl (31 + (ix a5)) (ok_lt (ok_r1 hn (ib_lt h8))) (e2 (ok_r1 hn (ib_lt h8)).1) 3 (by decide) w_fl_X0_110 rfl rfl rfl rfl (Nat.le_of_ble_eq_true rfl) (entC E ad n (sL M9 (31 + (ix a5)) 3 ((gL M9 (31 + (ix a5)) 3) + (gL M9 (37 + (ix (gI M 1 6))) 6)))) (h1_X2_3 (ok_r1 hn (ib_lt h8)).1 ) (fun _ h => entC_sL _ h) dX0_addShare_89 (fun H locs hP hS => ?_)
  obtain ⟨M10, eM10, hf⟩ := bnd_some hf
  rw [← eM10] at hP
  refine lv_aload_n S.1 S.2.1 dX0_addShare_92 rfl (lv_at hl 1 rfl) ?_
  refine lv_dup S.1 S.2.1 dX0_addShare_93 rfl ?_
  refine x_get (v := .long (gL M10 1 12)) S hK hP w_lay_X0 (ci := 0) rfl 1 (ok_lt (ok_b1 hn)) (e0 (ok_b1 hn).1) 12 (by decide) w_fl_X0_69 rfl rfl dX0_addShare_94 ?_
  refine lv_aload S.1 S.2.1 dX0_addShare_97 (lv_at hl 0 rfl) ?_
  refine x_get (v := .long (gL M10 (37 + (ix (gI M 1 6))) 6)) S hK hP w_lay_X3 (ci := 3) rfl (37 + (ix (gI M 1 6))) (ok_lt (ok_s1 hn (ib_lt h1))) (e3 (ok_s1 hn (ib_lt h1)).1) 6 (by decide) w_fl_X0_107 rfl rfl dX0_addShare_99 ?_
  refine lv_ladd S.1 S.2.1 dX0_addShare_102 ?_
  refine x_put S hI hK hP hS w_lay_X0 tyX0 tyX0_ok nmX0 (ci := 0) rfl 1 (ok_lt (ok_b1 hn)) (e0 (ok_b1 hn).1) 12 (by decide) w_fl_X0_69 rfl rfl rfl rfl (Nat.le_of_ble_eq_true rfl) (entC E ad n (sL M10 1 12 ((gL M10 1 12) + (gL M10 (37 + (ix (gI M 1 6))) 6)))) (h1_X0_12 (ok_b1 hn).1 ) (fun _ h => entC_sL _ h) dX0_addShare_103 (fun H locs hP hS => ?_)
  obtain ⟨M11, eM11, hf⟩ := bnd_some hf
  rw [← eM11] at hP
  refine lv_aload_n S.1 S.2.1 dX0_addShare_106 rfl (lv_at hl 1 rfl) ?_
  refine lv_dup S.1 S.2.1 dX0_addShare_107 rfl ?_
  refine x_get (v := .int (gI M11 1 6)) S hK hP w_lay_X0 (ci := 0) rfl 1 (ok_lt (ok_b1 hn)) (e0 (ok_b1 hn).1) 6 (by decide) w_fl_X0_53 rfl rfl dX0_addShare_108 ?_
  refine lv_iconst (v := (1 : Int32)) S.1 S.2.1 dX0_addShare_111 (by decide) ?_
  refine lv_iadd S.1 S.2.1 dX0_addShare_112 ?_
  refine x_put S hI hK hP hS w_lay_X0 tyX0 tyX0_ok nmX0 (ci := 0) rfl 1 (ok_lt (ok_b1 hn)) (e0 (ok_b1 hn).1) 6 (by decide) w_fl_X0_53 rfl rfl rfl rfl (Nat.le_of_ble_eq_true rfl) (entC E ad n (sI M11 1 6 ((gI M11 1 6) + (1 : Int32)))) (h1_X0_6 (ok_b1 hn).1 ) (fun _ h => entC_sI _ h) dX0_addShare_113 (fun H locs hP hS => ?_)
  obtain ⟨M12, eM12, hf⟩ := bnd_some hf
  rw [← eM12] at hP
  refine lv_aload_n S.1 S.2.1 dX0_addShare_116 rfl (lv_at hl 1 rfl) ?_
  refine x_get (v := .int (gI M12 1 6)) S hK hP w_lay_X0 (ci := 0) rfl 1 (ok_lt (ok_b1 hn)) (e0 (ok_b1 hn).1) 6 (by decide) w_fl_X0_53 rfl rfl dX0_addShare_117 ?_
  refine lv_iconst (v := (1 : Int32)) S.1 S.2.1 dX0_addShare_120 (by decide) ?_
  refine lv_isub S.1 S.2.1 dX0_addShare_121 ?_
  cases hf
  exact r_i S hr hlk hP hS dX0_addShare_122
theorem hd_X0_addPart : yX0_addPart.cls ≠ "java/lang/invoke/MethodHandle" ∧ yX0_addPart.cls ≠ "java/lang/invoke/VarHandle" ∧ (parseMethodDescriptor yX0_addPart.desc).map (fun d => d.parameters.length) = some 2 := by decide +kernel
set_option maxHeartbeats 4000000 in
set_option maxRecDepth 100000 in
theorem K_X0_addPart (l : Launch) (E : EE) (ad : Nat → Nat) (n : Nat) (hI : ad_I ad n) (hn : 117 ≤ n) (sz : Nat) (N : Nat) (c1 : Nat) (a2 : Int32) (P1 : ok 3 n c1) (M : MM) (r : Int32) (M' : MM) (hf : F_X0_addPart N c1 a2 M = some (r, M')) : CtI l yX0_addPart cX0_addPart 4 2 81 .int E (entC E ad n M) (entC E ad n M') ad n sz [.ref (ad 1), .ref (ad c1), .int a2] (r) := by
  unfold CtI
  refine body_of (by decide) "SurvivorPurse$Book" rfl (Nat.le_of_ble_eq_true rfl) ?_
  intro p e s m below meth c hsz S hr hlk hP hK hN ls hl
  subst hsz
  have hS : va_S (AA ad n s.heap.size) s.heap s.heap [] := va_S.rf
  have hl : lv_has ls 4 [(0, .ref (ad 1)), (1, .ref (ad c1)), (2, .int a2)] := hl
  rw [F_X0_addPart] at hf
  refine lv_aload_n S.1 S.2.1 dX0_addPart_0 rfl (lv_at hl 0 rfl) ?_
  refine x_get (v := .ref (ad 6)) S hK hP w_lay_X0 (ci := 0) rfl 1 (ok_lt (ok_b1 hn)) (e0 (ok_b1 hn).1) 3 (by decide) w_fl_X0_32 rfl rfl dX0_addPart_1 ?_
  refine lv_aload_n S.1 S.2.1 dX0_addPart_4 rfl (lv_at hl 0 rfl) ?_
  refine x_get (v := .int (gI M 1 6)) S hK hP w_lay_X0 (ci := 0) rfl 1 (ok_lt (ok_b1 hn)) (e0 (ok_b1 hn).1) 6 (by decide) w_fl_X0_53 rfl rfl dX0_addPart_5 ?_
  obtain ⟨h1, hf⟩ := gd_some hf
  refine x_aald S hK hP 6 (ok_lt (ok_sa1 hn)) e11_1 4 rfl h1 dX0_addPart_8 ?_
  refine lv_astore_n (lv' := [(3, .ref (ad (37 + (ix (gI M 1 6))))), (0, .ref (ad 1)), (1, .ref (ad c1)), (2, .int a2)]) S.1 S.2.1 dX0_addPart_9 rfl hl (by decide) rfl (fun ls hl => ?_)
  refine lv_aload_n S.1 S.2.1 dX0_addPart_10 rfl (lv_at hl 0 rfl) ?_
  refine lv_aload_n S.1 S.2.1 dX0_addPart_11 rfl (lv_at hl 2 rfl) ?_
  obtain ⟨M2, gM2, hf⟩ := bn1_some hf
  refine y_Vv (As := [.ref (ad c1)]) S hK hN hP hS rfl (ok_lt (ok_s1 hn (ib_lt h1))) (e3 (ok_s1 hn (ib_lt h1)).1) rfl (K_X3_copyFrom l E ad n hI hn _ N (37 + (ix (gI M 1 6))) c1 (ok_s1 hn (ib_lt h1)) P1 M M2 gM2) (cV 1 S w_co_yX3_copyFrom w_in_X3 w_ml_X0_78 w_im_yX3_copyFrom w_se_yX3_copyFrom hd_X3_copyFrom ⟨Nat.le_of_ble_eq_true rfl, Nat.le_of_ble_eq_true rfl⟩) hl.1 rfl rfl (Nat.le_of_ble_eq_true rfl) dX0_addPart_12 ⟨Nat.zero_le _, Nat.zero_le _⟩ (fun H locs hP hS => ?_)
  refine lv_aload_n S.1 S.2.1 dX0_addPart_15 rfl (lv_at hl 0 rfl) ?_
  refine lv_iload_n S.1 S.2.1 dX0_addPart_16 rfl (lv_at hl 3 rfl) ?_
  obtain ⟨M3, gM3, hf⟩ := bn1_some hf
  refine y_Vv (As := [.int a2]) S hK hN hP hS rfl (ok_lt (ok_s1 hn (ib_lt h1))) (e3 (ok_s1 hn (ib_lt h1)).1) rfl (K_X3_shrinkTo l E ad n hI hn _ N (37 + (ix (gI M 1 6))) a2 (ok_s1 hn (ib_lt h1)) M2 M3 gM3) (cV 1 S w_co_yX3_shrinkTo w_in_X3 w_ml_X0_113 w_im_yX3_shrinkTo w_se_yX3_shrinkTo hd_X3_shrinkTo ⟨Nat.le_of_ble_eq_true rfl, Nat.le_of_ble_eq_true rfl⟩) hl.1 rfl rfl (Nat.le_of_ble_eq_true rfl) dX0_addPart_17 ⟨Nat.zero_le _, Nat.zero_le _⟩ (fun H locs hP hS => ?_)
  refine lv_aload_n S.1 S.2.1 dX0_addPart_20 rfl (lv_at hl 2 rfl) ?_
  refine lv_aload_n S.1 S.2.1 dX0_addPart_21 rfl (lv_at hl 0 rfl) ?_
  obtain ⟨M4, gM4, hf⟩ := bn1_some hf
  refine y_Vv (As := [.ref (ad (37 + (ix (gI M 1 6))))]) S hK hN hP hS rfl (ok_lt P1) (e3 P1.1) rfl (K_X3_loseTo l E ad n hI hn _ N c1 (37 + (ix (gI M 1 6))) P1 (ok_s1 hn (ib_lt h1)) M3 M4 gM4) (cV 1 S w_co_yX3_loseTo w_in_X3 w_ml_X0_116 w_im_yX3_loseTo w_se_yX3_loseTo hd_X3_loseTo ⟨Nat.le_of_ble_eq_true rfl, Nat.le_of_ble_eq_true rfl⟩) hl.1 rfl rfl (Nat.le_of_ble_eq_true rfl) dX0_addPart_22 ⟨Nat.zero_le _, Nat.zero_le _⟩ (fun H locs hP hS => ?_)
  refine lv_aload_n S.1 S.2.1 dX0_addPart_25 rfl (lv_at hl 1 rfl) ?_
  refine lv_dup S.1 S.2.1 dX0_addPart_26 rfl ?_
  refine x_get (v := .int (gI M4 1 6)) S hK hP w_lay_X0 (ci := 0) rfl 1 (ok_lt (ok_b1 hn)) (e0 (ok_b1 hn).1) 6 (by decide) w_fl_X0_53 rfl rfl dX0_addPart_27 ?_
  refine lv_iconst (v := (1 : Int32)) S.1 S.2.1 dX0_addPart_30 (by decide) ?_
  refine lv_iadd S.1 S.2.1 dX0_addPart_31 ?_
  refine x_put S hI hK hP hS w_lay_X0 tyX0 tyX0_ok nmX0 (ci := 0) rfl 1 (ok_lt (ok_b1 hn)) (e0 (ok_b1 hn).1) 6 (by decide) w_fl_X0_53 rfl rfl rfl rfl (Nat.le_of_ble_eq_true rfl) (entC E ad n (sI M4 1 6 ((gI M4 1 6) + (1 : Int32)))) (h1_X0_6 (ok_b1 hn).1 ) (fun _ h => entC_sI _ h) dX0_addPart_32 (fun H locs hP hS => ?_)
  obtain ⟨M5, eM5, hf⟩ := bnd_some hf
  rw [← eM5] at hP
  refine lv_aload_n S.1 S.2.1 dX0_addPart_35 rfl (lv_at hl 1 rfl) ?_
  refine x_get (v := .int (gI M5 1 6)) S hK hP w_lay_X0 (ci := 0) rfl 1 (ok_lt (ok_b1 hn)) (e0 (ok_b1 hn).1) 6 (by decide) w_fl_X0_53 rfl rfl dX0_addPart_36 ?_
  refine lv_iconst (v := (1 : Int32)) S.1 S.2.1 dX0_addPart_39 (by decide) ?_
  refine lv_isub S.1 S.2.1 dX0_addPart_40 ?_
  cases hf
  exact r_i S hr hlk hP hS dX0_addPart_41
theorem hd_X0_settle : yX0_settle.cls ≠ "java/lang/invoke/MethodHandle" ∧ yX0_settle.cls ≠ "java/lang/invoke/VarHandle" ∧ (parseMethodDescriptor yX0_settle.desc).map (fun d => d.parameters.length) = some 1 := by decide +kernel
set_option maxHeartbeats 4000000 in
set_option maxRecDepth 100000 in
theorem K_X0_settle (l : Launch) (E : EE) (ad : Nat → Nat) (n : Nat) (hI : ad_I ad n) (hn : 117 ≤ n) (sz : Nat) (N : Nat) (c1 : Nat) (P1 : ok 3 n c1) (M : MM) (r : Int64) (M' : MM) (hf : F_X0_settle N c1 M = some (r, M')) : CtL l yX0_settle cX0_settle 5 5 122 E (entC E ad n M) (entC E ad n M') ad n sz [.ref (ad 1), .ref (ad c1)] (r) := by
  unfold CtL
  refine body_of (by decide) "SurvivorPurse$Book" rfl (Nat.le_of_ble_eq_true rfl) ?_
  intro p e s m below meth c hsz S hr hlk hP hK hN ls hl
  subst hsz
  have hS : va_S (AA ad n s.heap.size) s.heap s.heap [] := va_S.rf
  have hl : lv_has ls 5 [(0, .ref (ad 1)), (1, .ref (ad c1))] := hl
  rw [F_X0_settle] at hf
  refine lv_aload_n S.1 S.2.1 dX0_settle_0 rfl (lv_at hl 0 rfl) ?_
  refine lv_aload_n S.1 S.2.1 dX0_settle_1 rfl (lv_at hl 1 rfl) ?_
  obtain ⟨x1, gx1, hf⟩ := bn1_some hf
  refine y_Vi (As := [.ref (ad c1)]) S hK hN hP hS rfl (ok_lt (ok_b1 hn)) (e0 (ok_b1 hn).1) rfl (K_X0_endOf l E ad n hI hn _ N c1 P1 M x1 gx1) (cV 1 S w_co_yX0_endOf w_in_X0 w_ml_X0_215 w_im_yX0_endOf w_se_yX0_endOf hd_X0_endOf ⟨Nat.le_of_ble_eq_true rfl, Nat.le_of_ble_eq_true rfl⟩) hl.1 rfl rfl (Nat.le_of_ble_eq_true rfl) dX0_settle_2 ⟨Nat.zero_le _, Nat.zero_le _⟩ (fun H locs hP hS => ?_)
  refine lv_istore_n (lv' := [(2, .int x1), (0, .ref (ad 1)), (1, .ref (ad c1))]) S.1 S.2.1 dX0_settle_5 rfl hl (by decide) rfl (fun ls hl => ?_)
  refine lv_aload_n S.1 S.2.1 dX0_settle_6 rfl (lv_at hl 1 rfl) ?_
  refine lv_dup S.1 S.2.1 dX0_settle_7 rfl ?_
  refine x_get (v := .long (gL M 1 10)) S hK hP w_lay_X0 (ci := 0) rfl 1 (ok_lt (ok_b1 hn)) (e0 (ok_b1 hn).1) 10 (by decide) w_fl_X0_62 rfl rfl dX0_settle_8 ?_
  refine lv_aload_n S.1 S.2.1 dX0_settle_11 rfl (lv_at hl 2 rfl) ?_
  refine lv_iload_n S.1 S.2.1 dX0_settle_12 rfl (lv_at hl 0 rfl) ?_
  refine lv_aload_n S.1 S.2.1 dX0_settle_13 rfl (lv_at hl 1 rfl) ?_
  refine x_get (v := .int (gI M 1 7)) S hK hP w_lay_X0 (ci := 0) rfl 1 (ok_lt (ok_b1 hn)) (e0 (ok_b1 hn).1) 7 (by decide) w_fl_X0_56 rfl rfl dX0_settle_14 ?_
  obtain ⟨x3, M2, gM2, hf⟩ := bn2_some hf
  refine y_Vl (As := [.int x1, .int (gI M 1 7)]) S hK hN hP hS rfl (ok_lt P1) (e3 P1.1) rfl (K_X3_forgetHeldAbove l E ad n hI hn _ N c1 x1 (gI M 1 7) P1 M x3 M2 gM2) (cV 2 S w_co_yX3_forgetHeldAbove w_in_X3 w_ml_X0_218 w_im_yX3_forgetHeldAbove w_se_yX3_forgetHeldAbove hd_X3_forgetHeldAbove ⟨Nat.le_of_ble_eq_true rfl, Nat.le_of_ble_eq_true rfl⟩) hl.1 rfl rfl (Nat.le_of_ble_eq_true rfl) dX0_settle_17 ⟨Nat.zero_le _, Nat.zero_le _⟩ (fun H locs hP hS => ?_)
  refine lv_ladd S.1 S.2.1 dX0_settle_20 ?_
  refine x_put S hI hK hP hS w_lay_X0 tyX0 tyX0_ok nmX0 (ci := 0) rfl 1 (ok_lt (ok_b1 hn)) (e0 (ok_b1 hn).1) 10 (by decide) w_fl_X0_62 rfl rfl rfl rfl (Nat.le_of_ble_eq_true rfl) (entC E ad n (sL M2 1 10 ((gL M 1 10) + x3))) (h1_X0_10 (ok_b1 hn).1 ) (fun _ h => entC_sL _ h) dX0_settle_21 (fun H locs hP hS => ?_)
  obtain ⟨M4, eM4, hf⟩ := bnd_some hf
  rw [← eM4] at hP
  refine lv_aload_n S.1 S.2.1 dX0_settle_24 rfl (lv_at hl 1 rfl) ?_
  refine lv_aload_n S.1 S.2.1 dX0_settle_25 rfl (lv_at hl 2 rfl) ?_
  obtain ⟨x6, M5, gM5, hf⟩ := bn2_some hf
  refine y_Vl (As := [.ref (ad c1)]) S hK hN hP hS rfl (ok_lt (ok_b1 hn)) (e0 (ok_b1 hn).1) rfl (K_X0_payHeld l E ad n hI hn _ N c1 P1 M4 x6 M5 gM5) (cV 1 S w_co_yX0_payHeld w_in_X0 w_ml_X0_208 w_im_yX0_payHeld w_se_yX0_payHeld hd_X0_payHeld ⟨Nat.le_of_ble_eq_true rfl, Nat.le_of_ble_eq_true rfl⟩) hl.1 rfl rfl (Nat.le_of_ble_eq_true rfl) dX0_settle_26 ⟨Nat.zero_le _, Nat.zero_le _⟩ (fun H locs hP hS => ?_)
  refine lv_pop2_2 S.1 S.2.1 dX0_settle_29 rfl ?_
  refine lv_aload_n S.1 S.2.1 dX0_settle_30 rfl (lv_at hl 2 rfl) ?_
  refine lv_iload_n S.1 S.2.1 dX0_settle_31 rfl (lv_at hl 0 rfl) ?_
  refine lv_iconst (v := (1 : Int32)) S.1 S.2.1 dX0_settle_32 (by decide) ?_
  refine lv_iadd S.1 S.2.1 dX0_settle_33 ?_
  refine lv_aload_n S.1 S.2.1 dX0_settle_34 rfl (lv_at hl 2 rfl) ?_
  refine x_get (v := .int (gI M5 c1 9)) S hK hP w_lay_X3 (ci := 3) rfl c1 (ok_lt P1) (e3 P1.1) 9 (by decide) w_fl_X0_155 rfl rfl dX0_settle_35 ?_
  refine x_mx S hl.1 w_ml_X0_130 (Nat.le_of_ble_eq_true rfl) (Nat.le_of_ble_eq_true rfl) (Nat.zero_le _) (Nat.zero_le _) dX0_settle_38 ?_
  refine lv_aload_n S.1 S.2.1 dX0_settle_41 rfl (lv_at hl 1 rfl) ?_
  refine x_get (v := .int (gI M5 1 7)) S hK hP w_lay_X0 (ci := 0) rfl 1 (ok_lt (ok_b1 hn)) (e0 (ok_b1 hn).1) 7 (by decide) w_fl_X0_56 rfl rfl dX0_settle_42 ?_
  obtain ⟨x7, gx7, hf⟩ := bn1_some hf
  refine y_Vl (As := [.int (mxI (x1 + (1 : Int32)) (gI M5 c1 9)), .int (gI M5 1 7)]) S hK hN hP hS rfl (ok_lt P1) (e3 P1.1) rfl (K_X3_drewIn l E ad n hI hn _ N c1 (mxI (x1 + (1 : Int32)) (gI M5 c1 9)) (gI M5 1 7) P1 M5 x7 gx7) (cV 2 S w_co_yX3_drewIn w_in_X3 w_ml_X0_222 w_im_yX3_drewIn w_se_yX3_drewIn hd_X3_drewIn ⟨Nat.le_of_ble_eq_true rfl, Nat.le_of_ble_eq_true rfl⟩) hl.1 rfl rfl (Nat.le_of_ble_eq_true rfl) dX0_settle_45 ⟨Nat.zero_le _, Nat.zero_le _⟩ (fun H locs hP hS => ?_)
  refine lv_lstore_n (lv' := [(3, .long x7), (2, .int x1), (0, .ref (ad 1)), (1, .ref (ad c1))]) S.1 S.2.1 dX0_settle_48 rfl hl (by decide) rfl (fun ls hl => ?_)
  refine lv_aload_n S.1 S.2.1 dX0_settle_49 rfl (lv_at hl 2 rfl) ?_
  refine x_get (v := .ref (ad 4)) S hK hP w_lay_X0 (ci := 0) rfl 1 (ok_lt (ok_b1 hn)) (e0 (ok_b1 hn).1) 1 (by decide) w_fl_X0_20 rfl rfl dX0_settle_50 ?_
  refine lv_aload_n S.1 S.2.1 dX0_settle_53 rfl (lv_at hl 3 rfl) ?_
  refine x_get (v := .int (gI M5 c1 0)) S hK hP w_lay_X3 (ci := 3) rfl c1 (ok_lt P1) (e3 P1.1) 0 (by decide) w_fl_X0_89 rfl rfl dX0_settle_54 ?_
  obtain ⟨h8, hf⟩ := gd_some hf
  refine x_aald S hK hP 4 (ok_lt (ok_ma1 hn)) e9_1 2 rfl h8 dX0_settle_57 ?_
  refine lv_dup S.1 S.2.1 dX0_settle_58 rfl ?_
  refine x_get (v := .long (gL M5 (7 + (ix (gI M5 c1 0))) 2)) S hK hP w_lay_X1 (ci := 1) rfl (7 + (ix (gI M5 c1 0))) (ok_lt (ok_m1 hn (ib_lt h8))) (e1 (ok_m1 hn (ib_lt h8)).1) 2 (by decide) w_fl_X0_178 rfl rfl dX0_settle_59 ?_
  refine lv_lload_n S.1 S.2.1 dX0_settle_62 rfl (lv_at hl 0 rfl) ?_
  refine lv_ladd S.1 S.2.1 dX0_settle_63 ?_
  refine x_put S hI hK hP hS w_lay_X1 tyX1 tyX1_ok nmX1 (ci := 1) rfl (7 + (ix (gI M5 c1 0))) (ok_lt (ok_m1 hn (ib_lt h8))) (e1 (ok_m1 hn (ib_lt h8)).1) 2 (by decide) w_fl_X0_178 rfl rfl rfl rfl (Nat.le_of_ble_eq_true rfl) (entC E ad n (sL M5 (7 + (ix (gI M5 c1 0))) 2 ((gL M5 (7 + (ix (gI M5 c1 0))) 2) + x7))) (h1_X1_2 (ok_m1 hn (ib_lt h8)).1 ) (fun _ h => entC_sL _ h) dX0_settle_64 (fun H locs hP hS => ?_)
  obtain ⟨M9, eM9, hf⟩ := bnd_some hf
  rw [← eM9] at hP
  refine lv_lload_n S.1 S.2.1 dX0_settle_67 rfl (lv_at hl 0 rfl) ?_
  cases hf
  exact r_l S hr hlk hP hS dX0_settle_68

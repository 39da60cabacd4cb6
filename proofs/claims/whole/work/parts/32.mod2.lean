def F_X6_pledge (N : Nat) (a1 : Int32) (a2 : Int32) (a3 : Int32) (M : MM) : Option (Int64 × MM) :=
  if bI (F_X6_isShare a1 M) = (0 : Int32) then
    some ((-1000000000000000 : Int64), M)
  else
    if bI (F_X6_isMember a2 M) = (0 : Int32) then
      some ((-1000000000000000 : Int64), M)
    else
      if bI (F_X6_in a3.toInt64 (0 : Int64) (1000000000 : Int64)) = (0 : Int32) then
        some ((-1000000000000000 : Int64), M)
      else
        gd (ib (F_X6_part a1 (12 : Int32)) 5672) (
        bnd (gL M 1 (ix (F_X6_part a1 (12 : Int32)))) (fun x5 =>
        gd (ib (F_X6_part a1 (11 : Int32)) 5672) (
        bnd (sL M 1 (ix (F_X6_part a1 (11 : Int32))) a2.toInt64) (fun M7 =>
        bnd (sL M7 1 (ix (F_X6_part a1 (12 : Int32))) a3.toInt64) (fun M8 =>
        some (x5, M8)
        )))))
def F_X6_hasLife (N : Nat) (a1 : Int32) (a2 : Int32) (M : MM) : Option Bool :=
  gd (ib (F_X6_part a1 (1 : Int32)) 5672) (
  if gL M 1 (ix (F_X6_part a1 (1 : Int32))) = a2.toInt64 then
    some true
  else
    gd (ib (F_X6_part a1 (2 : Int32)) 5672) (
    if gL M 1 (ix (F_X6_part a1 (2 : Int32))) = a2.toInt64 then
      some true
    else
      some false
    )
  )
def F_X6_areDead (N : Nat) (a1 : Int32) (M : MM) : Option Bool :=
  gd (ib (F_X6_part a1 (2 : Int32)) 5672) (
  bnd (gL M 1 (ix (F_X6_part a1 (2 : Int32)))) (fun x2 =>
  gd (ib (F_X6_part a1 (1 : Int32)) 5672) (
  bn1 (F_X6_isDead N (gL M 1 (ix (F_X6_part a1 (1 : Int32)))) M) (fun x4 =>
  if bI x4 = (0 : Int32) then
    some false
  else
    if x2 < (0 : Int64) then
      some true
    else
      bn1 (F_X6_isDead N x2 M) (fun x7 =>
      if bI x7 = (0 : Int32) then
        some false
      else
        some true
      )
  ))))
def F_X6_isSure (N : Nat) (a1 : Int32) (a2 : Int64) (M : MM) : Option Bool :=
  gd (ib (F_X6_part a1 (5 : Int32)) 5672) (
  if gL M 1 (ix (F_X6_part a1 (5 : Int32))) ≤ (1 : Int64) then
    some false
  else
    gd (ib (F_X6_part a1 (8 : Int32)) 5672) (
    gd (ib (F_X6_part a1 (9 : Int32)) 5672) (
    if (gL M 1 (ix (F_X6_part a1 (8 : Int32)))) + (gL M 1 (ix (F_X6_part a1 (9 : Int32)))) ≤ a2 then
      some false
    else
      some true
    ))
  )
def F_X6_stands_4 (N : Nat) (a1 : Int32) : Nat → Int32 → Int32 → MM → Option Int32
  | 0, _, _, _ => none
  | fu + 1, v2, v3, M =>
    if gL M 1 5668 ≤ v3.toInt64 then
      if v2 = (0 : Int32) then
        bn1 (F_X6_isSure N a1 (gL M 1 5663) M) (fun x3 =>
        if bI x3 = (0 : Int32) then
          bn1 (F_X6_areDead N a1 M) (fun x5 =>
          if bI x5 = (0 : Int32) then
            gd (ib (F_X6_part a1 (10 : Int32)) 5672) (
            if gL M 1 5666 ≤ gL M 1 (ix (F_X6_part a1 (10 : Int32))) then
              some (2 : Int32)
            else
              some (1 : Int32)
            )
          else
            some (3 : Int32)
          )
        else
          some (0 : Int32)
        )
      else
        some (0 : Int32)
    else
      if v2 = (0 : Int32) then
        bn1 (F_X6_hasLife N a1 v3 M) (fun x10 =>
        if bI x10 = (0 : Int32) then
          F_X6_stands_4 N a1 fu (0 : Int32) (v3 + (1 : Int32)) M
        else
          gd (ib (F_X6_cellOf v3 (4 : Int32)) 5672) (
          if gL M 1 (ix (F_X6_cellOf v3 (4 : Int32))) = (1 : Int64) then
            F_X6_stands_4 N a1 fu (1 : Int32) (v3 + (1 : Int32)) M
          else
            F_X6_stands_4 N a1 fu (0 : Int32) (v3 + (1 : Int32)) M
          )
        )
      else
        F_X6_stands_4 N a1 fu (1 : Int32) (v3 + (1 : Int32)) M
def F_X6_stands (N : Nat) (a1 : Int32) (M : MM) : Option Int32 :=
  F_X6_stands_4 N a1 N (0 : Int32) (0 : Int32) M
def F_X6_heldBy_5 (N : Nat) (a1 : Int32) : Nat → Int64 → Int32 → MM → Option Int64
  | 0, _, _, _ => none
  | fu + 1, v2, v4, M =>
    if (60 : Int32) ≤ v4 then
      some v2
    else
      gd (ib (((3263 : Int32) + ((60 : Int32) * a1)) + v4) 5672) (
      bnd (v2 + (gL M 1 (ix (((3263 : Int32) + ((60 : Int32) * a1)) + v4)))) (fun x3 =>
      F_X6_heldBy_5 N a1 fu x3 (v4 + (1 : Int32)) M
      ))
def F_X6_heldBy (N : Nat) (a1 : Int32) (M : MM) : Option Int64 :=
  F_X6_heldBy_5 N a1 N (0 : Int64) (0 : Int32) M
def F_X6_share (N : Nat) (a1 : Int32) (a2 : Int32) (M : MM) : Option Int64 :=
  if bI (F_X6_isShare a1 M) = (0 : Int32) then
    some (-1000000000000000 : Int64)
  else
    if bI (F_X6_in a2.toInt64 (0 : Int64) (12 : Int64)) = (0 : Int32) then
      some (-1000000000000000 : Int64)
    else
      if a2 = (8 : Int32) then
        bn1 (F_X6_heldBy N a1 M) (fun x4 =>
        some x4
        )
      else
        if a2 = (9 : Int32) then
          gd (ib (F_X6_part a1 (8 : Int32)) 5672) (
          some (gL M 1 (ix (F_X6_part a1 (8 : Int32))))
          )
        else
          if a2 = (10 : Int32) then
            gd (ib (F_X6_part a1 (10 : Int32)) 5672) (
            some (gL M 1 (ix (F_X6_part a1 (10 : Int32))))
            )
          else
            if a2 = (11 : Int32) then
              bn1 (F_X6_stands N a1 M) (fun x10 =>
              some x10.toInt64
              )
            else
              if a2 = (12 : Int32) then
                gd (ib (F_X6_part a1 (12 : Int32)) 5672) (
                some (gL M 1 (ix (F_X6_part a1 (12 : Int32))))
                )
              else
                gd (ib (F_X6_part a1 a2) 5672) (
                some (gL M 1 (ix (F_X6_part a1 a2)))
                )
def F_X6_drew (N : Nat) (a1 : Int32) (a2 : Int32) (M : MM) : Option Int64 :=
  if bI (F_X6_isShare a1 M) = (0 : Int32) then
    some (-1000000000000000 : Int64)
  else
    if bI (F_X6_in a2.toInt64 (0 : Int64) ((gL M 1 5663) - (1 : Int64))) = (0 : Int32) then
      some (-1000000000000000 : Int64)
    else
      gd (ib (((863 : Int32) + ((60 : Int32) * a1)) + a2) 5672) (
      some (gL M 1 (ix (((863 : Int32) + ((60 : Int32) * a1)) + a2)))
      )
def F_X6_pays (N : Nat) (a1 : Int32) (a2 : Int64) (M : MM) : Option MM :=
  bnd ((a2 * (gL M 1 5667)) / (1000 : Int64)) (fun x1 =>
  bnd (sL M 1 5665 ((gL M 1 5665) + x1)) (fun M2 =>
  bnd (a2 - x1) (fun x3 =>
  gd (ib (F_X6_part a1 (0 : Int32)) 5672) (
  bnd (F_X6_cellOf ((gL M2 1 (ix (F_X6_part a1 (0 : Int32)))).toInt32) (2 : Int32)) (fun x5 =>
  gd (ib x5 5672) (
  if x3 ≤ gL M2 1 (ix x5) then
    bnd (sL M2 1 (ix x5) ((gL M2 1 (ix x5)) - x3)) (fun M8 =>
    bnd (sL M8 1 5664 ((gL M8 1 5664) + x3)) (fun M9 =>
    bnd (x3 - x3) (fun x10 =>
    gd (ib (F_X6_part a1 (12 : Int32)) 5672) (
    if x10 ≤ gL M9 1 (ix (F_X6_part a1 (12 : Int32))) then
      bnd (sL M9 1 (ix (F_X6_part a1 (12 : Int32))) ((gL M9 1 (ix (F_X6_part a1 (12 : Int32)))) - x10)) (fun M13 =>
      gd (ib (F_X6_part a1 (11 : Int32)) 5672) (
      gd (ib (F_X6_cellOf ((gL M13 1 (ix (F_X6_part a1 (11 : Int32)))).toInt32) (1 : Int32)) 5672) (
      bnd (sL M13 1 (ix (F_X6_cellOf ((gL M13 1 (ix (F_X6_part a1 (11 : Int32)))).toInt32) (1 : Int32))) ((gL M13 1 (ix (F_X6_cellOf ((gL M13 1 (ix (F_X6_part a1 (11 : Int32)))).toInt32) (1 : Int32)))) + x10)) (fun M16 =>
      bnd (x10 - x10) (fun x17 =>
      gd (ib (F_X6_cellOf ((gL M16 1 (ix (F_X6_part a1 (0 : Int32)))).toInt32) (1 : Int32)) 5672) (
      bnd (sL M16 1 (ix (F_X6_cellOf ((gL M16 1 (ix (F_X6_part a1 (0 : Int32)))).toInt32) (1 : Int32))) ((gL M16 1 (ix (F_X6_cellOf ((gL M16 1 (ix (F_X6_part a1 (0 : Int32)))).toInt32) (1 : Int32)))) + x17)) (fun M19 =>
      gd (ib (F_X6_part a1 (7 : Int32)) 5672) (
      bnd (sL M19 1 (ix (F_X6_part a1 (7 : Int32))) ((gL M19 1 (ix (F_X6_part a1 (7 : Int32)))) + a2)) (fun M21 =>
      some M21
      )))))))))
    else
      bnd (gL M9 1 (ix (F_X6_part a1 (12 : Int32)))) (fun x22 =>
      bnd (sL M9 1 (ix (F_X6_part a1 (12 : Int32))) ((gL M9 1 (ix (F_X6_part a1 (12 : Int32)))) - x22)) (fun M23 =>
      gd (ib (F_X6_part a1 (11 : Int32)) 5672) (
      gd (ib (F_X6_cellOf ((gL M23 1 (ix (F_X6_part a1 (11 : Int32)))).toInt32) (1 : Int32)) 5672) (
      bnd (sL M23 1 (ix (F_X6_cellOf ((gL M23 1 (ix (F_X6_part a1 (11 : Int32)))).toInt32) (1 : Int32))) ((gL M23 1 (ix (F_X6_cellOf ((gL M23 1 (ix (F_X6_part a1 (11 : Int32)))).toInt32) (1 : Int32)))) + x22)) (fun M26 =>
      bnd (x10 - x22) (fun x27 =>
      gd (ib (F_X6_cellOf ((gL M26 1 (ix (F_X6_part a1 (0 : Int32)))).toInt32) (1 : Int32)) 5672) (
      bnd (sL M26 1 (ix (F_X6_cellOf ((gL M26 1 (ix (F_X6_part a1 (0 : Int32)))).toInt32) (1 : Int32))) ((gL M26 1 (ix (F_X6_cellOf ((gL M26 1 (ix (F_X6_part a1 (0 : Int32)))).toInt32) (1 : Int32)))) + x27)) (fun M29 =>
      gd (ib (F_X6_part a1 (7 : Int32)) 5672) (
      bnd (sL M29 1 (ix (F_X6_part a1 (7 : Int32))) ((gL M29 1 (ix (F_X6_part a1 (7 : Int32)))) + a2)) (fun M31 =>
      some M31
      ))))))))))
    ))))
  else
    bnd (gL M2 1 (ix x5)) (fun x32 =>
    bnd (sL M2 1 (ix x5) ((gL M2 1 (ix x5)) - x32)) (fun M33 =>
    bnd (sL M33 1 5664 ((gL M33 1 5664) + x32)) (fun M34 =>
    bnd (x3 - x32) (fun x35 =>
    gd (ib (F_X6_part a1 (12 : Int32)) 5672) (
    if x35 ≤ gL M34 1 (ix (F_X6_part a1 (12 : Int32))) then
      bnd (sL M34 1 (ix (F_X6_part a1 (12 : Int32))) ((gL M34 1 (ix (F_X6_part a1 (12 : Int32)))) - x35)) (fun M38 =>
      gd (ib (F_X6_part a1 (11 : Int32)) 5672) (
      gd (ib (F_X6_cellOf ((gL M38 1 (ix (F_X6_part a1 (11 : Int32)))).toInt32) (1 : Int32)) 5672) (
      bnd (sL M38 1 (ix (F_X6_cellOf ((gL M38 1 (ix (F_X6_part a1 (11 : Int32)))).toInt32) (1 : Int32))) ((gL M38 1 (ix (F_X6_cellOf ((gL M38 1 (ix (F_X6_part a1 (11 : Int32)))).toInt32) (1 : Int32)))) + x35)) (fun M41 =>
      bnd (x35 - x35) (fun x42 =>
      gd (ib (F_X6_cellOf ((gL M41 1 (ix (F_X6_part a1 (0 : Int32)))).toInt32) (1 : Int32)) 5672) (
      bnd (sL M41 1 (ix (F_X6_cellOf ((gL M41 1 (ix (F_X6_part a1 (0 : Int32)))).toInt32) (1 : Int32))) ((gL M41 1 (ix (F_X6_cellOf ((gL M41 1 (ix (F_X6_part a1 (0 : Int32)))).toInt32) (1 : Int32)))) + x42)) (fun M44 =>
      gd (ib (F_X6_part a1 (7 : Int32)) 5672) (
      bnd (sL M44 1 (ix (F_X6_part a1 (7 : Int32))) ((gL M44 1 (ix (F_X6_part a1 (7 : Int32)))) + a2)) (fun M46 =>
      some M46
      )))))))))
    else
      bnd (gL M34 1 (ix (F_X6_part a1 (12 : Int32)))) (fun x47 =>
      bnd (sL M34 1 (ix (F_X6_part a1 (12 : Int32))) ((gL M34 1 (ix (F_X6_part a1 (12 : Int32)))) - x47)) (fun M48 =>
      gd (ib (F_X6_part a1 (11 : Int32)) 5672) (
      gd (ib (F_X6_cellOf ((gL M48 1 (ix (F_X6_part a1 (11 : Int32)))).toInt32) (1 : Int32)) 5672) (
      bnd (sL M48 1 (ix (F_X6_cellOf ((gL M48 1 (ix (F_X6_part a1 (11 : Int32)))).toInt32) (1 : Int32))) ((gL M48 1 (ix (F_X6_cellOf ((gL M48 1 (ix (F_X6_part a1 (11 : Int32)))).toInt32) (1 : Int32)))) + x47)) (fun M51 =>
      bnd (x35 - x47) (fun x52 =>
      gd (ib (F_X6_cellOf ((gL M51 1 (ix (F_X6_part a1 (0 : Int32)))).toInt32) (1 : Int32)) 5672) (
      bnd (sL M51 1 (ix (F_X6_cellOf ((gL M51 1 (ix (F_X6_part a1 (0 : Int32)))).toInt32) (1 : Int32))) ((gL M51 1 (ix (F_X6_cellOf ((gL M51 1 (ix (F_X6_part a1 (0 : Int32)))).toInt32) (1 : Int32)))) + x52)) (fun M54 =>
      gd (ib (F_X6_part a1 (7 : Int32)) 5672) (
      bnd (sL M54 1 (ix (F_X6_part a1 (7 : Int32))) ((gL M54 1 (ix (F_X6_part a1 (7 : Int32)))) + a2)) (fun M56 =>
      some M56
      ))))))))))
    )))))
  ))))))
def F_X6_proof_91 (N : Nat) (a1 : Int32) : Nat → Int64 → Int32 → Int64 → Int32 → MM → Option MM
  | 0, _, _, _, _, _ => none
  | fu + 1, v2, v4, v5, v7, M =>
    if (60 : Int32) ≤ v7 then
      some M
    else
      gd (ib (((3263 : Int32) + ((60 : Int32) * v4)) + v7) 5672) (
      bnd (sL M 1 (ix (((3263 : Int32) + ((60 : Int32) * v4)) + v7)) (0 : Int64)) (fun M18 =>
      F_X6_proof_91 N a1 fu v2 v4 v5 (v7 + (1 : Int32)) M18
      ))
def F_X6_proof_52 (N : Nat) (a1 : Int32) : Nat → Int64 → Int32 → MM → Option (Int64 × MM)
  | 0, _, _, _ => none
  | fu + 1, v2, v4, M =>
    if gL M 1 5670 ≤ v4.toInt64 then
      some (v2, M)
    else
      bn1 (F_X6_hasLife N v4 a1 M) (fun x8 =>
      if bI x8 = (0 : Int32) then
        F_X6_proof_52 N a1 fu v2 (v4 + (1 : Int32)) M
      else
        bn1 (F_X6_heldBy N v4 M) (fun x10 =>
          bn1 (F_X6_proof_91 N a1 N v2 v4 x10 (0 : Int32) M) (fun M11 =>
            bn1 (F_X6_pays N v4 x10 M11) (fun M12 =>
            gd (ib (F_X6_part v4 (10 : Int32)) 5672) (
            bnd (sL M12 1 (ix (F_X6_part v4 (10 : Int32))) (0 : Int64)) (fun M14 =>
            bnd (v2 + x10) (fun x15 =>
            F_X6_proof_52 N a1 fu x15 (v4 + (1 : Int32)) M14
            ))))
          )
        )
      )
def F_X6_proof (N : Nat) (a1 : Int32) (M : MM) : Option (Int64 × MM) :=
  if bI (F_X6_isMember a1 M) = (0 : Int32) then
    some ((-1000000000000000 : Int64), M)
  else
    bn1 (F_X6_isDead N a1.toInt64 M) (fun x2 =>
    if bI x2 = (0 : Int32) then
      gd (ib (F_X6_cellOf a1 (4 : Int32)) 5672) (
      if gL M 1 (ix (F_X6_cellOf a1 (4 : Int32))) = (1 : Int64) then
        some ((-1000000000000000 : Int64), M)
      else
        bnd (sL M 1 (ix (F_X6_cellOf a1 (4 : Int32))) (1 : Int64)) (fun M6 =>
        F_X6_proof_52 N a1 N (0 : Int64) (0 : Int32) M6
        )
      )
    else
      some ((-1000000000000000 : Int64), M)
    )
theorem hd_X6_pledge : yX6_pledge.cls ≠ "java/lang/invoke/MethodHandle" ∧ yX6_pledge.cls ≠ "java/lang/invoke/VarHandle" ∧ (parseMethodDescriptor yX6_pledge.desc).map (fun d => d.parameters.length) = some 3 := by decide +kernel
set_option maxHeartbeats 4000000 in
set_option maxRecDepth 100000 in
theorem K_X6_pledge (l : Launch) (E : EE) (ad : Nat → Nat) (hI : ad_I ad 7) (sz : Nat) (N : Nat) (a1 : Int32) (a2 : Int32) (a3 : Int32)  (M : MM) (r : Int64) (M' : MM) (hf : F_X6_pledge N a1 a2 a3 M = some (r, M')) : CtL l yX6_pledge cX6_pledge 6 2 46 E (entM E ad M) (entM E ad M') ad 7 sz [.ref (ad 0), .int a1, .int a2, .int a3] (r) := by
  unfold CtL
  refine body_of (by decide) "SurvivorPurseModel" rfl (Nat.le_of_ble_eq_true rfl) ?_
  intro p e s m below meth c hsz S hr hlk hP hK hN ls hl
  subst hsz
  have hS : va_S (AA ad 7 s.heap.size) s.heap s.heap [] := va_S.rf
  have hl : lv_has ls 6 [(0, .ref (ad 0)), (1, .int a1), (2, .int a2), (3, .int a3)] := hl
  rw [F_X6_pledge] at hf
  refine lv_aload_n S.1 S.2.1 dX6_pledge_0 rfl (lv_at hl 0 rfl) ?_
  refine lv_iload_n S.1 S.2.1 dX6_pledge_1 rfl (lv_at hl 1 rfl) ?_
  refine y_Vi (As := [.int a1]) S hK hN hP hS rfl (by decide) m0 rfl (K_X6_isShare l E ad hI _ a1  M _ rfl) (cV 1 S w_co_yX6_isShare w_in_X6 w_ml_X6_92 w_im_yX6_isShare w_se_yX6_isShare hd_X6_isShare ⟨Nat.le_of_ble_eq_true rfl, Nat.le_of_ble_eq_true rfl⟩) hl.1 rfl rfl (Nat.le_of_ble_eq_true rfl) dX6_pledge_2 ⟨Nat.zero_le _, Nat.zero_le _⟩ (fun H locs hP hS => ?_)
  refine lv_if_eq (tgt := 28) S.1 S.2.1 dX6_pledge_5 (by decide) (fun h1 => ?_) (fun h1 => ?_)
  · replace hf := ift h1 hf
    refine lv_ldc2 (own := "SurvivorPurseModel") (v := (-1000000000000000 : Int64)) S.1 S.2.1 S.2.2.2.1 (S.2.2.2.2 _ w_kl_X6_41) dX6_pledge_28 ?_
    cases hf
    exact r_l S hr hlk hP hS dX6_pledge_31
  · replace hf := iff_ h1 hf
    refine lv_aload_n S.1 S.2.1 dX6_pledge_8 rfl (lv_at hl 0 rfl) ?_
    refine lv_iload_n S.1 S.2.1 dX6_pledge_9 rfl (lv_at hl 2 rfl) ?_
    refine y_Vi (As := [.int a2]) S hK hN hP hS rfl (by decide) m0 rfl (K_X6_isMember l E ad hI _ a2  M _ rfl) (cV 1 S w_co_yX6_isMember w_in_X6 w_ml_X6_66 w_im_yX6_isMember w_se_yX6_isMember hd_X6_isMember ⟨Nat.le_of_ble_eq_true rfl, Nat.le_of_ble_eq_true rfl⟩) hl.1 rfl rfl (Nat.le_of_ble_eq_true rfl) dX6_pledge_10 ⟨Nat.zero_le _, Nat.zero_le _⟩ (fun H locs hP hS => ?_)
    refine lv_if_eq (tgt := 28) S.1 S.2.1 dX6_pledge_13 (by decide) (fun h2 => ?_) (fun h2 => ?_)
    · replace hf := ift h2 hf
      refine lv_ldc2 (own := "SurvivorPurseModel") (v := (-1000000000000000 : Int64)) S.1 S.2.1 S.2.2.2.1 (S.2.2.2.2 _ w_kl_X6_41) dX6_pledge_28 ?_
      cases hf
      exact r_l S hr hlk hP hS dX6_pledge_31
    · replace hf := iff_ h2 hf
      refine lv_iload_n S.1 S.2.1 dX6_pledge_16 rfl (lv_at hl 3 rfl) ?_
      refine lv_i2l (v := a3.toInt64) S.1 S.2.1 dX6_pledge_17 rfl ?_
      refine lv_lconst (v := (0 : Int64)) S.1 S.2.1 dX6_pledge_18 (by decide) ?_
      refine lv_ldc2 (own := "SurvivorPurseModel") (v := (1000000000 : Int64)) S.1 S.2.1 S.2.2.2.1 (S.2.2.2.2 _ w_kl_X6_99) dX6_pledge_19 ?_
      refine y_Si (As := [.long a3.toInt64, .long (0 : Int64), .long (1000000000 : Int64)]) S hK hN hP hS rfl (K_X6_in l E ad hI _ a3.toInt64 (0 : Int64) (1000000000 : Int64)  M _ rfl) (cS 3 S w_co_yX6_in w_in_X6 w_ml_X6_35 w_st_yX6_in hd_X6_in ⟨Nat.le_of_ble_eq_true rfl, Nat.le_of_ble_eq_true rfl⟩) hl.1 rfl rfl (Nat.le_of_ble_eq_true rfl) dX6_pledge_22 ⟨Nat.zero_le _, Nat.zero_le _⟩ (fun H locs hP hS => ?_)
      refine lv_if_ne (tgt := 32) S.1 S.2.1 dX6_pledge_25 (by decide) (fun h3 => ?_) (fun h3 => ?_)
      · replace hf := iff_ h3 hf
        refine lv_aload_n S.1 S.2.1 dX6_pledge_32 rfl (lv_at hl 0 rfl) ?_
        refine x_get (v := .ref (ad 1)) S hK hP w_lay_X6 (ci := 6) rfl 0 (by decide) m0 0 (by decide) w_fl_X6_7 rfl rfl dX6_pledge_33 ?_
        refine lv_iload_n S.1 S.2.1 dX6_pledge_36 rfl (lv_at hl 1 rfl) ?_
        refine lv_bipush (v := (12 : Int32)) S.1 S.2.1 dX6_pledge_37 (by decide) ?_
        refine y_Si (As := [.int a1, .int (12 : Int32)]) S hK hN hP hS rfl (K_X6_part l E ad hI _ a1 (12 : Int32)  M _ rfl) (cS 2 S w_co_yX6_part w_in_X6 w_ml_X6_89 w_st_yX6_part hd_X6_part ⟨Nat.le_of_ble_eq_true rfl, Nat.le_of_ble_eq_true rfl⟩) hl.1 rfl rfl (Nat.le_of_ble_eq_true rfl) dX6_pledge_39 ⟨Nat.zero_le _, Nat.zero_le _⟩ (fun H locs hP hS => ?_)
        obtain ⟨h4, hf⟩ := gd_some hf
        refine x_lald S hK hP 1 (by decide) m1 h4 dX6_pledge_42 ?_
        obtain ⟨x5, ex5, hf⟩ := bnd_some hf
        refine lv_rel ex5 ?_
        refine lv_lstore (lv' := [(4, .long x5), (0, .ref (ad 0)), (1, .int a1), (2, .int a2), (3, .int a3)]) S.1 S.2.1 dX6_pledge_43 hl (by decide) rfl (fun ls hl => ?_)
        refine lv_aload_n S.1 S.2.1 dX6_pledge_45 rfl (lv_at hl 1 rfl) ?_
        refine x_get (v := .ref (ad 1)) S hK hP w_lay_X6 (ci := 6) rfl 0 (by decide) m0 0 (by decide) w_fl_X6_7 rfl rfl dX6_pledge_46 ?_
        refine lv_iload_n S.1 S.2.1 dX6_pledge_49 rfl (lv_at hl 2 rfl) ?_
        refine lv_bipush (v := (11 : Int32)) S.1 S.2.1 dX6_pledge_50 (by decide) ?_
        refine y_Si (As := [.int a1, .int (11 : Int32)]) S hK hN hP hS rfl (K_X6_part l E ad hI _ a1 (11 : Int32)  M _ rfl) (cS 2 S w_co_yX6_part w_in_X6 w_ml_X6_89 w_st_yX6_part hd_X6_part ⟨Nat.le_of_ble_eq_true rfl, Nat.le_of_ble_eq_true rfl⟩) hl.1 rfl rfl (Nat.le_of_ble_eq_true rfl) dX6_pledge_52 ⟨Nat.zero_le _, Nat.zero_le _⟩ (fun H locs hP hS => ?_)
        refine lv_iload_n S.1 S.2.1 dX6_pledge_55 rfl (lv_at hl 3 rfl) ?_
        refine lv_i2l (v := a2.toInt64) S.1 S.2.1 dX6_pledge_56 rfl ?_
        obtain ⟨h6, hf⟩ := gd_some hf
        refine x_last S hI hK hP hS 1 (by decide) m1 h6 (entM E ad (sL M 1 (ix (F_X6_part a1 (11 : Int32))) a2.toInt64)) n1 (fun _ h => entM_sL _ h) dX6_pledge_57 (fun H locs hP hS => ?_)
        obtain ⟨M7, eM7, hf⟩ := bnd_some hf
        rw [← eM7] at hP
        refine lv_aload_n S.1 S.2.1 dX6_pledge_58 rfl (lv_at hl 1 rfl) ?_
        refine x_get (v := .ref (ad 1)) S hK hP w_lay_X6 (ci := 6) rfl 0 (by decide) m0 0 (by decide) w_fl_X6_7 rfl rfl dX6_pledge_59 ?_
        refine lv_iload_n S.1 S.2.1 dX6_pledge_62 rfl (lv_at hl 2 rfl) ?_
        refine lv_bipush (v := (12 : Int32)) S.1 S.2.1 dX6_pledge_63 (by decide) ?_
        refine y_Si (As := [.int a1, .int (12 : Int32)]) S hK hN hP hS rfl (K_X6_part l E ad hI _ a1 (12 : Int32)  M7 _ rfl) (cS 2 S w_co_yX6_part w_in_X6 w_ml_X6_89 w_st_yX6_part hd_X6_part ⟨Nat.le_of_ble_eq_true rfl, Nat.le_of_ble_eq_true rfl⟩) hl.1 rfl rfl (Nat.le_of_ble_eq_true rfl) dX6_pledge_65 ⟨Nat.zero_le _, Nat.zero_le _⟩ (fun H locs hP hS => ?_)
        refine lv_iload_n S.1 S.2.1 dX6_pledge_68 rfl (lv_at hl 4 rfl) ?_
        refine lv_i2l (v := a3.toInt64) S.1 S.2.1 dX6_pledge_69 rfl ?_
        refine x_last S hI hK hP hS 1 (by decide) m1 h4 (entM E ad (sL M7 1 (ix (F_X6_part a1 (12 : Int32))) a3.toInt64)) n1 (fun _ h => entM_sL _ h) dX6_pledge_70 (fun H locs hP hS => ?_)
        obtain ⟨M8, eM8, hf⟩ := bnd_some hf
        rw [← eM8] at hP
        refine lv_lload S.1 S.2.1 dX6_pledge_71 (lv_at hl 0 rfl) ?_
        cases hf
        exact r_l S hr hlk hP hS dX6_pledge_73
      · replace hf := ift h3 hf
        refine lv_ldc2 (own := "SurvivorPurseModel") (v := (-1000000000000000 : Int64)) S.1 S.2.1 S.2.2.2.1 (S.2.2.2.2 _ w_kl_X6_41) dX6_pledge_28 ?_
        cases hf
        exact r_l S hr hlk hP hS dX6_pledge_31
theorem hd_X6_hasLife : yX6_hasLife.cls ≠ "java/lang/invoke/MethodHandle" ∧ yX6_hasLife.cls ≠ "java/lang/invoke/VarHandle" ∧ (parseMethodDescriptor yX6_hasLife.desc).map (fun d => d.parameters.length) = some 2 := by decide +kernel
set_option maxHeartbeats 4000000 in
set_option maxRecDepth 100000 in
theorem K_X6_hasLife (l : Launch) (E : EE) (ad : Nat → Nat) (hI : ad_I ad 7) (sz : Nat) (N : Nat) (a1 : Int32) (a2 : Int32)  (M : MM) (r : Bool) (hf : F_X6_hasLife N a1 a2 M = some r) : CtI l yX6_hasLife cX6_hasLife 3 1 21 .boolean E (entM E ad M) (entM E ad M) ad 7 sz [.ref (ad 0), .int a1, .int a2] (bI r) := by
  unfold CtI
  refine body_of (by decide) "SurvivorPurseModel" rfl (Nat.le_of_ble_eq_true rfl) ?_
  intro p e s m below meth c hsz S hr hlk hP hK hN ls hl
  subst hsz
  have hS : va_S (AA ad 7 s.heap.size) s.heap s.heap [] := va_S.rf
  have hl : lv_has ls 3 [(0, .ref (ad 0)), (1, .int a1), (2, .int a2)] := hl
  rw [F_X6_hasLife] at hf
  refine lv_aload_n S.1 S.2.1 dX6_hasLife_0 rfl (lv_at hl 0 rfl) ?_
  refine x_get (v := .ref (ad 1)) S hK hP w_lay_X6 (ci := 6) rfl 0 (by decide) m0 0 (by decide) w_fl_X6_7 rfl rfl dX6_hasLife_1 ?_
  refine lv_iload_n S.1 S.2.1 dX6_hasLife_4 rfl (lv_at hl 1 rfl) ?_
  refine lv_iconst (v := (1 : Int32)) S.1 S.2.1 dX6_hasLife_5 (by decide) ?_
  refine y_Si (As := [.int a1, .int (1 : Int32)]) S hK hN hP hS rfl (K_X6_part l E ad hI _ a1 (1 : Int32)  M _ rfl) (cS 2 S w_co_yX6_part w_in_X6 w_ml_X6_89 w_st_yX6_part hd_X6_part ⟨Nat.le_of_ble_eq_true rfl, Nat.le_of_ble_eq_true rfl⟩) hl.1 rfl rfl (Nat.le_of_ble_eq_true rfl) dX6_hasLife_6 ⟨Nat.zero_le _, Nat.zero_le _⟩ (fun H locs hP hS => ?_)
  obtain ⟨h1, hf⟩ := gd_some hf
  refine x_lald S hK hP 1 (by decide) m1 h1 dX6_hasLife_9 ?_
  refine lv_iload_n S.1 S.2.1 dX6_hasLife_10 rfl (lv_at hl 2 rfl) ?_
  refine lv_i2l (v := a2.toInt64) S.1 S.2.1 dX6_hasLife_11 rfl ?_
  refine ll_eq (tgt := 32) S dX6_hasLife_12 dX6_hasLife_13 (by decide) (fun h2 => ?_) (fun h2 => ?_)
  · replace hf := ift h2 hf
    refine lv_iconst (v := (1 : Int32)) S.1 S.2.1 dX6_hasLife_32 (by decide) ?_
    refine lv_goto (tgt := 37) S.1 S.2.1 dX6_hasLife_33 (by decide) ?_
    cases hf
    exact r_z S hr hlk hP hS dX6_hasLife_37
  · replace hf := iff_ h2 hf
    refine lv_aload_n S.1 S.2.1 dX6_hasLife_16 rfl (lv_at hl 0 rfl) ?_
    refine x_get (v := .ref (ad 1)) S hK hP w_lay_X6 (ci := 6) rfl 0 (by decide) m0 0 (by decide) w_fl_X6_7 rfl rfl dX6_hasLife_17 ?_
    refine lv_iload_n S.1 S.2.1 dX6_hasLife_20 rfl (lv_at hl 1 rfl) ?_
    refine lv_iconst (v := (2 : Int32)) S.1 S.2.1 dX6_hasLife_21 (by decide) ?_
    refine y_Si (As := [.int a1, .int (2 : Int32)]) S hK hN hP hS rfl (K_X6_part l E ad hI _ a1 (2 : Int32)  M _ rfl) (cS 2 S w_co_yX6_part w_in_X6 w_ml_X6_89 w_st_yX6_part hd_X6_part ⟨Nat.le_of_ble_eq_true rfl, Nat.le_of_ble_eq_true rfl⟩) hl.1 rfl rfl (Nat.le_of_ble_eq_true rfl) dX6_hasLife_22 ⟨Nat.zero_le _, Nat.zero_le _⟩ (fun H locs hP hS => ?_)
    obtain ⟨h3, hf⟩ := gd_some hf
    refine x_lald S hK hP 1 (by decide) m1 h3 dX6_hasLife_25 ?_
    refine lv_iload_n S.1 S.2.1 dX6_hasLife_26 rfl (lv_at hl 2 rfl) ?_
    refine lv_i2l (v := a2.toInt64) S.1 S.2.1 dX6_hasLife_27 rfl ?_
    refine ll_ne (tgt := 36) S dX6_hasLife_28 dX6_hasLife_29 (by decide) (fun h4 => ?_) (fun h4 => ?_)
    · replace hf := iff_ h4 hf
      refine lv_iconst (v := (0 : Int32)) S.1 S.2.1 dX6_hasLife_36 (by decide) ?_
      cases hf
      exact r_z S hr hlk hP hS dX6_hasLife_37
    · replace hf := ift h4 hf
      refine lv_iconst (v := (1 : Int32)) S.1 S.2.1 dX6_hasLife_32 (by decide) ?_
      refine lv_goto (tgt := 37) S.1 S.2.1 dX6_hasLife_33 (by decide) ?_
      cases hf
      exact r_z S hr hlk hP hS dX6_hasLife_37
theorem hd_X6_areDead : yX6_areDead.cls ≠ "java/lang/invoke/MethodHandle" ∧ yX6_areDead.cls ≠ "java/lang/invoke/VarHandle" ∧ (parseMethodDescriptor yX6_areDead.desc).map (fun d => d.parameters.length) = some 1 := by decide +kernel
set_option maxHeartbeats 4000000 in
set_option maxRecDepth 100000 in
theorem K_X6_areDead (l : Launch) (E : EE) (ad : Nat → Nat) (hI : ad_I ad 7) (sz : Nat) (N : Nat) (a1 : Int32)  (M : MM) (r : Bool) (hf : F_X6_areDead N a1 M = some r) : CtI l yX6_areDead cX6_areDead 4 2 43 .boolean E (entM E ad M) (entM E ad M) ad 7 sz [.ref (ad 0), .int a1] (bI r) := by
  unfold CtI
  refine body_of (by decide) "SurvivorPurseModel" rfl (Nat.le_of_ble_eq_true rfl) ?_
  intro p e s m below meth c hsz S hr hlk hP hK hN ls hl
  subst hsz
  have hS : va_S (AA ad 7 s.heap.size) s.heap s.heap [] := va_S.rf
  have hl : lv_has ls 4 [(0, .ref (ad 0)), (1, .int a1)] := hl
  rw [F_X6_areDead] at hf
  refine lv_aload_n S.1 S.2.1 dX6_areDead_0 rfl (lv_at hl 0 rfl) ?_
  refine x_get (v := .ref (ad 1)) S hK hP w_lay_X6 (ci := 6) rfl 0 (by decide) m0 0 (by decide) w_fl_X6_7 rfl rfl dX6_areDead_1 ?_
  refine lv_iload_n S.1 S.2.1 dX6_areDead_4 rfl (lv_at hl 1 rfl) ?_
  refine lv_iconst (v := (2 : Int32)) S.1 S.2.1 dX6_areDead_5 (by decide) ?_
  refine y_Si (As := [.int a1, .int (2 : Int32)]) S hK hN hP hS rfl (K_X6_part l E ad hI _ a1 (2 : Int32)  M _ rfl) (cS 2 S w_co_yX6_part w_in_X6 w_ml_X6_89 w_st_yX6_part hd_X6_part ⟨Nat.le_of_ble_eq_true rfl, Nat.le_of_ble_eq_true rfl⟩) hl.1 rfl rfl (Nat.le_of_ble_eq_true rfl) dX6_areDead_6 ⟨Nat.zero_le _, Nat.zero_le _⟩ (fun H locs hP hS => ?_)
  obtain ⟨h1, hf⟩ := gd_some hf
  refine x_lald S hK hP 1 (by decide) m1 h1 dX6_areDead_9 ?_
  obtain ⟨x2, ex2, hf⟩ := bnd_some hf
  refine lv_rel ex2 ?_
  refine lv_lstore_n (lv' := [(2, .long x2), (0, .ref (ad 0)), (1, .int a1)]) S.1 S.2.1 dX6_areDead_10 rfl hl (by decide) rfl (fun ls hl => ?_)
  refine lv_aload_n S.1 S.2.1 dX6_areDead_11 rfl (lv_at hl 1 rfl) ?_
  refine lv_aload_n S.1 S.2.1 dX6_areDead_12 rfl (lv_at hl 1 rfl) ?_
  refine x_get (v := .ref (ad 1)) S hK hP w_lay_X6 (ci := 6) rfl 0 (by decide) m0 0 (by decide) w_fl_X6_7 rfl rfl dX6_areDead_13 ?_
  refine lv_iload_n S.1 S.2.1 dX6_areDead_16 rfl (lv_at hl 2 rfl) ?_
  refine lv_iconst (v := (1 : Int32)) S.1 S.2.1 dX6_areDead_17 (by decide) ?_
  refine y_Si (As := [.int a1, .int (1 : Int32)]) S hK hN hP hS rfl (K_X6_part l E ad hI _ a1 (1 : Int32)  M _ rfl) (cS 2 S w_co_yX6_part w_in_X6 w_ml_X6_89 w_st_yX6_part hd_X6_part ⟨Nat.le_of_ble_eq_true rfl, Nat.le_of_ble_eq_true rfl⟩) hl.1 rfl rfl (Nat.le_of_ble_eq_true rfl) dX6_areDead_18 ⟨Nat.zero_le _, Nat.zero_le _⟩ (fun H locs hP hS => ?_)
  obtain ⟨h3, hf⟩ := gd_some hf
  refine x_lald S hK hP 1 (by decide) m1 h3 dX6_areDead_21 ?_
  obtain ⟨x4, gx4, hf⟩ := bn1_some hf
  refine y_Vi (As := [.long (gL M 1 (ix (F_X6_part a1 (1 : Int32))))]) S hK hN hP hS rfl (by decide) m0 rfl (K_X6_isDead l E ad hI _ N (gL M 1 (ix (F_X6_part a1 (1 : Int32))))  M x4 gx4) (cV 1 S w_co_yX6_isDead w_in_X6 w_ml_X6_75 w_im_yX6_isDead w_se_yX6_isDead hd_X6_isDead ⟨Nat.le_of_ble_eq_true rfl, Nat.le_of_ble_eq_true rfl⟩) hl.1 rfl rfl (Nat.le_of_ble_eq_true rfl) dX6_areDead_22 ⟨Nat.zero_le _, Nat.zero_le _⟩ (fun H locs hP hS => ?_)
  refine lv_if_eq (tgt := 46) S.1 S.2.1 dX6_areDead_25 (by decide) (fun h5 => ?_) (fun h5 => ?_)
  · replace hf := ift h5 hf
    refine lv_iconst (v := (0 : Int32)) S.1 S.2.1 dX6_areDead_46 (by decide) ?_
    cases hf
    exact r_z S hr hlk hP hS dX6_areDead_47
  · replace hf := iff_ h5 hf
    refine lv_lload_n S.1 S.2.1 dX6_areDead_28 rfl (lv_at hl 0 rfl) ?_
    refine lv_lconst (v := (0 : Int64)) S.1 S.2.1 dX6_areDead_29 (by decide) ?_
    refine ll_lt (tgt := 42) S dX6_areDead_30 dX6_areDead_31 (by decide) (fun h6 => ?_) (fun h6 => ?_)
    · replace hf := ift h6 hf
      refine lv_iconst (v := (1 : Int32)) S.1 S.2.1 dX6_areDead_42 (by decide) ?_
      refine lv_goto (tgt := 47) S.1 S.2.1 dX6_areDead_43 (by decide) ?_
      cases hf
      exact r_z S hr hlk hP hS dX6_areDead_47
    · replace hf := iff_ h6 hf
      refine lv_aload_n S.1 S.2.1 dX6_areDead_34 rfl (lv_at hl 1 rfl) ?_
      refine lv_lload_n S.1 S.2.1 dX6_areDead_35 rfl (lv_at hl 0 rfl) ?_
      obtain ⟨x7, gx7, hf⟩ := bn1_some hf
      refine y_Vi (As := [.long x2]) S hK hN hP hS rfl (by decide) m0 rfl (K_X6_isDead l E ad hI _ N x2  M x7 gx7) (cV 1 S w_co_yX6_isDead w_in_X6 w_ml_X6_75 w_im_yX6_isDead w_se_yX6_isDead hd_X6_isDead ⟨Nat.le_of_ble_eq_true rfl, Nat.le_of_ble_eq_true rfl⟩) hl.1 rfl rfl (Nat.le_of_ble_eq_true rfl) dX6_areDead_36 ⟨Nat.zero_le _, Nat.zero_le _⟩ (fun H locs hP hS => ?_)
      refine lv_if_eq (tgt := 46) S.1 S.2.1 dX6_areDead_39 (by decide) (fun h8 => ?_) (fun h8 => ?_)
      · replace hf := ift h8 hf
        refine lv_iconst (v := (0 : Int32)) S.1 S.2.1 dX6_areDead_46 (by decide) ?_
        cases hf
        exact r_z S hr hlk hP hS dX6_areDead_47
      · replace hf := iff_ h8 hf
        refine lv_iconst (v := (1 : Int32)) S.1 S.2.1 dX6_areDead_42 (by decide) ?_
        refine lv_goto (tgt := 47) S.1 S.2.1 dX6_areDead_43 (by decide) ?_
        cases hf
        exact r_z S hr hlk hP hS dX6_areDead_47
theorem hd_X6_isSure : yX6_isSure.cls ≠ "java/lang/invoke/MethodHandle" ∧ yX6_isSure.cls ≠ "java/lang/invoke/VarHandle" ∧ (parseMethodDescriptor yX6_isSure.desc).map (fun d => d.parameters.length) = some 2 := by decide +kernel
set_option maxHeartbeats 4000000 in
set_option maxRecDepth 100000 in
theorem K_X6_isSure (l : Launch) (E : EE) (ad : Nat → Nat) (hI : ad_I ad 7) (sz : Nat) (N : Nat) (a1 : Int32) (a2 : Int64)  (M : MM) (r : Bool) (hf : F_X6_isSure N a1 a2 M = some r) : CtI l yX6_isSure cX6_isSure 4 1 21 .boolean E (entM E ad M) (entM E ad M) ad 7 sz [.ref (ad 0), .int a1, .long a2] (bI r) := by
  unfold CtI
  refine body_of (by decide) "SurvivorPurseModel" rfl (Nat.le_of_ble_eq_true rfl) ?_
  intro p e s m below meth c hsz S hr hlk hP hK hN ls hl
  subst hsz
  have hS : va_S (AA ad 7 s.heap.size) s.heap s.heap [] := va_S.rf
  have hl : lv_has ls 4 [(0, .ref (ad 0)), (1, .int a1), (2, .long a2)] := hl
  rw [F_X6_isSure] at hf
  refine lv_aload_n S.1 S.2.1 dX6_isSure_0 rfl (lv_at hl 0 rfl) ?_
  refine x_get (v := .ref (ad 1)) S hK hP w_lay_X6 (ci := 6) rfl 0 (by decide) m0 0 (by decide) w_fl_X6_7 rfl rfl dX6_isSure_1 ?_
  refine lv_iload_n S.1 S.2.1 dX6_isSure_4 rfl (lv_at hl 1 rfl) ?_
  refine lv_iconst (v := (5 : Int32)) S.1 S.2.1 dX6_isSure_5 (by decide) ?_
  refine y_Si (As := [.int a1, .int (5 : Int32)]) S hK hN hP hS rfl (K_X6_part l E ad hI _ a1 (5 : Int32)  M _ rfl) (cS 2 S w_co_yX6_part w_in_X6 w_ml_X6_89 w_st_yX6_part hd_X6_part ⟨Nat.le_of_ble_eq_true rfl, Nat.le_of_ble_eq_true rfl⟩) hl.1 rfl rfl (Nat.le_of_ble_eq_true rfl) dX6_isSure_6 ⟨Nat.zero_le _, Nat.zero_le _⟩ (fun H locs hP hS => ?_)
  obtain ⟨h1, hf⟩ := gd_some hf
  refine x_lald S hK hP 1 (by decide) m1 h1 dX6_isSure_9 ?_
  refine lv_lconst (v := (1 : Int64)) S.1 S.2.1 dX6_isSure_10 (by decide) ?_
  refine ll_le (tgt := 47) S dX6_isSure_11 dX6_isSure_12 (by decide) (fun h2 => ?_) (fun h2 => ?_)
  · replace hf := ift h2 hf
    refine lv_iconst (v := (0 : Int32)) S.1 S.2.1 dX6_isSure_47 (by decide) ?_
    cases hf
    exact r_z S hr hlk hP hS dX6_isSure_48
  · replace hf := iff_ h2 hf
    refine lv_lload_n S.1 S.2.1 dX6_isSure_15 rfl (lv_at hl 2 rfl) ?_
    refine lv_aload_n S.1 S.2.1 dX6_isSure_16 rfl (lv_at hl 0 rfl) ?_
    refine x_get (v := .ref (ad 1)) S hK hP w_lay_X6 (ci := 6) rfl 0 (by decide) m0 0 (by decide) w_fl_X6_7 rfl rfl dX6_isSure_17 ?_
    refine lv_iload_n S.1 S.2.1 dX6_isSure_20 rfl (lv_at hl 1 rfl) ?_
    refine lv_bipush (v := (8 : Int32)) S.1 S.2.1 dX6_isSure_21 (by decide) ?_
    refine y_Si (As := [.int a1, .int (8 : Int32)]) S hK hN hP hS rfl (K_X6_part l E ad hI _ a1 (8 : Int32)  M _ rfl) (cS 2 S w_co_yX6_part w_in_X6 w_ml_X6_89 w_st_yX6_part hd_X6_part ⟨Nat.le_of_ble_eq_true rfl, Nat.le_of_ble_eq_true rfl⟩) hl.1 rfl rfl (Nat.le_of_ble_eq_true rfl) dX6_isSure_23 ⟨Nat.zero_le _, Nat.zero_le _⟩ (fun H locs hP hS => ?_)
    obtain ⟨h3, hf⟩ := gd_some hf
    refine x_lald S hK hP 1 (by decide) m1 h3 dX6_isSure_26 ?_
    refine lv_aload_n S.1 S.2.1 dX6_isSure_27 rfl (lv_at hl 0 rfl) ?_
    refine x_get (v := .ref (ad 1)) S hK hP w_lay_X6 (ci := 6) rfl 0 (by decide) m0 0 (by decide) w_fl_X6_7 rfl rfl dX6_isSure_28 ?_
    refine lv_iload_n S.1 S.2.1 dX6_isSure_31 rfl (lv_at hl 1 rfl) ?_
    refine lv_bipush (v := (9 : Int32)) S.1 S.2.1 dX6_isSure_32 (by decide) ?_
    refine y_Si (As := [.int a1, .int (9 : Int32)]) S hK hN hP hS rfl (K_X6_part l E ad hI _ a1 (9 : Int32)  M _ rfl) (cS 2 S w_co_yX6_part w_in_X6 w_ml_X6_89 w_st_yX6_part hd_X6_part ⟨Nat.le_of_ble_eq_true rfl, Nat.le_of_ble_eq_true rfl⟩) hl.1 rfl rfl (Nat.le_of_ble_eq_true rfl) dX6_isSure_34 ⟨Nat.zero_le _, Nat.zero_le _⟩ (fun H locs hP hS => ?_)
    obtain ⟨h4, hf⟩ := gd_some hf
    refine x_lald S hK hP 1 (by decide) m1 h4 dX6_isSure_37 ?_
    refine lv_ladd S.1 S.2.1 dX6_isSure_38 ?_
    refine ll_ge (tgt := 47) S dX6_isSure_39 dX6_isSure_40 (by decide) (fun h5 => ?_) (fun h5 => ?_)
    · replace hf := ift h5 hf
      refine lv_iconst (v := (0 : Int32)) S.1 S.2.1 dX6_isSure_47 (by decide) ?_
      cases hf
      exact r_z S hr hlk hP hS dX6_isSure_48
    · replace hf := iff_ h5 hf
      refine lv_iconst (v := (1 : Int32)) S.1 S.2.1 dX6_isSure_43 (by decide) ?_
      refine lv_goto (tgt := 48) S.1 S.2.1 dX6_isSure_44 (by decide) ?_
      cases hf
      exact r_z S hr hlk hP hS dX6_isSure_48
theorem hd_X6_stands : yX6_stands.cls ≠ "java/lang/invoke/MethodHandle" ∧ yX6_stands.cls ≠ "java/lang/invoke/VarHandle" ∧ (parseMethodDescriptor yX6_stands.desc).map (fun d => d.parameters.length) = some 1 := by decide +kernel
set_option maxHeartbeats 4000000 in
set_option maxRecDepth 100000 in
theorem L_X6_stands_4 (l : Launch) (E : EE) (ad : Nat → Nat) (hI : ad_I ad 7) (N : Nat) (a1 : Int32)  {p : Program} {e : Env} {s : State} {m : MethodId} {below : List Frame} {meth : Method} {c : Code} (S : CallFix p m c cX6_stands 4 s [.ref (ad 0), .int a1].toArray bg_B "SurvivorPurseModel") (hr : meth.sig.returnType = (some .int)) (hlk : meth.locks = false) (hK : va_K E.1 vwCl (tysE E) s) (hN : NW s) (r : Int32) : ∀ (fu : Nat) (v2 : Int32) (v3 : Int32)  (M : MM), F_X6_stands_4 N a1 fu v2 v3 M = some r → ∀ (H : Heap) (locs : List Loc) (ls : Array Slot), va_P E.1 vwCl (mw (entM E ad M) ad 7) H → va_S (AA ad 7 s.heap.size) s.heap H locs → lv_has ls 4 [(0, .ref (ad 0)), (1, .int a1), (2, .int v2), (3, .int v3)] → W p l e { frames := 3, cells := 0, slots := 0, locals := 66 } s m [.ref (ad 0), .int a1].toArray below meth c H locs 0 0 (MQ below (va_Qi (fun r0 (_ : Unit) => r0 = r) (fun _ t => QB E (entM E ad M) ad 7 t) (AA ad 7 s.heap.size)) [.ref (ad 0), .int a1].toArray s 0 0 (AA ad 7 s.heap.size)) (F0 m 4 ls []) := by
  intro fu
  induction fu with
  | zero =>
    intro v2 v3 M hf
    rw [F_X6_stands_4] at hf
    cases hf
  | succ fu ih =>
    intro v2 v3 M hf H locs ls hP hS hl
    rw [F_X6_stands_4] at hf
    refine lv_iload_n S.1 S.2.1 dX6_stands_4 rfl (lv_at hl 3 rfl) ?_
    refine lv_i2l (v := v3.toInt64) S.1 S.2.1 dX6_stands_5 rfl ?_
    refine lv_aload_n S.1 S.2.1 dX6_stands_6 rfl (lv_at hl 0 rfl) ?_
    refine x_get (v := .ref (ad 1)) S hK hP w_lay_X6 (ci := 6) rfl 0 (by decide) m0 0 (by decide) w_fl_X6_7 rfl rfl dX6_stands_7 ?_
    refine lv_sipush (v := (5668 : Int32)) S.1 S.2.1 dX6_stands_10 (by decide) ?_
    refine x_laldc (j := 5668) S hK hP 1 (by decide) m1 (by decide) (by decide) dX6_stands_13 ?_
    refine ll_ge (tgt := 58) S dX6_stands_14 dX6_stands_15 (by decide) (fun h1 => ?_) (fun h1 => ?_)
    · replace hf := ift h1 hf
      refine lv_iload_n S.1 S.2.1 dX6_stands_58 rfl (lv_at hl 2 rfl) ?_
      refine lv_if_ne (tgt := 78) S.1 S.2.1 dX6_stands_59 (by decide) (fun h2 => ?_) (fun h2 => ?_)
      · replace hf := iff_ h2 hf
        refine lv_iconst (v := (0 : Int32)) S.1 S.2.1 dX6_stands_78 (by decide) ?_
        cases hf
        exact r_i S hr hlk hP hS dX6_stands_79
      · replace hf := ift h2 hf
        refine lv_aload_n S.1 S.2.1 dX6_stands_62 rfl (lv_at hl 0 rfl) ?_
        refine lv_iload_n S.1 S.2.1 dX6_stands_63 rfl (lv_at hl 1 rfl) ?_
        refine lv_aload_n S.1 S.2.1 dX6_stands_64 rfl (lv_at hl 0 rfl) ?_
        refine x_get (v := .ref (ad 1)) S hK hP w_lay_X6 (ci := 6) rfl 0 (by decide) m0 0 (by decide) w_fl_X6_7 rfl rfl dX6_stands_65 ?_
        refine lv_sipush (v := (5663 : Int32)) S.1 S.2.1 dX6_stands_68 (by decide) ?_
        refine x_laldc (j := 5663) S hK hP 1 (by decide) m1 (by decide) (by decide) dX6_stands_71 ?_
        obtain ⟨x3, gx3, hf⟩ := bn1_some hf
        refine y_Vi (As := [.int a1, .long (gL M 1 5663)]) S hK hN hP hS rfl (by decide) m0 rfl (K_X6_isSure l E ad hI _ N a1 (gL M 1 5663)  M x3 gx3) (cV 2 S w_co_yX6_isSure w_in_X6 w_ml_X6_105 w_im_yX6_isSure w_se_yX6_isSure hd_X6_isSure ⟨Nat.le_of_ble_eq_true rfl, Nat.le_of_ble_eq_true rfl⟩) hl.1 rfl rfl (Nat.le_of_ble_eq_true rfl) dX6_stands_72 ⟨Nat.zero_le _, Nat.zero_le _⟩ (fun H locs hP hS => ?_)
        refine lv_if_eq (tgt := 80) S.1 S.2.1 dX6_stands_75 (by decide) (fun h4 => ?_) (fun h4 => ?_)
        · replace hf := ift h4 hf
          refine lv_aload_n S.1 S.2.1 dX6_stands_80 rfl (lv_at hl 0 rfl) ?_
          refine lv_iload_n S.1 S.2.1 dX6_stands_81 rfl (lv_at hl 1 rfl) ?_
          obtain ⟨x5, gx5, hf⟩ := bn1_some hf
          refine y_Vi (As := [.int a1]) S hK hN hP hS rfl (by decide) m0 rfl (K_X6_areDead l E ad hI _ N a1  M x5 gx5) (cV 1 S w_co_yX6_areDead w_in_X6 w_ml_X6_109 w_im_yX6_areDead w_se_yX6_areDead hd_X6_areDead ⟨Nat.le_of_ble_eq_true rfl, Nat.le_of_ble_eq_true rfl⟩) hl.1 rfl rfl (Nat.le_of_ble_eq_true rfl) dX6_stands_82 ⟨Nat.zero_le _, Nat.zero_le _⟩ (fun H locs hP hS => ?_)
          refine lv_if_eq (tgt := 90) S.1 S.2.1 dX6_stands_85 (by decide) (fun h6 => ?_) (fun h6 => ?_)
          · replace hf := ift h6 hf
            refine lv_aload_n S.1 S.2.1 dX6_stands_90 rfl (lv_at hl 0 rfl) ?_
            refine x_get (v := .ref (ad 1)) S hK hP w_lay_X6 (ci := 6) rfl 0 (by decide) m0 0 (by decide) w_fl_X6_7 rfl rfl dX6_stands_91 ?_
            refine lv_iload_n S.1 S.2.1 dX6_stands_94 rfl (lv_at hl 1 rfl) ?_
            refine lv_bipush (v := (10 : Int32)) S.1 S.2.1 dX6_stands_95 (by decide) ?_
            refine y_Si (As := [.int a1, .int (10 : Int32)]) S hK hN hP hS rfl (K_X6_part l E ad hI _ a1 (10 : Int32)  M _ rfl) (cS 2 S w_co_yX6_part w_in_X6 w_ml_X6_89 w_st_yX6_part hd_X6_part ⟨Nat.le_of_ble_eq_true rfl, Nat.le_of_ble_eq_true rfl⟩) hl.1 rfl rfl (Nat.le_of_ble_eq_true rfl) dX6_stands_97 ⟨Nat.zero_le _, Nat.zero_le _⟩ (fun H locs hP hS => ?_)
            obtain ⟨h7, hf⟩ := gd_some hf
            refine x_lald S hK hP 1 (by decide) m1 h7 dX6_stands_100 ?_
            refine lv_aload_n S.1 S.2.1 dX6_stands_101 rfl (lv_at hl 0 rfl) ?_
            refine x_get (v := .ref (ad 1)) S hK hP w_lay_X6 (ci := 6) rfl 0 (by decide) m0 0 (by decide) w_fl_X6_7 rfl rfl dX6_stands_102 ?_
            refine lv_sipush (v := (5666 : Int32)) S.1 S.2.1 dX6_stands_105 (by decide) ?_
            refine x_laldc (j := 5666) S hK hP 1 (by decide) m1 (by decide) (by decide) dX6_stands_108 ?_
            refine ll_ge (tgt := 117) S dX6_stands_109 dX6_stands_110 (by decide) (fun h8 => ?_) (fun h8 => ?_)
            · replace hf := ift h8 hf
              refine lv_iconst (v := (2 : Int32)) S.1 S.2.1 dX6_stands_117 (by decide) ?_
              cases hf
              exact r_i S hr hlk hP hS dX6_stands_118
            · replace hf := iff_ h8 hf
              refine lv_iconst (v := (1 : Int32)) S.1 S.2.1 dX6_stands_113 (by decide) ?_
              refine lv_goto (tgt := 118) S.1 S.2.1 dX6_stands_114 (by decide) ?_
              cases hf
              exact r_i S hr hlk hP hS dX6_stands_118
          · replace hf := iff_ h6 hf
            refine lv_iconst (v := (3 : Int32)) S.1 S.2.1 dX6_stands_88 (by decide) ?_
            cases hf
            exact r_i S hr hlk hP hS dX6_stands_89
        · replace hf := iff_ h4 hf
          refine lv_iconst (v := (0 : Int32)) S.1 S.2.1 dX6_stands_78 (by decide) ?_
          cases hf
          exact r_i S hr hlk hP hS dX6_stands_79
    · replace hf := iff_ h1 hf
      refine lv_iload_n S.1 S.2.1 dX6_stands_18 rfl (lv_at hl 2 rfl) ?_
      refine lv_if_ne (tgt := 46) S.1 S.2.1 dX6_stands_19 (by decide) (fun h9 => ?_) (fun h9 => ?_)
      · replace hf := iff_ h9 hf
        refine lv_iconst (v := (1 : Int32)) S.1 S.2.1 dX6_stands_46 (by decide) ?_
        refine lv_goto (tgt := 51) S.1 S.2.1 dX6_stands_47 (by decide) ?_
        refine lv_istore_n (lv' := [(2, .int (1 : Int32)), (0, .ref (ad 0)), (1, .int a1), (3, .int v3)]) S.1 S.2.1 dX6_stands_51 rfl hl (by decide) rfl (fun ls hl => ?_)
        refine lv_iinc (v := v3 + (1 : Int32)) (lv' := [(3, .int (v3 + (1 : Int32))), (2, .int (1 : Int32)), (0, .ref (ad 0)), (1, .int a1)]) S.1 S.2.1 dX6_stands_52 hl (k := 3) rfl rfl (by decide) rfl (fun ls hl => ?_)
        refine lv_goto (tgt := 4) S.1 S.2.1 dX6_stands_55 (by decide) ?_
        exact ih (1 : Int32) (v3 + (1 : Int32))  M hf _ _ _ hP hS (lv_sub hl [2, 3, 1, 0] rfl)
      · replace hf := ift h9 hf
        refine lv_aload_n S.1 S.2.1 dX6_stands_22 rfl (lv_at hl 0 rfl) ?_
        refine lv_iload_n S.1 S.2.1 dX6_stands_23 rfl (lv_at hl 1 rfl) ?_
        refine lv_iload_n S.1 S.2.1 dX6_stands_24 rfl (lv_at hl 3 rfl) ?_
        obtain ⟨x10, gx10, hf⟩ := bn1_some hf
        refine y_Vi (As := [.int a1, .int v3]) S hK hN hP hS rfl (by decide) m0 rfl (K_X6_hasLife l E ad hI _ N a1 v3  M x10 gx10) (cV 2 S w_co_yX6_hasLife w_in_X6 w_ml_X6_101 w_im_yX6_hasLife w_se_yX6_hasLife hd_X6_hasLife ⟨Nat.le_of_ble_eq_true rfl, Nat.le_of_ble_eq_true rfl⟩) hl.1 rfl rfl (Nat.le_of_ble_eq_true rfl) dX6_stands_25 ⟨Nat.zero_le _, Nat.zero_le _⟩ (fun H locs hP hS => ?_)
        refine lv_if_eq (tgt := 50) S.1 S.2.1 dX6_stands_28 (by decide) (fun h11 => ?_) (fun h11 => ?_)
        · replace hf := ift h11 hf
          refine lv_iconst (v := (0 : Int32)) S.1 S.2.1 dX6_stands_50 (by decide) ?_
          refine lv_istore_n (lv' := [(2, .int (0 : Int32)), (0, .ref (ad 0)), (1, .int a1), (3, .int v3)]) S.1 S.2.1 dX6_stands_51 rfl hl (by decide) rfl (fun ls hl => ?_)
          refine lv_iinc (v := v3 + (1 : Int32)) (lv' := [(3, .int (v3 + (1 : Int32))), (2, .int (0 : Int32)), (0, .ref (ad 0)), (1, .int a1)]) S.1 S.2.1 dX6_stands_52 hl (k := 3) rfl rfl (by decide) rfl (fun ls hl => ?_)
          refine lv_goto (tgt := 4) S.1 S.2.1 dX6_stands_55 (by decide) ?_
          exact ih (0 : Int32) (v3 + (1 : Int32))  M hf _ _ _ hP hS (lv_sub hl [2, 3, 1, 0] rfl)
        · replace hf := iff_ h11 hf
          refine lv_aload_n S.1 S.2.1 dX6_stands_31 rfl (lv_at hl 0 rfl) ?_
          refine x_get (v := .ref (ad 1)) S hK hP w_lay_X6 (ci := 6) rfl 0 (by decide) m0 0 (by decide) w_fl_X6_7 rfl rfl dX6_stands_32 ?_
          refine lv_iload_n S.1 S.2.1 dX6_stands_35 rfl (lv_at hl 3 rfl) ?_
          refine lv_iconst (v := (4 : Int32)) S.1 S.2.1 dX6_stands_36 (by decide) ?_
          refine y_Si (As := [.int v3, .int (4 : Int32)]) S hK hN hP hS rfl (K_X6_cellOf l E ad hI _ v3 (4 : Int32)  M _ rfl) (cS 2 S w_co_yX6_cellOf w_in_X6 w_ml_X6_63 w_st_yX6_cellOf hd_X6_cellOf ⟨Nat.le_of_ble_eq_true rfl, Nat.le_of_ble_eq_true rfl⟩) hl.1 rfl rfl (Nat.le_of_ble_eq_true rfl) dX6_stands_37 ⟨Nat.zero_le _, Nat.zero_le _⟩ (fun H locs hP hS => ?_)
          obtain ⟨h12, hf⟩ := gd_some hf
          refine x_lald S hK hP 1 (by decide) m1 h12 dX6_stands_40 ?_
          refine lv_lconst (v := (1 : Int64)) S.1 S.2.1 dX6_stands_41 (by decide) ?_
          refine ll_ne (tgt := 50) S dX6_stands_42 dX6_stands_43 (by decide) (fun h13 => ?_) (fun h13 => ?_)
          · replace hf := iff_ h13 hf
            refine lv_iconst (v := (0 : Int32)) S.1 S.2.1 dX6_stands_50 (by decide) ?_
            refine lv_istore_n (lv' := [(2, .int (0 : Int32)), (0, .ref (ad 0)), (1, .int a1), (3, .int v3)]) S.1 S.2.1 dX6_stands_51 rfl hl (by decide) rfl (fun ls hl => ?_)
            refine lv_iinc (v := v3 + (1 : Int32)) (lv' := [(3, .int (v3 + (1 : Int32))), (2, .int (0 : Int32)), (0, .ref (ad 0)), (1, .int a1)]) S.1 S.2.1 dX6_stands_52 hl (k := 3) rfl rfl (by decide) rfl (fun ls hl => ?_)
            refine lv_goto (tgt := 4) S.1 S.2.1 dX6_stands_55 (by decide) ?_
            exact ih (0 : Int32) (v3 + (1 : Int32))  M hf _ _ _ hP hS (lv_sub hl [2, 3, 1, 0] rfl)
          · replace hf := ift h13 hf
            refine lv_iconst (v := (1 : Int32)) S.1 S.2.1 dX6_stands_46 (by decide) ?_
            refine lv_goto (tgt := 51) S.1 S.2.1 dX6_stands_47 (by decide) ?_
            refine lv_istore_n (lv' := [(2, .int (1 : Int32)), (0, .ref (ad 0)), (1, .int a1), (3, .int v3)]) S.1 S.2.1 dX6_stands_51 rfl hl (by decide) rfl (fun ls hl => ?_)
            refine lv_iinc (v := v3 + (1 : Int32)) (lv' := [(3, .int (v3 + (1 : Int32))), (2, .int (1 : Int32)), (0, .ref (ad 0)), (1, .int a1)]) S.1 S.2.1 dX6_stands_52 hl (k := 3) rfl rfl (by decide) rfl (fun ls hl => ?_)
            refine lv_goto (tgt := 4) S.1 S.2.1 dX6_stands_55 (by decide) ?_
            exact ih (1 : Int32) (v3 + (1 : Int32))  M hf _ _ _ hP hS (lv_sub hl [2, 3, 1, 0] rfl)
set_option maxHeartbeats 4000000 in
set_option maxRecDepth 100000 in
theorem K_X6_stands (l : Launch) (E : EE) (ad : Nat → Nat) (hI : ad_I ad 7) (sz : Nat) (N : Nat) (a1 : Int32)  (M : MM) (r : Int32) (hf : F_X6_stands N a1 M = some r) : CtI l yX6_stands cX6_stands 4 3 66 .int E (entM E ad M) (entM E ad M) ad 7 sz [.ref (ad 0), .int a1] (r) := by
  unfold CtI
  refine body_of (by decide) "SurvivorPurseModel" rfl (Nat.le_of_ble_eq_true rfl) ?_
  intro p e s m below meth c hsz S hr hlk hP hK hN ls hl
  subst hsz
  have hS : va_S (AA ad 7 s.heap.size) s.heap s.heap [] := va_S.rf
  have hl : lv_has ls 4 [(0, .ref (ad 0)), (1, .int a1)] := hl
  rw [F_X6_stands] at hf
  refine lv_iconst (v := (0 : Int32)) S.1 S.2.1 dX6_stands_0 (by decide) ?_
  refine lv_istore_n (lv' := [(2, .int (0 : Int32)), (0, .ref (ad 0)), (1, .int a1)]) S.1 S.2.1 dX6_stands_1 rfl hl (by decide) rfl (fun ls hl => ?_)
  refine lv_iconst (v := (0 : Int32)) S.1 S.2.1 dX6_stands_2 (by decide) ?_
  refine lv_istore_n (lv' := [(3, .int (0 : Int32)), (2, .int (0 : Int32)), (0, .ref (ad 0)), (1, .int a1)]) S.1 S.2.1 dX6_stands_3 rfl hl (by decide) rfl (fun ls hl => ?_)
  exact L_X6_stands_4 l E ad hI N a1  S hr hlk hK hN _ N (0 : Int32) (0 : Int32)  M hf _ _ _ hP hS (lv_sub hl [2, 3, 1, 0] rfl)
theorem hd_X6_heldBy : yX6_heldBy.cls ≠ "java/lang/invoke/MethodHandle" ∧ yX6_heldBy.cls ≠ "java/lang/invoke/VarHandle" ∧ (parseMethodDescriptor yX6_heldBy.desc).map (fun d => d.parameters.length) = some 1 := by decide +kernel
set_option maxHeartbeats 4000000 in
set_option maxRecDepth 100000 in
theorem L_X6_heldBy_5 (l : Launch) (E : EE) (ad : Nat → Nat) (hI : ad_I ad 7) (N : Nat) (a1 : Int32)  {p : Program} {e : Env} {s : State} {m : MethodId} {below : List Frame} {meth : Method} {c : Code} (S : CallFix p m c cX6_heldBy 5 s [.ref (ad 0), .int a1].toArray bg_B "SurvivorPurseModel") (hr : meth.sig.returnType = (some .long)) (hlk : meth.locks = false) (hK : va_K E.1 vwCl (tysE E) s) (hN : NW s) (r : Int64) : ∀ (fu : Nat) (v2 : Int64) (v4 : Int32)  (M : MM), F_X6_heldBy_5 N a1 fu v2 v4 M = some r → ∀ (H : Heap) (locs : List Loc) (ls : Array Slot), va_P E.1 vwCl (mw (entM E ad M) ad 7) H → va_S (AA ad 7 s.heap.size) s.heap H locs → lv_has ls 5 [(0, .ref (ad 0)), (1, .int a1), (2, .long v2), (4, .int v4)] → W p l e { frames := 0, cells := 0, slots := 0, locals := 0 } s m [.ref (ad 0), .int a1].toArray below meth c H locs 0 0 (MQ below (va_Ql (fun r0 (_ : Unit) => r0 = r) (fun _ t => QB E (entM E ad M) ad 7 t) (AA ad 7 s.heap.size)) [.ref (ad 0), .int a1].toArray s 0 0 (AA ad 7 s.heap.size)) (F0 m 5 ls []) := by
  intro fu
  induction fu with
  | zero =>
    intro v2 v4 M hf
    rw [F_X6_heldBy_5] at hf
    cases hf
  | succ fu ih =>
    intro v2 v4 M hf H locs ls hP hS hl
    rw [F_X6_heldBy_5] at hf
    refine lv_iload S.1 S.2.1 dX6_heldBy_5 (lv_at hl 3 rfl) ?_
    refine lv_bipush (v := (60 : Int32)) S.1 S.2.1 dX6_heldBy_7 (by decide) ?_
    refine lv_icmp_ge (tgt := 37) S.1 S.2.1 dX6_heldBy_9 (by decide) (fun h1 => ?_) (fun h1 => ?_)
    · replace hf := ift h1 hf
      refine lv_lload_n S.1 S.2.1 dX6_heldBy_37 rfl (lv_at hl 2 rfl) ?_
      cases hf
      exact r_l S hr hlk hP hS dX6_heldBy_38
    · replace hf := iff_ h1 hf
      refine lv_lload_n S.1 S.2.1 dX6_heldBy_12 rfl (lv_at hl 2 rfl) ?_
      refine lv_aload_n S.1 S.2.1 dX6_heldBy_13 rfl (lv_at hl 0 rfl) ?_
      refine x_get (v := .ref (ad 1)) S hK hP w_lay_X6 (ci := 6) rfl 0 (by decide) m0 0 (by decide) w_fl_X6_7 rfl rfl dX6_heldBy_14 ?_
      refine lv_sipush (v := (3263 : Int32)) S.1 S.2.1 dX6_heldBy_17 (by decide) ?_
      refine lv_bipush (v := (60 : Int32)) S.1 S.2.1 dX6_heldBy_20 (by decide) ?_
      refine lv_iload_n S.1 S.2.1 dX6_heldBy_22 rfl (lv_at hl 1 rfl) ?_
      refine lv_imul S.1 S.2.1 dX6_heldBy_23 ?_
      refine lv_iadd S.1 S.2.1 dX6_heldBy_24 ?_
      refine lv_iload S.1 S.2.1 dX6_heldBy_25 (lv_at hl 3 rfl) ?_
      refine lv_iadd S.1 S.2.1 dX6_heldBy_27 ?_
      obtain ⟨h2, hf⟩ := gd_some hf
      refine x_lald S hK hP 1 (by decide) m1 h2 dX6_heldBy_28 ?_
      refine lv_ladd S.1 S.2.1 dX6_heldBy_29 ?_
      obtain ⟨x3, ex3, hf⟩ := bnd_some hf
      refine lv_rel ex3 ?_
      refine lv_lstore_n (lv' := [(2, .long x3), (0, .ref (ad 0)), (1, .int a1), (4, .int v4)]) S.1 S.2.1 dX6_heldBy_30 rfl hl (by decide) rfl (fun ls hl => ?_)
      refine lv_iinc (v := v4 + (1 : Int32)) (lv' := [(4, .int (v4 + (1 : Int32))), (2, .long x3), (0, .ref (ad 0)), (1, .int a1)]) S.1 S.2.1 dX6_heldBy_31 hl (k := 3) rfl rfl (by decide) rfl (fun ls hl => ?_)
      refine lv_goto (tgt := 5) S.1 S.2.1 dX6_heldBy_34 (by decide) ?_
      exact ih x3 (v4 + (1 : Int32))  M hf _ _ _ hP hS (lv_sub hl [2, 3, 1, 0] rfl)
set_option maxHeartbeats 4000000 in
set_option maxRecDepth 100000 in
theorem K_X6_heldBy (l : Launch) (E : EE) (ad : Nat → Nat) (hI : ad_I ad 7) (sz : Nat) (N : Nat) (a1 : Int32)  (M : MM) (r : Int64) (hf : F_X6_heldBy N a1 M = some r) : CtL l yX6_heldBy cX6_heldBy 5 0 0 E (entM E ad M) (entM E ad M) ad 7 sz [.ref (ad 0), .int a1] (r) := by
  unfold CtL
  refine body_of (by decide) "SurvivorPurseModel" rfl (Nat.le_of_ble_eq_true rfl) ?_
  intro p e s m below meth c hsz S hr hlk hP hK hN ls hl
  subst hsz
  have hS : va_S (AA ad 7 s.heap.size) s.heap s.heap [] := va_S.rf
  have hl : lv_has ls 5 [(0, .ref (ad 0)), (1, .int a1)] := hl
  rw [F_X6_heldBy] at hf
  refine lv_lconst (v := (0 : Int64)) S.1 S.2.1 dX6_heldBy_0 (by decide) ?_
  refine lv_lstore_n (lv' := [(2, .long (0 : Int64)), (0, .ref (ad 0)), (1, .int a1)]) S.1 S.2.1 dX6_heldBy_1 rfl hl (by decide) rfl (fun ls hl => ?_)
  refine lv_iconst (v := (0 : Int32)) S.1 S.2.1 dX6_heldBy_2 (by decide) ?_
  refine lv_istore (lv' := [(4, .int (0 : Int32)), (2, .long (0 : Int64)), (0, .ref (ad 0)), (1, .int a1)]) S.1 S.2.1 dX6_heldBy_3 hl (by decide) rfl (fun ls hl => ?_)
  exact L_X6_heldBy_5 l E ad hI N a1  S hr hlk hK hN _ N (0 : Int64) (0 : Int32)  M hf _ _ _ hP hS (lv_sub hl [2, 3, 1, 0] rfl)
theorem hd_X6_share : yX6_share.cls ≠ "java/lang/invoke/MethodHandle" ∧ yX6_share.cls ≠ "java/lang/invoke/VarHandle" ∧ (parseMethodDescriptor yX6_share.desc).map (fun d => d.parameters.length) = some 2 := by decide +kernel
set_option maxHeartbeats 4000000 in
set_option maxRecDepth 100000 in
theorem K_X6_share (l : Launch) (E : EE) (ad : Nat → Nat) (hI : ad_I ad 7) (sz : Nat) (N : Nat) (a1 : Int32) (a2 : Int32)  (M : MM) (r : Int64) (hf : F_X6_share N a1 a2 M = some r) : CtL l yX6_share cX6_share 3 4 89 E (entM E ad M) (entM E ad M) ad 7 sz [.ref (ad 0), .int a1, .int a2] (r) := by
  unfold CtL
  refine body_of (by decide) "SurvivorPurseModel" rfl (Nat.le_of_ble_eq_true rfl) ?_
  intro p e s m below meth c hsz S hr hlk hP hK hN ls hl
  subst hsz
  have hS : va_S (AA ad 7 s.heap.size) s.heap s.heap [] := va_S.rf
  have hl : lv_has ls 3 [(0, .ref (ad 0)), (1, .int a1), (2, .int a2)] := hl
  rw [F_X6_share] at hf
  refine lv_aload_n S.1 S.2.1 dX6_share_0 rfl (lv_at hl 0 rfl) ?_
  refine lv_iload_n S.1 S.2.1 dX6_share_1 rfl (lv_at hl 1 rfl) ?_
  refine y_Vi (As := [.int a1]) S hK hN hP hS rfl (by decide) m0 rfl (K_X6_isShare l E ad hI _ a1  M _ rfl) (cV 1 S w_co_yX6_isShare w_in_X6 w_ml_X6_92 w_im_yX6_isShare w_se_yX6_isShare hd_X6_isShare ⟨Nat.le_of_ble_eq_true rfl, Nat.le_of_ble_eq_true rfl⟩) hl.1 rfl rfl (Nat.le_of_ble_eq_true rfl) dX6_share_2 ⟨Nat.zero_le _, Nat.zero_le _⟩ (fun H locs hP hS => ?_)
  refine lv_if_eq (tgt := 20) S.1 S.2.1 dX6_share_5 (by decide) (fun h1 => ?_) (fun h1 => ?_)
  · replace hf := ift h1 hf
    refine lv_ldc2 (own := "SurvivorPurseModel") (v := (-1000000000000000 : Int64)) S.1 S.2.1 S.2.2.2.1 (S.2.2.2.2 _ w_kl_X6_41) dX6_share_20 ?_
    cases hf
    exact r_l S hr hlk hP hS dX6_share_23
  · replace hf := iff_ h1 hf
    refine lv_iload_n S.1 S.2.1 dX6_share_8 rfl (lv_at hl 2 rfl) ?_
    refine lv_i2l (v := a2.toInt64) S.1 S.2.1 dX6_share_9 rfl ?_
    refine lv_lconst (v := (0 : Int64)) S.1 S.2.1 dX6_share_10 (by decide) ?_
    refine lv_ldc2 (own := "SurvivorPurseModel") (v := (12 : Int64)) S.1 S.2.1 S.2.2.2.1 (S.2.2.2.2 _ w_kl_X6_112) dX6_share_11 ?_
    refine y_Si (As := [.long a2.toInt64, .long (0 : Int64), .long (12 : Int64)]) S hK hN hP hS rfl (K_X6_in l E ad hI _ a2.toInt64 (0 : Int64) (12 : Int64)  M _ rfl) (cS 3 S w_co_yX6_in w_in_X6 w_ml_X6_35 w_st_yX6_in hd_X6_in ⟨Nat.le_of_ble_eq_true rfl, Nat.le_of_ble_eq_true rfl⟩) hl.1 rfl rfl (Nat.le_of_ble_eq_true rfl) dX6_share_14 ⟨Nat.zero_le _, Nat.zero_le _⟩ (fun H locs hP hS => ?_)
    refine lv_if_ne (tgt := 24) S.1 S.2.1 dX6_share_17 (by decide) (fun h2 => ?_) (fun h2 => ?_)
    · replace hf := iff_ h2 hf
      refine lv_iload_n S.1 S.2.1 dX6_share_24 rfl (lv_at hl 2 rfl) ?_
      by_cases h3 : a2 = (8 : Int32)
      · replace hf := ift h3 hf
        refine lv_tableIn (tgt := 60) (off := 35) S.1 S.2.1 dX6_share_25 (by rw [h3]; decide) (by rw [h3]; decide) (by rw [h3]; rfl) (by decide) ?_
        refine lv_aload_n S.1 S.2.1 dX6_share_60 rfl (lv_at hl 0 rfl) ?_
        refine lv_iload_n S.1 S.2.1 dX6_share_61 rfl (lv_at hl 1 rfl) ?_
        obtain ⟨x4, gx4, hf⟩ := bn1_some hf
        refine y_Vl (As := [.int a1]) S hK hN hP hS rfl (by decide) m0 rfl (K_X6_heldBy l E ad hI _ N a1  M x4 gx4) (cV 1 S w_co_yX6_heldBy w_in_X6 w_ml_X6_114 w_im_yX6_heldBy w_se_yX6_heldBy hd_X6_heldBy ⟨Nat.le_of_ble_eq_true rfl, Nat.le_of_ble_eq_true rfl⟩) hl.1 rfl rfl (Nat.le_of_ble_eq_true rfl) dX6_share_62 ⟨Nat.zero_le _, Nat.zero_le _⟩ (fun H locs hP hS => ?_)
        cases hf
        exact r_l S hr hlk hP hS dX6_share_65
      · replace hf := iff_ h3 hf
        by_cases h5 : a2 = (9 : Int32)
        · replace hf := ift h5 hf
          refine lv_tableIn (tgt := 66) (off := 41) S.1 S.2.1 dX6_share_25 (by rw [h5]; decide) (by rw [h5]; decide) (by rw [h5]; rfl) (by decide) ?_
          refine lv_aload_n S.1 S.2.1 dX6_share_66 rfl (lv_at hl 0 rfl) ?_
          refine x_get (v := .ref (ad 1)) S hK hP w_lay_X6 (ci := 6) rfl 0 (by decide) m0 0 (by decide) w_fl_X6_7 rfl rfl dX6_share_67 ?_
          refine lv_iload_n S.1 S.2.1 dX6_share_70 rfl (lv_at hl 1 rfl) ?_
          refine lv_bipush (v := (8 : Int32)) S.1 S.2.1 dX6_share_71 (by decide) ?_
          refine y_Si (As := [.int a1, .int (8 : Int32)]) S hK hN hP hS rfl (K_X6_part l E ad hI _ a1 (8 : Int32)  M _ rfl) (cS 2 S w_co_yX6_part w_in_X6 w_ml_X6_89 w_st_yX6_part hd_X6_part ⟨Nat.le_of_ble_eq_true rfl, Nat.le_of_ble_eq_true rfl⟩) hl.1 rfl rfl (Nat.le_of_ble_eq_true rfl) dX6_share_73 ⟨Nat.zero_le _, Nat.zero_le _⟩ (fun H locs hP hS => ?_)
          obtain ⟨h6, hf⟩ := gd_some hf
          refine x_lald S hK hP 1 (by decide) m1 h6 dX6_share_76 ?_
          cases hf
          exact r_l S hr hlk hP hS dX6_share_77
        · replace hf := iff_ h5 hf
          by_cases h7 : a2 = (10 : Int32)
          · replace hf := ift h7 hf
            refine lv_tableIn (tgt := 78) (off := 53) S.1 S.2.1 dX6_share_25 (by rw [h7]; decide) (by rw [h7]; decide) (by rw [h7]; rfl) (by decide) ?_
            refine lv_aload_n S.1 S.2.1 dX6_share_78 rfl (lv_at hl 0 rfl) ?_
            refine x_get (v := .ref (ad 1)) S hK hP w_lay_X6 (ci := 6) rfl 0 (by decide) m0 0 (by decide) w_fl_X6_7 rfl rfl dX6_share_79 ?_
            refine lv_iload_n S.1 S.2.1 dX6_share_82 rfl (lv_at hl 1 rfl) ?_
            refine lv_bipush (v := (10 : Int32)) S.1 S.2.1 dX6_share_83 (by decide) ?_
            refine y_Si (As := [.int a1, .int (10 : Int32)]) S hK hN hP hS rfl (K_X6_part l E ad hI _ a1 (10 : Int32)  M _ rfl) (cS 2 S w_co_yX6_part w_in_X6 w_ml_X6_89 w_st_yX6_part hd_X6_part ⟨Nat.le_of_ble_eq_true rfl, Nat.le_of_ble_eq_true rfl⟩) hl.1 rfl rfl (Nat.le_of_ble_eq_true rfl) dX6_share_85 ⟨Nat.zero_le _, Nat.zero_le _⟩ (fun H locs hP hS => ?_)
            obtain ⟨h8, hf⟩ := gd_some hf
            refine x_lald S hK hP 1 (by decide) m1 h8 dX6_share_88 ?_
            cases hf
            exact r_l S hr hlk hP hS dX6_share_89
          · replace hf := iff_ h7 hf
            by_cases h9 : a2 = (11 : Int32)
            · replace hf := ift h9 hf
              refine lv_tableIn (tgt := 90) (off := 65) S.1 S.2.1 dX6_share_25 (by rw [h9]; decide) (by rw [h9]; decide) (by rw [h9]; rfl) (by decide) ?_
              refine lv_aload_n S.1 S.2.1 dX6_share_90 rfl (lv_at hl 0 rfl) ?_
              refine lv_iload_n S.1 S.2.1 dX6_share_91 rfl (lv_at hl 1 rfl) ?_
              obtain ⟨x10, gx10, hf⟩ := bn1_some hf
              refine y_Vi (As := [.int a1]) S hK hN hP hS rfl (by decide) m0 rfl (K_X6_stands l E ad hI _ N a1  M x10 gx10) (cV 1 S w_co_yX6_stands w_in_X6 w_ml_X6_117 w_im_yX6_stands w_se_yX6_stands hd_X6_stands ⟨Nat.le_of_ble_eq_true rfl, Nat.le_of_ble_eq_true rfl⟩) hl.1 rfl rfl (Nat.le_of_ble_eq_true rfl) dX6_share_92 ⟨Nat.zero_le _, Nat.zero_le _⟩ (fun H locs hP hS => ?_)
              refine lv_i2l (v := x10.toInt64) S.1 S.2.1 dX6_share_95 rfl ?_
              cases hf
              exact r_l S hr hlk hP hS dX6_share_96
            · replace hf := iff_ h9 hf
              by_cases h11 : a2 = (12 : Int32)
              · replace hf := ift h11 hf
                refine lv_tableIn (tgt := 97) (off := 72) S.1 S.2.1 dX6_share_25 (by rw [h11]; decide) (by rw [h11]; decide) (by rw [h11]; rfl) (by decide) ?_
                refine lv_aload_n S.1 S.2.1 dX6_share_97 rfl (lv_at hl 0 rfl) ?_
                refine x_get (v := .ref (ad 1)) S hK hP w_lay_X6 (ci := 6) rfl 0 (by decide) m0 0 (by decide) w_fl_X6_7 rfl rfl dX6_share_98 ?_
                refine lv_iload_n S.1 S.2.1 dX6_share_101 rfl (lv_at hl 1 rfl) ?_
                refine lv_bipush (v := (12 : Int32)) S.1 S.2.1 dX6_share_102 (by decide) ?_
                refine y_Si (As := [.int a1, .int (12 : Int32)]) S hK hN hP hS rfl (K_X6_part l E ad hI _ a1 (12 : Int32)  M _ rfl) (cS 2 S w_co_yX6_part w_in_X6 w_ml_X6_89 w_st_yX6_part hd_X6_part ⟨Nat.le_of_ble_eq_true rfl, Nat.le_of_ble_eq_true rfl⟩) hl.1 rfl rfl (Nat.le_of_ble_eq_true rfl) dX6_share_104 ⟨Nat.zero_le _, Nat.zero_le _⟩ (fun H locs hP hS => ?_)
                obtain ⟨h12, hf⟩ := gd_some hf
                refine x_lald S hK hP 1 (by decide) m1 h12 dX6_share_107 ?_
                cases hf
                exact r_l S hr hlk hP hS dX6_share_108
              · replace hf := iff_ h11 hf
                refine lv_tableOut (tgt := 109) S.1 S.2.1 dX6_share_25 (by have q8 := swn h3 (show ((8 : Int32) : Int32).toInt = 8 from rfl); have q9 := swn h5 (show ((9 : Int32) : Int32).toInt = 9 from rfl); have q10 := swn h7 (show ((10 : Int32) : Int32).toInt = 10 from rfl); have q11 := swn h9 (show ((11 : Int32) : Int32).toInt = 11 from rfl); have q12 := swn h11 (show ((12 : Int32) : Int32).toInt = 12 from rfl); omega) (by decide) ?_
                refine lv_aload_n S.1 S.2.1 dX6_share_109 rfl (lv_at hl 0 rfl) ?_
                refine x_get (v := .ref (ad 1)) S hK hP w_lay_X6 (ci := 6) rfl 0 (by decide) m0 0 (by decide) w_fl_X6_7 rfl rfl dX6_share_110 ?_
                refine lv_iload_n S.1 S.2.1 dX6_share_113 rfl (lv_at hl 1 rfl) ?_
                refine lv_iload_n S.1 S.2.1 dX6_share_114 rfl (lv_at hl 2 rfl) ?_
                refine y_Si (As := [.int a1, .int a2]) S hK hN hP hS rfl (K_X6_part l E ad hI _ a1 a2  M _ rfl) (cS 2 S w_co_yX6_part w_in_X6 w_ml_X6_89 w_st_yX6_part hd_X6_part ⟨Nat.le_of_ble_eq_true rfl, Nat.le_of_ble_eq_true rfl⟩) hl.1 rfl rfl (Nat.le_of_ble_eq_true rfl) dX6_share_115 ⟨Nat.zero_le _, Nat.zero_le _⟩ (fun H locs hP hS => ?_)
                obtain ⟨h13, hf⟩ := gd_some hf
                refine x_lald S hK hP 1 (by decide) m1 h13 dX6_share_118 ?_
                cases hf
                exact r_l S hr hlk hP hS dX6_share_119
    · replace hf := ift h2 hf
      refine lv_ldc2 (own := "SurvivorPurseModel") (v := (-1000000000000000 : Int64)) S.1 S.2.1 S.2.2.2.1 (S.2.2.2.2 _ w_kl_X6_41) dX6_share_20 ?_
      cases hf
      exact r_l S hr hlk hP hS dX6_share_23
theorem hd_X6_drew : yX6_drew.cls ≠ "java/lang/invoke/MethodHandle" ∧ yX6_drew.cls ≠ "java/lang/invoke/VarHandle" ∧ (parseMethodDescriptor yX6_drew.desc).map (fun d => d.parameters.length) = some 2 := by decide +kernel
set_option maxHeartbeats 4000000 in
set_option maxRecDepth 100000 in
theorem K_X6_drew (l : Launch) (E : EE) (ad : Nat → Nat) (hI : ad_I ad 7) (sz : Nat) (N : Nat) (a1 : Int32) (a2 : Int32)  (M : MM) (r : Int64) (hf : F_X6_drew N a1 a2 M = some r) : CtL l yX6_drew cX6_drew 3 2 46 E (entM E ad M) (entM E ad M) ad 7 sz [.ref (ad 0), .int a1, .int a2] (r) := by
  unfold CtL
  refine body_of (by decide) "SurvivorPurseModel" rfl (Nat.le_of_ble_eq_true rfl) ?_
  intro p e s m below meth c hsz S hr hlk hP hK hN ls hl
  subst hsz
  have hS : va_S (AA ad 7 s.heap.size) s.heap s.heap [] := va_S.rf
  have hl : lv_has ls 3 [(0, .ref (ad 0)), (1, .int a1), (2, .int a2)] := hl
  rw [F_X6_drew] at hf
  refine lv_aload_n S.1 S.2.1 dX6_drew_0 rfl (lv_at hl 0 rfl) ?_
  refine lv_iload_n S.1 S.2.1 dX6_drew_1 rfl (lv_at hl 1 rfl) ?_
  refine y_Vi (As := [.int a1]) S hK hN hP hS rfl (by decide) m0 rfl (K_X6_isShare l E ad hI _ a1  M _ rfl) (cV 1 S w_co_yX6_isShare w_in_X6 w_ml_X6_92 w_im_yX6_isShare w_se_yX6_isShare hd_X6_isShare ⟨Nat.le_of_ble_eq_true rfl, Nat.le_of_ble_eq_true rfl⟩) hl.1 rfl rfl (Nat.le_of_ble_eq_true rfl) dX6_drew_2 ⟨Nat.zero_le _, Nat.zero_le _⟩ (fun H locs hP hS => ?_)
  refine lv_if_eq (tgt := 45) S.1 S.2.1 dX6_drew_5 (by decide) (fun h1 => ?_) (fun h1 => ?_)
  · replace hf := ift h1 hf
    refine lv_ldc2 (own := "SurvivorPurseModel") (v := (-1000000000000000 : Int64)) S.1 S.2.1 S.2.2.2.1 (S.2.2.2.2 _ w_kl_X6_41) dX6_drew_45 ?_
    cases hf
    exact r_l S hr hlk hP hS dX6_drew_48
  · replace hf := iff_ h1 hf
    refine lv_iload_n S.1 S.2.1 dX6_drew_8 rfl (lv_at hl 2 rfl) ?_
    refine lv_i2l (v := a2.toInt64) S.1 S.2.1 dX6_drew_9 rfl ?_
    refine lv_lconst (v := (0 : Int64)) S.1 S.2.1 dX6_drew_10 (by decide) ?_
    refine lv_aload_n S.1 S.2.1 dX6_drew_11 rfl (lv_at hl 0 rfl) ?_
    refine x_get (v := .ref (ad 1)) S hK hP w_lay_X6 (ci := 6) rfl 0 (by decide) m0 0 (by decide) w_fl_X6_7 rfl rfl dX6_drew_12 ?_
    refine lv_sipush (v := (5663 : Int32)) S.1 S.2.1 dX6_drew_15 (by decide) ?_
    refine x_laldc (j := 5663) S hK hP 1 (by decide) m1 (by decide) (by decide) dX6_drew_18 ?_
    refine lv_lconst (v := (1 : Int64)) S.1 S.2.1 dX6_drew_19 (by decide) ?_
    refine lv_lsub S.1 S.2.1 dX6_drew_20 ?_
    refine y_Si (As := [.long a2.toInt64, .long (0 : Int64), .long ((gL M 1 5663) - (1 : Int64))]) S hK hN hP hS rfl (K_X6_in l E ad hI _ a2.toInt64 (0 : Int64) ((gL M 1 5663) - (1 : Int64))  M _ rfl) (cS 3 S w_co_yX6_in w_in_X6 w_ml_X6_35 w_st_yX6_in hd_X6_in ⟨Nat.le_of_ble_eq_true rfl, Nat.le_of_ble_eq_true rfl⟩) hl.1 rfl rfl (Nat.le_of_ble_eq_true rfl) dX6_drew_21 ⟨Nat.zero_le _, Nat.zero_le _⟩ (fun H locs hP hS => ?_)
    refine lv_if_eq (tgt := 45) S.1 S.2.1 dX6_drew_24 (by decide) (fun h2 => ?_) (fun h2 => ?_)
    · replace hf := ift h2 hf
      refine lv_ldc2 (own := "SurvivorPurseModel") (v := (-1000000000000000 : Int64)) S.1 S.2.1 S.2.2.2.1 (S.2.2.2.2 _ w_kl_X6_41) dX6_drew_45 ?_
      cases hf
      exact r_l S hr hlk hP hS dX6_drew_48
    · replace hf := iff_ h2 hf
      refine lv_aload_n S.1 S.2.1 dX6_drew_27 rfl (lv_at hl 0 rfl) ?_
      refine x_get (v := .ref (ad 1)) S hK hP w_lay_X6 (ci := 6) rfl 0 (by decide) m0 0 (by decide) w_fl_X6_7 rfl rfl dX6_drew_28 ?_
      refine lv_sipush (v := (863 : Int32)) S.1 S.2.1 dX6_drew_31 (by decide) ?_
      refine lv_bipush (v := (60 : Int32)) S.1 S.2.1 dX6_drew_34 (by decide) ?_
      refine lv_iload_n S.1 S.2.1 dX6_drew_36 rfl (lv_at hl 1 rfl) ?_
      refine lv_imul S.1 S.2.1 dX6_drew_37 ?_
      refine lv_iadd S.1 S.2.1 dX6_drew_38 ?_
      refine lv_iload_n S.1 S.2.1 dX6_drew_39 rfl (lv_at hl 2 rfl) ?_
      refine lv_iadd S.1 S.2.1 dX6_drew_40 ?_
      obtain ⟨h3, hf⟩ := gd_some hf
      refine x_lald S hK hP 1 (by decide) m1 h3 dX6_drew_41 ?_
      refine lv_goto (tgt := 48) S.1 S.2.1 dX6_drew_42 (by decide) ?_
      cases hf
      exact r_l S hr hlk hP hS dX6_drew_48
theorem hd_X6_pays : yX6_pays.cls ≠ "java/lang/invoke/MethodHandle" ∧ yX6_pays.cls ≠ "java/lang/invoke/VarHandle" ∧ (parseMethodDescriptor yX6_pays.desc).map (fun d => d.parameters.length) = some 2 := by decide +kernel
set_option maxHeartbeats 4000000 in
set_option maxRecDepth 100000 in
theorem K_X6_pays (l : Launch) (E : EE) (ad : Nat → Nat) (hI : ad_I ad 7) (sz : Nat) (N : Nat) (a1 : Int32) (a2 : Int64)  (M : MM) (M' : MM) (hf : F_X6_pays N a1 a2 M = some M') : CtV l yX6_pays cX6_pays 13 1 21 E (entM E ad M) (entM E ad M') ad 7 sz [.ref (ad 0), .int a1, .long a2] := by
  unfold CtV
  refine body_of (by decide) "SurvivorPurseModel" rfl (Nat.le_of_ble_eq_true rfl) ?_
  intro p e s m below meth c hsz S hr hlk hP hK hN ls hl
  subst hsz
  have hS : va_S (AA ad 7 s.heap.size) s.heap s.heap [] := va_S.rf
  have hl : lv_has ls 13 [(0, .ref (ad 0)), (1, .int a1), (2, .long a2)] := hl
  rw [F_X6_pays] at hf
  refine lv_lload_n S.1 S.2.1 dX6_pays_0 rfl (lv_at hl 2 rfl) ?_
  refine lv_aload_n S.1 S.2.1 dX6_pays_1 rfl (lv_at hl 0 rfl) ?_
  refine x_get (v := .ref (ad 1)) S hK hP w_lay_X6 (ci := 6) rfl 0 (by decide) m0 0 (by decide) w_fl_X6_7 rfl rfl dX6_pays_2 ?_
  refine lv_sipush (v := (5667 : Int32)) S.1 S.2.1 dX6_pays_5 (by decide) ?_
  refine x_laldc (j := 5667) S hK hP 1 (by decide) m1 (by decide) (by decide) dX6_pays_8 ?_
  refine lv_lmul S.1 S.2.1 dX6_pays_9 ?_
  refine lv_ldc2 (own := "SurvivorPurseModel") (v := (1000 : Int64)) S.1 S.2.1 S.2.2.2.1 (S.2.2.2.2 _ w_kl_X6_45) dX6_pays_10 ?_
  refine lv_ldiv S.1 S.2.1 dX6_pays_13 (by decide) ?_
  obtain ⟨x1, ex1, hf⟩ := bnd_some hf
  refine lv_rel ex1 ?_
  refine lv_lstore (lv' := [(4, .long x1), (0, .ref (ad 0)), (1, .int a1), (2, .long a2)]) S.1 S.2.1 dX6_pays_14 hl (by decide) rfl (fun ls hl => ?_)
  refine lv_aload_n S.1 S.2.1 dX6_pays_16 rfl (lv_at hl 1 rfl) ?_
  refine x_get (v := .ref (ad 1)) S hK hP w_lay_X6 (ci := 6) rfl 0 (by decide) m0 0 (by decide) w_fl_X6_7 rfl rfl dX6_pays_17 ?_
  refine lv_sipush (v := (5665 : Int32)) S.1 S.2.1 dX6_pays_20 (by decide) ?_
  refine lv_dup2_11 S.1 S.2.1 dX6_pays_23 rfl rfl ?_
  refine x_laldc (j := 5665) S hK hP 1 (by decide) m1 (by decide) (by decide) dX6_pays_24 ?_
  refine lv_lload S.1 S.2.1 dX6_pays_25 (lv_at hl 0 rfl) ?_
  refine lv_ladd S.1 S.2.1 dX6_pays_27 ?_
  refine x_lastc (j := 5665) S hI hK hP hS 1 (by decide) m1 (by decide) (by decide) (entM E ad (sL M 1 5665 ((gL M 1 5665) + x1))) n1 (fun _ h => entM_sL _ h) dX6_pays_28 (fun H locs hP hS => ?_)
  obtain ⟨M2, eM2, hf⟩ := bnd_some hf
  rw [← eM2] at hP
  refine lv_lload_n S.1 S.2.1 dX6_pays_29 rfl (lv_at hl 3 rfl) ?_
  refine lv_lload S.1 S.2.1 dX6_pays_30 (lv_at hl 0 rfl) ?_
  refine lv_lsub S.1 S.2.1 dX6_pays_32 ?_
  obtain ⟨x3, ex3, hf⟩ := bnd_some hf
  refine lv_rel ex3 ?_
  refine lv_lstore (lv' := [(6, .long x3), (4, .long x1), (0, .ref (ad 0)), (1, .int a1), (2, .long a2)]) S.1 S.2.1 dX6_pays_33 hl (by decide) rfl (fun ls hl => ?_)
  refine lv_aload_n S.1 S.2.1 dX6_pays_35 rfl (lv_at hl 2 rfl) ?_
  refine x_get (v := .ref (ad 1)) S hK hP w_lay_X6 (ci := 6) rfl 0 (by decide) m0 0 (by decide) w_fl_X6_7 rfl rfl dX6_pays_36 ?_
  refine lv_iload_n S.1 S.2.1 dX6_pays_39 rfl (lv_at hl 3 rfl) ?_
  refine lv_iconst (v := (0 : Int32)) S.1 S.2.1 dX6_pays_40 (by decide) ?_
  refine y_Si (As := [.int a1, .int (0 : Int32)]) S hK hN hP hS rfl (K_X6_part l E ad hI _ a1 (0 : Int32)  M2 _ rfl) (cS 2 S w_co_yX6_part w_in_X6 w_ml_X6_89 w_st_yX6_part hd_X6_part ⟨Nat.le_of_ble_eq_true rfl, Nat.le_of_ble_eq_true rfl⟩) hl.1 rfl rfl (Nat.le_of_ble_eq_true rfl) dX6_pays_41 ⟨Nat.zero_le _, Nat.zero_le _⟩ (fun H locs hP hS => ?_)
  obtain ⟨h4, hf⟩ := gd_some hf
  refine x_lald S hK hP 1 (by decide) m1 h4 dX6_pays_44 ?_
  refine lv_l2i (v := (gL M2 1 (ix (F_X6_part a1 (0 : Int32)))).toInt32) S.1 S.2.1 dX6_pays_45 rfl ?_
  refine lv_iconst (v := (2 : Int32)) S.1 S.2.1 dX6_pays_46 (by decide) ?_
  refine y_Si (As := [.int ((gL M2 1 (ix (F_X6_part a1 (0 : Int32)))).toInt32), .int (2 : Int32)]) S hK hN hP hS rfl (K_X6_cellOf l E ad hI _ ((gL M2 1 (ix (F_X6_part a1 (0 : Int32)))).toInt32) (2 : Int32)  M2 _ rfl) (cS 2 S w_co_yX6_cellOf w_in_X6 w_ml_X6_63 w_st_yX6_cellOf hd_X6_cellOf ⟨Nat.le_of_ble_eq_true rfl, Nat.le_of_ble_eq_true rfl⟩) hl.1 rfl rfl (Nat.le_of_ble_eq_true rfl) dX6_pays_47 ⟨Nat.zero_le _, Nat.zero_le _⟩ (fun H locs hP hS => ?_)
  obtain ⟨x5, ex5, hf⟩ := bnd_some hf
  refine lv_rei ex5 ?_
  refine lv_istore (lv' := [(8, .int x5), (6, .long x3), (4, .long x1), (0, .ref (ad 0)), (1, .int a1), (2, .long a2)]) S.1 S.2.1 dX6_pays_50 hl (by decide) rfl (fun ls hl => ?_)
  refine lv_aload_n S.1 S.2.1 dX6_pays_52 rfl (lv_at hl 3 rfl) ?_
  refine x_get (v := .ref (ad 1)) S hK hP w_lay_X6 (ci := 6) rfl 0 (by decide) m0 0 (by decide) w_fl_X6_7 rfl rfl dX6_pays_53 ?_
  refine lv_iload S.1 S.2.1 dX6_pays_56 (lv_at hl 0 rfl) ?_
  obtain ⟨h6, hf⟩ := gd_some hf
  refine x_lald S hK hP 1 (by decide) m1 h6 dX6_pays_58 ?_
  refine lv_lload S.1 S.2.1 dX6_pays_59 (lv_at hl 1 rfl) ?_
  refine ll_ge (tgt := 75) S dX6_pays_61 dX6_pays_62 (by decide) (fun h7 => ?_) (fun h7 => ?_)
  · replace hf := ift h7 hf
    refine lv_lload S.1 S.2.1 dX6_pays_75 (lv_at hl 1 rfl) ?_
    refine lv_lstore (lv' := [(9, .long x3), (8, .int x5), (6, .long x3), (4, .long x1), (0, .ref (ad 0)), (1, .int a1), (2, .long a2)]) S.1 S.2.1 dX6_pays_77 hl (by decide) rfl (fun ls hl => ?_)
    refine lv_aload_n S.1 S.2.1 dX6_pays_79 rfl (lv_at hl 4 rfl) ?_
    refine x_get (v := .ref (ad 1)) S hK hP w_lay_X6 (ci := 6) rfl 0 (by decide) m0 0 (by decide) w_fl_X6_7 rfl rfl dX6_pays_80 ?_
    refine lv_iload S.1 S.2.1 dX6_pays_83 (lv_at hl 1 rfl) ?_
    refine lv_dup2_11 S.1 S.2.1 dX6_pays_85 rfl rfl ?_
    refine x_lald S hK hP 1 (by decide) m1 h6 dX6_pays_86 ?_
    refine lv_lload S.1 S.2.1 dX6_pays_87 (lv_at hl 0 rfl) ?_
    refine lv_lsub S.1 S.2.1 dX6_pays_89 ?_
    refine x_last S hI hK hP hS 1 (by decide) m1 h6 (entM E ad (sL M2 1 (ix x5) ((gL M2 1 (ix x5)) - x3))) n1 (fun _ h => entM_sL _ h) dX6_pays_90 (fun H locs hP hS => ?_)
    obtain ⟨M8, eM8, hf⟩ := bnd_some hf
    rw [← eM8] at hP
    refine lv_aload_n S.1 S.2.1 dX6_pays_91 rfl (lv_at hl 4 rfl) ?_
    refine x_get (v := .ref (ad 1)) S hK hP w_lay_X6 (ci := 6) rfl 0 (by decide) m0 0 (by decide) w_fl_X6_7 rfl rfl dX6_pays_92 ?_
    refine lv_sipush (v := (5664 : Int32)) S.1 S.2.1 dX6_pays_95 (by decide) ?_
    refine lv_dup2_11 S.1 S.2.1 dX6_pays_98 rfl rfl ?_
    refine x_laldc (j := 5664) S hK hP 1 (by decide) m1 (by decide) (by decide) dX6_pays_99 ?_
    refine lv_lload S.1 S.2.1 dX6_pays_100 (lv_at hl 0 rfl) ?_
    refine lv_ladd S.1 S.2.1 dX6_pays_102 ?_
    refine x_lastc (j := 5664) S hI hK hP hS 1 (by decide) m1 (by decide) (by decide) (entM E ad (sL M8 1 5664 ((gL M8 1 5664) + x3))) n1 (fun _ h => entM_sL _ h) dX6_pays_103 (fun H locs hP hS => ?_)
    obtain ⟨M9, eM9, hf⟩ := bnd_some hf
    rw [← eM9] at hP
    refine lv_lload S.1 S.2.1 dX6_pays_104 (lv_at hl 2 rfl) ?_
    refine lv_lload S.1 S.2.1 dX6_pays_106 (lv_at hl 0 rfl) ?_
    refine lv_lsub S.1 S.2.1 dX6_pays_108 ?_
    obtain ⟨x10, ex10, hf⟩ := bnd_some hf
    refine lv_rel ex10 ?_
    refine lv_lstore (lv' := [(6, .long x10), (9, .long x3), (8, .int x5), (4, .long x1), (0, .ref (ad 0)), (1, .int a1), (2, .long a2)]) S.1 S.2.1 dX6_pays_109 hl (by decide) rfl (fun ls hl => ?_)
    refine lv_aload_n S.1 S.2.1 dX6_pays_111 rfl (lv_at hl 4 rfl) ?_
    refine x_get (v := .ref (ad 1)) S hK hP w_lay_X6 (ci := 6) rfl 0 (by decide) m0 0 (by decide) w_fl_X6_7 rfl rfl dX6_pays_112 ?_
    refine lv_iload_n S.1 S.2.1 dX6_pays_115 rfl (lv_at hl 5 rfl) ?_
    refine lv_bipush (v := (12 : Int32)) S.1 S.2.1 dX6_pays_116 (by decide) ?_
    refine y_Si (As := [.int a1, .int (12 : Int32)]) S hK hN hP hS rfl (K_X6_part l E ad hI _ a1 (12 : Int32)  M9 _ rfl) (cS 2 S w_co_yX6_part w_in_X6 w_ml_X6_89 w_st_yX6_part hd_X6_part ⟨Nat.le_of_ble_eq_true rfl, Nat.le_of_ble_eq_true rfl⟩) hl.1 rfl rfl (Nat.le_of_ble_eq_true rfl) dX6_pays_118 ⟨Nat.zero_le _, Nat.zero_le _⟩ (fun H locs hP hS => ?_)
    obtain ⟨h11, hf⟩ := gd_some hf
    refine x_lald S hK hP 1 (by decide) m1 h11 dX6_pays_121 ?_
    refine lv_lload S.1 S.2.1 dX6_pays_122 (lv_at hl 0 rfl) ?_
    refine ll_ge (tgt := 142) S dX6_pays_124 dX6_pays_125 (by decide) (fun h12 => ?_) (fun h12 => ?_)
    · replace hf := ift h12 hf
      refine lv_lload S.1 S.2.1 dX6_pays_142 (lv_at hl 0 rfl) ?_
      refine lv_lstore (lv' := [(11, .long x10), (6, .long x10), (9, .long x3), (8, .int x5), (4, .long x1), (0, .ref (ad 0)), (1, .int a1), (2, .long a2)]) S.1 S.2.1 dX6_pays_144 hl (by decide) rfl (fun ls hl => ?_)
      refine lv_aload_n S.1 S.2.1 dX6_pays_146 rfl (lv_at hl 5 rfl) ?_
      refine x_get (v := .ref (ad 1)) S hK hP w_lay_X6 (ci := 6) rfl 0 (by decide) m0 0 (by decide) w_fl_X6_7 rfl rfl dX6_pays_147 ?_
      refine lv_iload_n S.1 S.2.1 dX6_pays_150 rfl (lv_at hl 6 rfl) ?_
      refine lv_bipush (v := (12 : Int32)) S.1 S.2.1 dX6_pays_151 (by decide) ?_
      refine y_Si (As := [.int a1, .int (12 : Int32)]) S hK hN hP hS rfl (K_X6_part l E ad hI _ a1 (12 : Int32)  M9 _ rfl) (cS 2 S w_co_yX6_part w_in_X6 w_ml_X6_89 w_st_yX6_part hd_X6_part ⟨Nat.le_of_ble_eq_true rfl, Nat.le_of_ble_eq_true rfl⟩) hl.1 rfl rfl (Nat.le_of_ble_eq_true rfl) dX6_pays_153 ⟨Nat.zero_le _, Nat.zero_le _⟩ (fun H locs hP hS => ?_)
      refine lv_dup2_11 S.1 S.2.1 dX6_pays_156 rfl rfl ?_
      refine x_lald S hK hP 1 (by decide) m1 h11 dX6_pays_157 ?_
      refine lv_lload S.1 S.2.1 dX6_pays_158 (lv_at hl 0 rfl) ?_
      refine lv_lsub S.1 S.2.1 dX6_pays_160 ?_
      refine x_last S hI hK hP hS 1 (by decide) m1 h11 (entM E ad (sL M9 1 (ix (F_X6_part a1 (12 : Int32))) ((gL M9 1 (ix (F_X6_part a1 (12 : Int32)))) - x10))) n1 (fun _ h => entM_sL _ h) dX6_pays_161 (fun H locs hP hS => ?_)
      obtain ⟨M13, eM13, hf⟩ := bnd_some hf
      rw [← eM13] at hP
      refine lv_aload_n S.1 S.2.1 dX6_pays_162 rfl (lv_at hl 5 rfl) ?_
      refine x_get (v := .ref (ad 1)) S hK hP w_lay_X6 (ci := 6) rfl 0 (by decide) m0 0 (by decide) w_fl_X6_7 rfl rfl dX6_pays_163 ?_
      refine lv_aload_n S.1 S.2.1 dX6_pays_166 rfl (lv_at hl 5 rfl) ?_
      refine x_get (v := .ref (ad 1)) S hK hP w_lay_X6 (ci := 6) rfl 0 (by decide) m0 0 (by decide) w_fl_X6_7 rfl rfl dX6_pays_167 ?_
      refine lv_iload_n S.1 S.2.1 dX6_pays_170 rfl (lv_at hl 6 rfl) ?_
      refine lv_bipush (v := (11 : Int32)) S.1 S.2.1 dX6_pays_171 (by decide) ?_
      refine y_Si (As := [.int a1, .int (11 : Int32)]) S hK hN hP hS rfl (K_X6_part l E ad hI _ a1 (11 : Int32)  M13 _ rfl) (cS 2 S w_co_yX6_part w_in_X6 w_ml_X6_89 w_st_yX6_part hd_X6_part ⟨Nat.le_of_ble_eq_true rfl, Nat.le_of_ble_eq_true rfl⟩) hl.1 rfl rfl (Nat.le_of_ble_eq_true rfl) dX6_pays_173 ⟨Nat.zero_le _, Nat.zero_le _⟩ (fun H locs hP hS => ?_)
      obtain ⟨h14, hf⟩ := gd_some hf
      refine x_lald S hK hP 1 (by decide) m1 h14 dX6_pays_176 ?_
      refine lv_l2i (v := (gL M13 1 (ix (F_X6_part a1 (11 : Int32)))).toInt32) S.1 S.2.1 dX6_pays_177 rfl ?_
      refine lv_iconst (v := (1 : Int32)) S.1 S.2.1 dX6_pays_178 (by decide) ?_
      refine y_Si (As := [.int ((gL M13 1 (ix (F_X6_part a1 (11 : Int32)))).toInt32), .int (1 : Int32)]) S hK hN hP hS rfl (K_X6_cellOf l E ad hI _ ((gL M13 1 (ix (F_X6_part a1 (11 : Int32)))).toInt32) (1 : Int32)  M13 _ rfl) (cS 2 S w_co_yX6_cellOf w_in_X6 w_ml_X6_63 w_st_yX6_cellOf hd_X6_cellOf ⟨Nat.le_of_ble_eq_true rfl, Nat.le_of_ble_eq_true rfl⟩) hl.1 rfl rfl (Nat.le_of_ble_eq_true rfl) dX6_pays_179 ⟨Nat.zero_le _, Nat.zero_le _⟩ (fun H locs hP hS => ?_)
      refine lv_dup2_11 S.1 S.2.1 dX6_pays_182 rfl rfl ?_
      obtain ⟨h15, hf⟩ := gd_some hf
      refine x_lald S hK hP 1 (by decide) m1 h15 dX6_pays_183 ?_
      refine lv_lload S.1 S.2.1 dX6_pays_184 (lv_at hl 0 rfl) ?_
      refine lv_ladd S.1 S.2.1 dX6_pays_186 ?_
      refine x_last S hI hK hP hS 1 (by decide) m1 h15 (entM E ad (sL M13 1 (ix (F_X6_cellOf ((gL M13 1 (ix (F_X6_part a1 (11 : Int32)))).toInt32) (1 : Int32))) ((gL M13 1 (ix (F_X6_cellOf ((gL M13 1 (ix (F_X6_part a1 (11 : Int32)))).toInt32) (1 : Int32)))) + x10))) n1 (fun _ h => entM_sL _ h) dX6_pays_187 (fun H locs hP hS => ?_)
      obtain ⟨M16, eM16, hf⟩ := bnd_some hf
      rw [← eM16] at hP
      refine lv_lload S.1 S.2.1 dX6_pays_188 (lv_at hl 1 rfl) ?_
      refine lv_lload S.1 S.2.1 dX6_pays_190 (lv_at hl 0 rfl) ?_
      refine lv_lsub S.1 S.2.1 dX6_pays_192 ?_
      obtain ⟨x17, ex17, hf⟩ := bnd_some hf
      refine lv_rel ex17 ?_
      refine lv_lstore (lv' := [(6, .long x17), (11, .long x10), (9, .long x3), (8, .int x5), (4, .long x1), (0, .ref (ad 0)), (1, .int a1), (2, .long a2)]) S.1 S.2.1 dX6_pays_193 hl (by decide) rfl (fun ls hl => ?_)
      refine lv_aload_n S.1 S.2.1 dX6_pays_195 rfl (lv_at hl 5 rfl) ?_
      refine x_get (v := .ref (ad 1)) S hK hP w_lay_X6 (ci := 6) rfl 0 (by decide) m0 0 (by decide) w_fl_X6_7 rfl rfl dX6_pays_196 ?_
      refine lv_aload_n S.1 S.2.1 dX6_pays_199 rfl (lv_at hl 5 rfl) ?_
      refine x_get (v := .ref (ad 1)) S hK hP w_lay_X6 (ci := 6) rfl 0 (by decide) m0 0 (by decide) w_fl_X6_7 rfl rfl dX6_pays_200 ?_
      refine lv_iload_n S.1 S.2.1 dX6_pays_203 rfl (lv_at hl 6 rfl) ?_
      refine lv_iconst (v := (0 : Int32)) S.1 S.2.1 dX6_pays_204 (by decide) ?_
      refine y_Si (As := [.int a1, .int (0 : Int32)]) S hK hN hP hS rfl (K_X6_part l E ad hI _ a1 (0 : Int32)  M16 _ rfl) (cS 2 S w_co_yX6_part w_in_X6 w_ml_X6_89 w_st_yX6_part hd_X6_part ⟨Nat.le_of_ble_eq_true rfl, Nat.le_of_ble_eq_true rfl⟩) hl.1 rfl rfl (Nat.le_of_ble_eq_true rfl) dX6_pays_205 ⟨Nat.zero_le _, Nat.zero_le _⟩ (fun H locs hP hS => ?_)
      refine x_lald S hK hP 1 (by decide) m1 h4 dX6_pays_208 ?_
      refine lv_l2i (v := (gL M16 1 (ix (F_X6_part a1 (0 : Int32)))).toInt32) S.1 S.2.1 dX6_pays_209 rfl ?_
      refine lv_iconst (v := (1 : Int32)) S.1 S.2.1 dX6_pays_210 (by decide) ?_
      refine y_Si (As := [.int ((gL M16 1 (ix (F_X6_part a1 (0 : Int32)))).toInt32), .int (1 : Int32)]) S hK hN hP hS rfl (K_X6_cellOf l E ad hI _ ((gL M16 1 (ix (F_X6_part a1 (0 : Int32)))).toInt32) (1 : Int32)  M16 _ rfl) (cS 2 S w_co_yX6_cellOf w_in_X6 w_ml_X6_63 w_st_yX6_cellOf hd_X6_cellOf ⟨Nat.le_of_ble_eq_true rfl, Nat.le_of_ble_eq_true rfl⟩) hl.1 rfl rfl (Nat.le_of_ble_eq_true rfl) dX6_pays_211 ⟨Nat.zero_le _, Nat.zero_le _⟩ (fun H locs hP hS => ?_)
      refine lv_dup2_11 S.1 S.2.1 dX6_pays_214 rfl rfl ?_
      obtain ⟨h18, hf⟩ := gd_some hf
      refine x_lald S hK hP 1 (by decide) m1 h18 dX6_pays_215 ?_
      refine lv_lload S.1 S.2.1 dX6_pays_216 (lv_at hl 0 rfl) ?_
      refine lv_ladd S.1 S.2.1 dX6_pays_218 ?_
      refine x_last S hI hK hP hS 1 (by decide) m1 h18 (entM E ad (sL M16 1 (ix (F_X6_cellOf ((gL M16 1 (ix (F_X6_part a1 (0 : Int32)))).toInt32) (1 : Int32))) ((gL M16 1 (ix (F_X6_cellOf ((gL M16 1 (ix (F_X6_part a1 (0 : Int32)))).toInt32) (1 : Int32)))) + x17))) n1 (fun _ h => entM_sL _ h) dX6_pays_219 (fun H locs hP hS => ?_)
      obtain ⟨M19, eM19, hf⟩ := bnd_some hf
      rw [← eM19] at hP
      refine lv_aload_n S.1 S.2.1 dX6_pays_220 rfl (lv_at hl 5 rfl) ?_
      refine x_get (v := .ref (ad 1)) S hK hP w_lay_X6 (ci := 6) rfl 0 (by decide) m0 0 (by decide) w_fl_X6_7 rfl rfl dX6_pays_221 ?_
      refine lv_iload_n S.1 S.2.1 dX6_pays_224 rfl (lv_at hl 6 rfl) ?_
      refine lv_bipush (v := (7 : Int32)) S.1 S.2.1 dX6_pays_225 (by decide) ?_
      refine y_Si (As := [.int a1, .int (7 : Int32)]) S hK hN hP hS rfl (K_X6_part l E ad hI _ a1 (7 : Int32)  M19 _ rfl) (cS 2 S w_co_yX6_part w_in_X6 w_ml_X6_89 w_st_yX6_part hd_X6_part ⟨Nat.le_of_ble_eq_true rfl, Nat.le_of_ble_eq_true rfl⟩) hl.1 rfl rfl (Nat.le_of_ble_eq_true rfl) dX6_pays_227 ⟨Nat.zero_le _, Nat.zero_le _⟩ (fun H locs hP hS => ?_)
      refine lv_dup2_11 S.1 S.2.1 dX6_pays_230 rfl rfl ?_
      obtain ⟨h20, hf⟩ := gd_some hf
      refine x_lald S hK hP 1 (by decide) m1 h20 dX6_pays_231 ?_
      refine lv_lload_n S.1 S.2.1 dX6_pays_232 rfl (lv_at hl 7 rfl) ?_
      refine lv_ladd S.1 S.2.1 dX6_pays_233 ?_
      refine x_last S hI hK hP hS 1 (by decide) m1 h20 (entM E ad (sL M19 1 (ix (F_X6_part a1 (7 : Int32))) ((gL M19 1 (ix (F_X6_part a1 (7 : Int32)))) + a2))) n1 (fun _ h => entM_sL _ h) dX6_pays_234 (fun H locs hP hS => ?_)
      obtain ⟨M21, eM21, hf⟩ := bnd_some hf
      rw [← eM21] at hP
      cases hf
      exact r_v S hr hlk hP hS dX6_pays_235
    · replace hf := iff_ h12 hf
      refine lv_aload_n S.1 S.2.1 dX6_pays_128 rfl (lv_at hl 4 rfl) ?_
      refine x_get (v := .ref (ad 1)) S hK hP w_lay_X6 (ci := 6) rfl 0 (by decide) m0 0 (by decide) w_fl_X6_7 rfl rfl dX6_pays_129 ?_
      refine lv_iload_n S.1 S.2.1 dX6_pays_132 rfl (lv_at hl 5 rfl) ?_
      refine lv_bipush (v := (12 : Int32)) S.1 S.2.1 dX6_pays_133 (by decide) ?_
      refine y_Si (As := [.int a1, .int (12 : Int32)]) S hK hN hP hS rfl (K_X6_part l E ad hI _ a1 (12 : Int32)  M9 _ rfl) (cS 2 S w_co_yX6_part w_in_X6 w_ml_X6_89 w_st_yX6_part hd_X6_part ⟨Nat.le_of_ble_eq_true rfl, Nat.le_of_ble_eq_true rfl⟩) hl.1 rfl rfl (Nat.le_of_ble_eq_true rfl) dX6_pays_135 ⟨Nat.zero_le _, Nat.zero_le _⟩ (fun H locs hP hS => ?_)
      refine x_lald S hK hP 1 (by decide) m1 h11 dX6_pays_138 ?_
      refine lv_goto (tgt := 144) S.1 S.2.1 dX6_pays_139 (by decide) ?_
      obtain ⟨x22, ex22, hf⟩ := bnd_some hf
      refine lv_rel ex22 ?_
      refine lv_lstore (lv' := [(11, .long x22), (6, .long x10), (9, .long x3), (8, .int x5), (4, .long x1), (0, .ref (ad 0)), (1, .int a1), (2, .long a2)]) S.1 S.2.1 dX6_pays_144 hl (by decide) rfl (fun ls hl => ?_)
      refine lv_aload_n S.1 S.2.1 dX6_pays_146 rfl (lv_at hl 5 rfl) ?_
      refine x_get (v := .ref (ad 1)) S hK hP w_lay_X6 (ci := 6) rfl 0 (by decide) m0 0 (by decide) w_fl_X6_7 rfl rfl dX6_pays_147 ?_
      refine lv_iload_n S.1 S.2.1 dX6_pays_150 rfl (lv_at hl 6 rfl) ?_
      refine lv_bipush (v := (12 : Int32)) S.1 S.2.1 dX6_pays_151 (by decide) ?_
      refine y_Si (As := [.int a1, .int (12 : Int32)]) S hK hN hP hS rfl (K_X6_part l E ad hI _ a1 (12 : Int32)  M9 _ rfl) (cS 2 S w_co_yX6_part w_in_X6 w_ml_X6_89 w_st_yX6_part hd_X6_part ⟨Nat.le_of_ble_eq_true rfl, Nat.le_of_ble_eq_true rfl⟩) hl.1 rfl rfl (Nat.le_of_ble_eq_true rfl) dX6_pays_153 ⟨Nat.zero_le _, Nat.zero_le _⟩ (fun H locs hP hS => ?_)
      refine lv_dup2_11 S.1 S.2.1 dX6_pays_156 rfl rfl ?_
      refine x_lald S hK hP 1 (by decide) m1 h11 dX6_pays_157 ?_
      refine lv_lload S.1 S.2.1 dX6_pays_158 (lv_at hl 0 rfl) ?_
      refine lv_lsub S.1 S.2.1 dX6_pays_160 ?_
      refine x_last S hI hK hP hS 1 (by decide) m1 h11 (entM E ad (sL M9 1 (ix (F_X6_part a1 (12 : Int32))) ((gL M9 1 (ix (F_X6_part a1 (12 : Int32)))) - x22))) n1 (fun _ h => entM_sL _ h) dX6_pays_161 (fun H locs hP hS => ?_)
      obtain ⟨M23, eM23, hf⟩ := bnd_some hf
      rw [← eM23] at hP
      refine lv_aload_n S.1 S.2.1 dX6_pays_162 rfl (lv_at hl 5 rfl) ?_
      refine x_get (v := .ref (ad 1)) S hK hP w_lay_X6 (ci := 6) rfl 0 (by decide) m0 0 (by decide) w_fl_X6_7 rfl rfl dX6_pays_163 ?_
      refine lv_aload_n S.1 S.2.1 dX6_pays_166 rfl (lv_at hl 5 rfl) ?_
      refine x_get (v := .ref (ad 1)) S hK hP w_lay_X6 (ci := 6) rfl 0 (by decide) m0 0 (by decide) w_fl_X6_7 rfl rfl dX6_pays_167 ?_
      refine lv_iload_n S.1 S.2.1 dX6_pays_170 rfl (lv_at hl 6 rfl) ?_
      refine lv_bipush (v := (11 : Int32)) S.1 S.2.1 dX6_pays_171 (by decide) ?_
      refine y_Si (As := [.int a1, .int (11 : Int32)]) S hK hN hP hS rfl (K_X6_part l E ad hI _ a1 (11 : Int32)  M23 _ rfl) (cS 2 S w_co_yX6_part w_in_X6 w_ml_X6_89 w_st_yX6_part hd_X6_part ⟨Nat.le_of_ble_eq_true rfl, Nat.le_of_ble_eq_true rfl⟩) hl.1 rfl rfl (Nat.le_of_ble_eq_true rfl) dX6_pays_173 ⟨Nat.zero_le _, Nat.zero_le _⟩ (fun H locs hP hS => ?_)
      obtain ⟨h24, hf⟩ := gd_some hf
      refine x_lald S hK hP 1 (by decide) m1 h24 dX6_pays_176 ?_
      refine lv_l2i (v := (gL M23 1 (ix (F_X6_part a1 (11 : Int32)))).toInt32) S.1 S.2.1 dX6_pays_177 rfl ?_
      refine lv_iconst (v := (1 : Int32)) S.1 S.2.1 dX6_pays_178 (by decide) ?_
      refine y_Si (As := [.int ((gL M23 1 (ix (F_X6_part a1 (11 : Int32)))).toInt32), .int (1 : Int32)]) S hK hN hP hS rfl (K_X6_cellOf l E ad hI _ ((gL M23 1 (ix (F_X6_part a1 (11 : Int32)))).toInt32) (1 : Int32)  M23 _ rfl) (cS 2 S w_co_yX6_cellOf w_in_X6 w_ml_X6_63 w_st_yX6_cellOf hd_X6_cellOf ⟨Nat.le_of_ble_eq_true rfl, Nat.le_of_ble_eq_true rfl⟩) hl.1 rfl rfl (Nat.le_of_ble_eq_true rfl) dX6_pays_179 ⟨Nat.zero_le _, Nat.zero_le _⟩ (fun H locs hP hS => ?_)
      refine lv_dup2_11 S.1 S.2.1 dX6_pays_182 rfl rfl ?_
      obtain ⟨h25, hf⟩ := gd_some hf
      refine x_lald S hK hP 1 (by decide) m1 h25 dX6_pays_183 ?_
      refine lv_lload S.1 S.2.1 dX6_pays_184 (lv_at hl 0 rfl) ?_
      refine lv_ladd S.1 S.2.1 dX6_pays_186 ?_
      refine x_last S hI hK hP hS 1 (by decide) m1 h25 (entM E ad (sL M23 1 (ix (F_X6_cellOf ((gL M23 1 (ix (F_X6_part a1 (11 : Int32)))).toInt32) (1 : Int32))) ((gL M23 1 (ix (F_X6_cellOf ((gL M23 1 (ix (F_X6_part a1 (11 : Int32)))).toInt32) (1 : Int32)))) + x22))) n1 (fun _ h => entM_sL _ h) dX6_pays_187 (fun H locs hP hS => ?_)
      obtain ⟨M26, eM26, hf⟩ := bnd_some hf
      rw [← eM26] at hP
      refine lv_lload S.1 S.2.1 dX6_pays_188 (lv_at hl 1 rfl) ?_
      refine lv_lload S.1 S.2.1 dX6_pays_190 (lv_at hl 0 rfl) ?_
      refine lv_lsub S.1 S.2.1 dX6_pays_192 ?_
      obtain ⟨x27, ex27, hf⟩ := bnd_some hf
      refine lv_rel ex27 ?_
      refine lv_lstore (lv' := [(6, .long x27), (11, .long x22), (9, .long x3), (8, .int x5), (4, .long x1), (0, .ref (ad 0)), (1, .int a1), (2, .long a2)]) S.1 S.2.1 dX6_pays_193 hl (by decide) rfl (fun ls hl => ?_)
      refine lv_aload_n S.1 S.2.1 dX6_pays_195 rfl (lv_at hl 5 rfl) ?_
      refine x_get (v := .ref (ad 1)) S hK hP w_lay_X6 (ci := 6) rfl 0 (by decide) m0 0 (by decide) w_fl_X6_7 rfl rfl dX6_pays_196 ?_
      refine lv_aload_n S.1 S.2.1 dX6_pays_199 rfl (lv_at hl 5 rfl) ?_
      refine x_get (v := .ref (ad 1)) S hK hP w_lay_X6 (ci := 6) rfl 0 (by decide) m0 0 (by decide) w_fl_X6_7 rfl rfl dX6_pays_200 ?_
      refine lv_iload_n S.1 S.2.1 dX6_pays_203 rfl (lv_at hl 6 rfl) ?_
      refine lv_iconst (v := (0 : Int32)) S.1 S.2.1 dX6_pays_204 (by decide) ?_
      refine y_Si (As := [.int a1, .int (0 : Int32)]) S hK hN hP hS rfl (K_X6_part l E ad hI _ a1 (0 : Int32)  M26 _ rfl) (cS 2 S w_co_yX6_part w_in_X6 w_ml_X6_89 w_st_yX6_part hd_X6_part ⟨Nat.le_of_ble_eq_true rfl, Nat.le_of_ble_eq_true rfl⟩) hl.1 rfl rfl (Nat.le_of_ble_eq_true rfl) dX6_pays_205 ⟨Nat.zero_le _, Nat.zero_le _⟩ (fun H locs hP hS => ?_)
      refine x_lald S hK hP 1 (by decide) m1 h4 dX6_pays_208 ?_
      refine lv_l2i (v := (gL M26 1 (ix (F_X6_part a1 (0 : Int32)))).toInt32) S.1 S.2.1 dX6_pays_209 rfl ?_
      refine lv_iconst (v := (1 : Int32)) S.1 S.2.1 dX6_pays_210 (by decide) ?_
      refine y_Si (As := [.int ((gL M26 1 (ix (F_X6_part a1 (0 : Int32)))).toInt32), .int (1 : Int32)]) S hK hN hP hS rfl (K_X6_cellOf l E ad hI _ ((gL M26 1 (ix (F_X6_part a1 (0 : Int32)))).toInt32) (1 : Int32)  M26 _ rfl) (cS 2 S w_co_yX6_cellOf w_in_X6 w_ml_X6_63 w_st_yX6_cellOf hd_X6_cellOf ⟨Nat.le_of_ble_eq_true rfl, Nat.le_of_ble_eq_true rfl⟩) hl.1 rfl rfl (Nat.le_of_ble_eq_true rfl) dX6_pays_211 ⟨Nat.zero_le _, Nat.zero_le _⟩ (fun H locs hP hS => ?_)
      refine lv_dup2_11 S.1 S.2.1 dX6_pays_214 rfl rfl ?_
      obtain ⟨h28, hf⟩ := gd_some hf
      refine x_lald S hK hP 1 (by decide) m1 h28 dX6_pays_215 ?_
      refine lv_lload S.1 S.2.1 dX6_pays_216 (lv_at hl 0 rfl) ?_
      refine lv_ladd S.1 S.2.1 dX6_pays_218 ?_
      refine x_last S hI hK hP hS 1 (by decide) m1 h28 (entM E ad (sL M26 1 (ix (F_X6_cellOf ((gL M26 1 (ix (F_X6_part a1 (0 : Int32)))).toInt32) (1 : Int32))) ((gL M26 1 (ix (F_X6_cellOf ((gL M26 1 (ix (F_X6_part a1 (0 : Int32)))).toInt32) (1 : Int32)))) + x27))) n1 (fun _ h => entM_sL _ h) dX6_pays_219 (fun H locs hP hS => ?_)
      obtain ⟨M29, eM29, hf⟩ := bnd_some hf
      rw [← eM29] at hP
      refine lv_aload_n S.1 S.2.1 dX6_pays_220 rfl (lv_at hl 5 rfl) ?_
      refine x_get (v := .ref (ad 1)) S hK hP w_lay_X6 (ci := 6) rfl 0 (by decide) m0 0 (by decide) w_fl_X6_7 rfl rfl dX6_pays_221 ?_
      refine lv_iload_n S.1 S.2.1 dX6_pays_224 rfl (lv_at hl 6 rfl) ?_
      refine lv_bipush (v := (7 : Int32)) S.1 S.2.1 dX6_pays_225 (by decide) ?_
      refine y_Si (As := [.int a1, .int (7 : Int32)]) S hK hN hP hS rfl (K_X6_part l E ad hI _ a1 (7 : Int32)  M29 _ rfl) (cS 2 S w_co_yX6_part w_in_X6 w_ml_X6_89 w_st_yX6_part hd_X6_part ⟨Nat.le_of_ble_eq_true rfl, Nat.le_of_ble_eq_true rfl⟩) hl.1 rfl rfl (Nat.le_of_ble_eq_true rfl) dX6_pays_227 ⟨Nat.zero_le _, Nat.zero_le _⟩ (fun H locs hP hS => ?_)
      refine lv_dup2_11 S.1 S.2.1 dX6_pays_230 rfl rfl ?_
      obtain ⟨h30, hf⟩ := gd_some hf
      refine x_lald S hK hP 1 (by decide) m1 h30 dX6_pays_231 ?_
      refine lv_lload_n S.1 S.2.1 dX6_pays_232 rfl (lv_at hl 7 rfl) ?_
      refine lv_ladd S.1 S.2.1 dX6_pays_233 ?_
      refine x_last S hI hK hP hS 1 (by decide) m1 h30 (entM E ad (sL M29 1 (ix (F_X6_part a1 (7 : Int32))) ((gL M29 1 (ix (F_X6_part a1 (7 : Int32)))) + a2))) n1 (fun _ h => entM_sL _ h) dX6_pays_234 (fun H locs hP hS => ?_)
      obtain ⟨M31, eM31, hf⟩ := bnd_some hf
      rw [← eM31] at hP
      cases hf
      exact r_v S hr hlk hP hS dX6_pays_235
  · replace hf := iff_ h7 hf
    refine lv_aload_n S.1 S.2.1 dX6_pays_65 rfl (lv_at hl 3 rfl) ?_
    refine x_get (v := .ref (ad 1)) S hK hP w_lay_X6 (ci := 6) rfl 0 (by decide) m0 0 (by decide) w_fl_X6_7 rfl rfl dX6_pays_66 ?_
    refine lv_iload S.1 S.2.1 dX6_pays_69 (lv_at hl 0 rfl) ?_
    refine x_lald S hK hP 1 (by decide) m1 h6 dX6_pays_71 ?_
    refine lv_goto (tgt := 77) S.1 S.2.1 dX6_pays_72 (by decide) ?_
    obtain ⟨x32, ex32, hf⟩ := bnd_some hf
    refine lv_rel ex32 ?_
    refine lv_lstore (lv' := [(9, .long x32), (8, .int x5), (6, .long x3), (4, .long x1), (0, .ref (ad 0)), (1, .int a1), (2, .long a2)]) S.1 S.2.1 dX6_pays_77 hl (by decide) rfl (fun ls hl => ?_)
    refine lv_aload_n S.1 S.2.1 dX6_pays_79 rfl (lv_at hl 4 rfl) ?_
    refine x_get (v := .ref (ad 1)) S hK hP w_lay_X6 (ci := 6) rfl 0 (by decide) m0 0 (by decide) w_fl_X6_7 rfl rfl dX6_pays_80 ?_
    refine lv_iload S.1 S.2.1 dX6_pays_83 (lv_at hl 1 rfl) ?_
    refine lv_dup2_11 S.1 S.2.1 dX6_pays_85 rfl rfl ?_
    refine x_lald S hK hP 1 (by decide) m1 h6 dX6_pays_86 ?_
    refine lv_lload S.1 S.2.1 dX6_pays_87 (lv_at hl 0 rfl) ?_
    refine lv_lsub S.1 S.2.1 dX6_pays_89 ?_
    refine x_last S hI hK hP hS 1 (by decide) m1 h6 (entM E ad (sL M2 1 (ix x5) ((gL M2 1 (ix x5)) - x32))) n1 (fun _ h => entM_sL _ h) dX6_pays_90 (fun H locs hP hS => ?_)
    obtain ⟨M33, eM33, hf⟩ := bnd_some hf
    rw [← eM33] at hP
    refine lv_aload_n S.1 S.2.1 dX6_pays_91 rfl (lv_at hl 4 rfl) ?_
    refine x_get (v := .ref (ad 1)) S hK hP w_lay_X6 (ci := 6) rfl 0 (by decide) m0 0 (by decide) w_fl_X6_7 rfl rfl dX6_pays_92 ?_
    refine lv_sipush (v := (5664 : Int32)) S.1 S.2.1 dX6_pays_95 (by decide) ?_
    refine lv_dup2_11 S.1 S.2.1 dX6_pays_98 rfl rfl ?_
    refine x_laldc (j := 5664) S hK hP 1 (by decide) m1 (by decide) (by decide) dX6_pays_99 ?_
    refine lv_lload S.1 S.2.1 dX6_pays_100 (lv_at hl 0 rfl) ?_
    refine lv_ladd S.1 S.2.1 dX6_pays_102 ?_
    refine x_lastc (j := 5664) S hI hK hP hS 1 (by decide) m1 (by decide) (by decide) (entM E ad (sL M33 1 5664 ((gL M33 1 5664) + x32))) n1 (fun _ h => entM_sL _ h) dX6_pays_103 (fun H locs hP hS => ?_)
    obtain ⟨M34, eM34, hf⟩ := bnd_some hf
    rw [← eM34] at hP
    refine lv_lload S.1 S.2.1 dX6_pays_104 (lv_at hl 2 rfl) ?_
    refine lv_lload S.1 S.2.1 dX6_pays_106 (lv_at hl 0 rfl) ?_
    refine lv_lsub S.1 S.2.1 dX6_pays_108 ?_
    obtain ⟨x35, ex35, hf⟩ := bnd_some hf
    refine lv_rel ex35 ?_
    refine lv_lstore (lv' := [(6, .long x35), (9, .long x32), (8, .int x5), (4, .long x1), (0, .ref (ad 0)), (1, .int a1), (2, .long a2)]) S.1 S.2.1 dX6_pays_109 hl (by decide) rfl (fun ls hl => ?_)
    refine lv_aload_n S.1 S.2.1 dX6_pays_111 rfl (lv_at hl 4 rfl) ?_
    refine x_get (v := .ref (ad 1)) S hK hP w_lay_X6 (ci := 6) rfl 0 (by decide) m0 0 (by decide) w_fl_X6_7 rfl rfl dX6_pays_112 ?_
    refine lv_iload_n S.1 S.2.1 dX6_pays_115 rfl (lv_at hl 5 rfl) ?_
    refine lv_bipush (v := (12 : Int32)) S.1 S.2.1 dX6_pays_116 (by decide) ?_
    refine y_Si (As := [.int a1, .int (12 : Int32)]) S hK hN hP hS rfl (K_X6_part l E ad hI _ a1 (12 : Int32)  M34 _ rfl) (cS 2 S w_co_yX6_part w_in_X6 w_ml_X6_89 w_st_yX6_part hd_X6_part ⟨Nat.le_of_ble_eq_true rfl, Nat.le_of_ble_eq_true rfl⟩) hl.1 rfl rfl (Nat.le_of_ble_eq_true rfl) dX6_pays_118 ⟨Nat.zero_le _, Nat.zero_le _⟩ (fun H locs hP hS => ?_)
    obtain ⟨h36, hf⟩ := gd_some hf
    refine x_lald S hK hP 1 (by decide) m1 h36 dX6_pays_121 ?_
    refine lv_lload S.1 S.2.1 dX6_pays_122 (lv_at hl 0 rfl) ?_
    refine ll_ge (tgt := 142) S dX6_pays_124 dX6_pays_125 (by decide) (fun h37 => ?_) (fun h37 => ?_)
    · replace hf := ift h37 hf
      refine lv_lload S.1 S.2.1 dX6_pays_142 (lv_at hl 0 rfl) ?_
      refine lv_lstore (lv' := [(11, .long x35), (6, .long x35), (9, .long x32), (8, .int x5), (4, .long x1), (0, .ref (ad 0)), (1, .int a1), (2, .long a2)]) S.1 S.2.1 dX6_pays_144 hl (by decide) rfl (fun ls hl => ?_)
      refine lv_aload_n S.1 S.2.1 dX6_pays_146 rfl (lv_at hl 5 rfl) ?_
      refine x_get (v := .ref (ad 1)) S hK hP w_lay_X6 (ci := 6) rfl 0 (by decide) m0 0 (by decide) w_fl_X6_7 rfl rfl dX6_pays_147 ?_
      refine lv_iload_n S.1 S.2.1 dX6_pays_150 rfl (lv_at hl 6 rfl) ?_
      refine lv_bipush (v := (12 : Int32)) S.1 S.2.1 dX6_pays_151 (by decide) ?_
      refine y_Si (As := [.int a1, .int (12 : Int32)]) S hK hN hP hS rfl (K_X6_part l E ad hI _ a1 (12 : Int32)  M34 _ rfl) (cS 2 S w_co_yX6_part w_in_X6 w_ml_X6_89 w_st_yX6_part hd_X6_part ⟨Nat.le_of_ble_eq_true rfl, Nat.le_of_ble_eq_true rfl⟩) hl.1 rfl rfl (Nat.le_of_ble_eq_true rfl) dX6_pays_153 ⟨Nat.zero_le _, Nat.zero_le _⟩ (fun H locs hP hS => ?_)
      refine lv_dup2_11 S.1 S.2.1 dX6_pays_156 rfl rfl ?_
      refine x_lald S hK hP 1 (by decide) m1 h36 dX6_pays_157 ?_
      refine lv_lload S.1 S.2.1 dX6_pays_158 (lv_at hl 0 rfl) ?_
      refine lv_lsub S.1 S.2.1 dX6_pays_160 ?_
      refine x_last S hI hK hP hS 1 (by decide) m1 h36 (entM E ad (sL M34 1 (ix (F_X6_part a1 (12 : Int32))) ((gL M34 1 (ix (F_X6_part a1 (12 : Int32)))) - x35))) n1 (fun _ h => entM_sL _ h) dX6_pays_161 (fun H locs hP hS => ?_)
      obtain ⟨M38, eM38, hf⟩ := bnd_some hf
      rw [← eM38] at hP
      refine lv_aload_n S.1 S.2.1 dX6_pays_162 rfl (lv_at hl 5 rfl) ?_
      refine x_get (v := .ref (ad 1)) S hK hP w_lay_X6 (ci := 6) rfl 0 (by decide) m0 0 (by decide) w_fl_X6_7 rfl rfl dX6_pays_163 ?_
      refine lv_aload_n S.1 S.2.1 dX6_pays_166 rfl (lv_at hl 5 rfl) ?_
      refine x_get (v := .ref (ad 1)) S hK hP w_lay_X6 (ci := 6) rfl 0 (by decide) m0 0 (by decide) w_fl_X6_7 rfl rfl dX6_pays_167 ?_
      refine lv_iload_n S.1 S.2.1 dX6_pays_170 rfl (lv_at hl 6 rfl) ?_
      refine lv_bipush (v := (11 : Int32)) S.1 S.2.1 dX6_pays_171 (by decide) ?_
      refine y_Si (As := [.int a1, .int (11 : Int32)]) S hK hN hP hS rfl (K_X6_part l E ad hI _ a1 (11 : Int32)  M38 _ rfl) (cS 2 S w_co_yX6_part w_in_X6 w_ml_X6_89 w_st_yX6_part hd_X6_part ⟨Nat.le_of_ble_eq_true rfl, Nat.le_of_ble_eq_true rfl⟩) hl.1 rfl rfl (Nat.le_of_ble_eq_true rfl) dX6_pays_173 ⟨Nat.zero_le _, Nat.zero_le _⟩ (fun H locs hP hS => ?_)
      obtain ⟨h39, hf⟩ := gd_some hf
      refine x_lald S hK hP 1 (by decide) m1 h39 dX6_pays_176 ?_
      refine lv_l2i (v := (gL M38 1 (ix (F_X6_part a1 (11 : Int32)))).toInt32) S.1 S.2.1 dX6_pays_177 rfl ?_
      refine lv_iconst (v := (1 : Int32)) S.1 S.2.1 dX6_pays_178 (by decide) ?_
      refine y_Si (As := [.int ((gL M38 1 (ix (F_X6_part a1 (11 : Int32)))).toInt32), .int (1 : Int32)]) S hK hN hP hS rfl (K_X6_cellOf l E ad hI _ ((gL M38 1 (ix (F_X6_part a1 (11 : Int32)))).toInt32) (1 : Int32)  M38 _ rfl) (cS 2 S w_co_yX6_cellOf w_in_X6 w_ml_X6_63 w_st_yX6_cellOf hd_X6_cellOf ⟨Nat.le_of_ble_eq_true rfl, Nat.le_of_ble_eq_true rfl⟩) hl.1 rfl rfl (Nat.le_of_ble_eq_true rfl) dX6_pays_179 ⟨Nat.zero_le _, Nat.zero_le _⟩ (fun H locs hP hS => ?_)
      refine lv_dup2_11 S.1 S.2.1 dX6_pays_182 rfl rfl ?_
      obtain ⟨h40, hf⟩ := gd_some hf
      refine x_lald S hK hP 1 (by decide) m1 h40 dX6_pays_183 ?_
      refine lv_lload S.1 S.2.1 dX6_pays_184 (lv_at hl 0 rfl) ?_
      refine lv_ladd S.1 S.2.1 dX6_pays_186 ?_
      refine x_last S hI hK hP hS 1 (by decide) m1 h40 (entM E ad (sL M38 1 (ix (F_X6_cellOf ((gL M38 1 (ix (F_X6_part a1 (11 : Int32)))).toInt32) (1 : Int32))) ((gL M38 1 (ix (F_X6_cellOf ((gL M38 1 (ix (F_X6_part a1 (11 : Int32)))).toInt32) (1 : Int32)))) + x35))) n1 (fun _ h => entM_sL _ h) dX6_pays_187 (fun H locs hP hS => ?_)
      obtain ⟨M41, eM41, hf⟩ := bnd_some hf
      rw [← eM41] at hP
      refine lv_lload S.1 S.2.1 dX6_pays_188 (lv_at hl 1 rfl) ?_
      refine lv_lload S.1 S.2.1 dX6_pays_190 (lv_at hl 0 rfl) ?_
      refine lv_lsub S.1 S.2.1 dX6_pays_192 ?_
      obtain ⟨x42, ex42, hf⟩ := bnd_some hf
      refine lv_rel ex42 ?_
      refine lv_lstore (lv' := [(6, .long x42), (11, .long x35), (9, .long x32), (8, .int x5), (4, .long x1), (0, .ref (ad 0)), (1, .int a1), (2, .long a2)]) S.1 S.2.1 dX6_pays_193 hl (by decide) rfl (fun ls hl => ?_)
      refine lv_aload_n S.1 S.2.1 dX6_pays_195 rfl (lv_at hl 5 rfl) ?_
      refine x_get (v := .ref (ad 1)) S hK hP w_lay_X6 (ci := 6) rfl 0 (by decide) m0 0 (by decide) w_fl_X6_7 rfl rfl dX6_pays_196 ?_
      refine lv_aload_n S.1 S.2.1 dX6_pays_199 rfl (lv_at hl 5 rfl) ?_
      refine x_get (v := .ref (ad 1)) S hK hP w_lay_X6 (ci := 6) rfl 0 (by decide) m0 0 (by decide) w_fl_X6_7 rfl rfl dX6_pays_200 ?_
      refine lv_iload_n S.1 S.2.1 dX6_pays_203 rfl (lv_at hl 6 rfl) ?_
      refine lv_iconst (v := (0 : Int32)) S.1 S.2.1 dX6_pays_204 (by decide) ?_
      refine y_Si (As := [.int a1, .int (0 : Int32)]) S hK hN hP hS rfl (K_X6_part l E ad hI _ a1 (0 : Int32)  M41 _ rfl) (cS 2 S w_co_yX6_part w_in_X6 w_ml_X6_89 w_st_yX6_part hd_X6_part ⟨Nat.le_of_ble_eq_true rfl, Nat.le_of_ble_eq_true rfl⟩) hl.1 rfl rfl (Nat.le_of_ble_eq_true rfl) dX6_pays_205 ⟨Nat.zero_le _, Nat.zero_le _⟩ (fun H locs hP hS => ?_)
      refine x_lald S hK hP 1 (by decide) m1 h4 dX6_pays_208 ?_
      refine lv_l2i (v := (gL M41 1 (ix (F_X6_part a1 (0 : Int32)))).toInt32) S.1 S.2.1 dX6_pays_209 rfl ?_
      refine lv_iconst (v := (1 : Int32)) S.1 S.2.1 dX6_pays_210 (by decide) ?_
      refine y_Si (As := [.int ((gL M41 1 (ix (F_X6_part a1 (0 : Int32)))).toInt32), .int (1 : Int32)]) S hK hN hP hS rfl (K_X6_cellOf l E ad hI _ ((gL M41 1 (ix (F_X6_part a1 (0 : Int32)))).toInt32) (1 : Int32)  M41 _ rfl) (cS 2 S w_co_yX6_cellOf w_in_X6 w_ml_X6_63 w_st_yX6_cellOf hd_X6_cellOf ⟨Nat.le_of_ble_eq_true rfl, Nat.le_of_ble_eq_true rfl⟩) hl.1 rfl rfl (Nat.le_of_ble_eq_true rfl) dX6_pays_211 ⟨Nat.zero_le _, Nat.zero_le _⟩ (fun H locs hP hS => ?_)
      refine lv_dup2_11 S.1 S.2.1 dX6_pays_214 rfl rfl ?_
      obtain ⟨h43, hf⟩ := gd_some hf
      refine x_lald S hK hP 1 (by decide) m1 h43 dX6_pays_215 ?_
      refine lv_lload S.1 S.2.1 dX6_pays_216 (lv_at hl 0 rfl) ?_
      refine lv_ladd S.1 S.2.1 dX6_pays_218 ?_
      refine x_last S hI hK hP hS 1 (by decide) m1 h43 (entM E ad (sL M41 1 (ix (F_X6_cellOf ((gL M41 1 (ix (F_X6_part a1 (0 : Int32)))).toInt32) (1 : Int32))) ((gL M41 1 (ix (F_X6_cellOf ((gL M41 1 (ix (F_X6_part a1 (0 : Int32)))).toInt32) (1 : Int32)))) + x42))) n1 (fun _ h => entM_sL _ h) dX6_pays_219 (fun H locs hP hS => ?_)
      obtain ⟨M44, eM44, hf⟩ := bnd_some hf
      rw [← eM44] at hP
      refine lv_aload_n S.1 S.2.1 dX6_pays_220 rfl (lv_at hl 5 rfl) ?_
      refine x_get (v := .ref (ad 1)) S hK hP w_lay_X6 (ci := 6) rfl 0 (by decide) m0 0 (by decide) w_fl_X6_7 rfl rfl dX6_pays_221 ?_
      refine lv_iload_n S.1 S.2.1 dX6_pays_224 rfl (lv_at hl 6 rfl) ?_
      refine lv_bipush (v := (7 : Int32)) S.1 S.2.1 dX6_pays_225 (by decide) ?_
      refine y_Si (As := [.int a1, .int (7 : Int32)]) S hK hN hP hS rfl (K_X6_part l E ad hI _ a1 (7 : Int32)  M44 _ rfl) (cS 2 S w_co_yX6_part w_in_X6 w_ml_X6_89 w_st_yX6_part hd_X6_part ⟨Nat.le_of_ble_eq_true rfl, Nat.le_of_ble_eq_true rfl⟩) hl.1 rfl rfl (Nat.le_of_ble_eq_true rfl) dX6_pays_227 ⟨Nat.zero_le _, Nat.zero_le _⟩ (fun H locs hP hS => ?_)
      refine lv_dup2_11 S.1 S.2.1 dX6_pays_230 rfl rfl ?_
      obtain ⟨h45, hf⟩ := gd_some hf
      refine x_lald S hK hP 1 (by decide) m1 h45 dX6_pays_231 ?_
      refine lv_lload_n S.1 S.2.1 dX6_pays_232 rfl (lv_at hl 7 rfl) ?_
      refine lv_ladd S.1 S.2.1 dX6_pays_233 ?_
      refine x_last S hI hK hP hS 1 (by decide) m1 h45 (entM E ad (sL M44 1 (ix (F_X6_part a1 (7 : Int32))) ((gL M44 1 (ix (F_X6_part a1 (7 : Int32)))) + a2))) n1 (fun _ h => entM_sL _ h) dX6_pays_234 (fun H locs hP hS => ?_)
      obtain ⟨M46, eM46, hf⟩ := bnd_some hf
      rw [← eM46] at hP
      cases hf
      exact r_v S hr hlk hP hS dX6_pays_235
    · replace hf := iff_ h37 hf
      refine lv_aload_n S.1 S.2.1 dX6_pays_128 rfl (lv_at hl 4 rfl) ?_
      refine x_get (v := .ref (ad 1)) S hK hP w_lay_X6 (ci := 6) rfl 0 (by decide) m0 0 (by decide) w_fl_X6_7 rfl rfl dX6_pays_129 ?_
      refine lv_iload_n S.1 S.2.1 dX6_pays_132 rfl (lv_at hl 5 rfl) ?_
      refine lv_bipush (v := (12 : Int32)) S.1 S.2.1 dX6_pays_133 (by decide) ?_
      refine y_Si (As := [.int a1, .int (12 : Int32)]) S hK hN hP hS rfl (K_X6_part l E ad hI _ a1 (12 : Int32)  M34 _ rfl) (cS 2 S w_co_yX6_part w_in_X6 w_ml_X6_89 w_st_yX6_part hd_X6_part ⟨Nat.le_of_ble_eq_true rfl, Nat.le_of_ble_eq_true rfl⟩) hl.1 rfl rfl (Nat.le_of_ble_eq_true rfl) dX6_pays_135 ⟨Nat.zero_le _, Nat.zero_le _⟩ (fun H locs hP hS => ?_)
      refine x_lald S hK hP 1 (by decide) m1 h36 dX6_pays_138 ?_
      refine lv_goto (tgt := 144) S.1 S.2.1 dX6_pays_139 (by decide) ?_
      obtain ⟨x47, ex47, hf⟩ := bnd_some hf
      refine lv_rel ex47 ?_
      refine lv_lstore (lv' := [(11, .long x47), (6, .long x35), (9, .long x32), (8, .int x5), (4, .long x1), (0, .ref (ad 0)), (1, .int a1), (2, .long a2)]) S.1 S.2.1 dX6_pays_144 hl (by decide) rfl (fun ls hl => ?_)
      refine lv_aload_n S.1 S.2.1 dX6_pays_146 rfl (lv_at hl 5 rfl) ?_
      refine x_get (v := .ref (ad 1)) S hK hP w_lay_X6 (ci := 6) rfl 0 (by decide) m0 0 (by decide) w_fl_X6_7 rfl rfl dX6_pays_147 ?_
      refine lv_iload_n S.1 S.2.1 dX6_pays_150 rfl (lv_at hl 6 rfl) ?_
      refine lv_bipush (v := (12 : Int32)) S.1 S.2.1 dX6_pays_151 (by decide) ?_
      refine y_Si (As := [.int a1, .int (12 : Int32)]) S hK hN hP hS rfl (K_X6_part l E ad hI _ a1 (12 : Int32)  M34 _ rfl) (cS 2 S w_co_yX6_part w_in_X6 w_ml_X6_89 w_st_yX6_part hd_X6_part ⟨Nat.le_of_ble_eq_true rfl, Nat.le_of_ble_eq_true rfl⟩) hl.1 rfl rfl (Nat.le_of_ble_eq_true rfl) dX6_pays_153 ⟨Nat.zero_le _, Nat.zero_le _⟩ (fun H locs hP hS => ?_)
      refine lv_dup2_11 S.1 S.2.1 dX6_pays_156 rfl rfl ?_
      refine x_lald S hK hP 1 (by decide) m1 h36 dX6_pays_157 ?_
      refine lv_lload S.1 S.2.1 dX6_pays_158 (lv_at hl 0 rfl) ?_
      refine lv_lsub S.1 S.2.1 dX6_pays_160 ?_
      refine x_last S hI hK hP hS 1 (by decide) m1 h36 (entM E ad (sL M34 1 (ix (F_X6_part a1 (12 : Int32))) ((gL M34 1 (ix (F_X6_part a1 (12 : Int32)))) - x47))) n1 (fun _ h => entM_sL _ h) dX6_pays_161 (fun H locs hP hS => ?_)
      obtain ⟨M48, eM48, hf⟩ := bnd_some hf
      rw [← eM48] at hP
      refine lv_aload_n S.1 S.2.1 dX6_pays_162 rfl (lv_at hl 5 rfl) ?_
      refine x_get (v := .ref (ad 1)) S hK hP w_lay_X6 (ci := 6) rfl 0 (by decide) m0 0 (by decide) w_fl_X6_7 rfl rfl dX6_pays_163 ?_
      refine lv_aload_n S.1 S.2.1 dX6_pays_166 rfl (lv_at hl 5 rfl) ?_
      refine x_get (v := .ref (ad 1)) S hK hP w_lay_X6 (ci := 6) rfl 0 (by decide) m0 0 (by decide) w_fl_X6_7 rfl rfl dX6_pays_167 ?_
      refine lv_iload_n S.1 S.2.1 dX6_pays_170 rfl (lv_at hl 6 rfl) ?_
      refine lv_bipush (v := (11 : Int32)) S.1 S.2.1 dX6_pays_171 (by decide) ?_
      refine y_Si (As := [.int a1, .int (11 : Int32)]) S hK hN hP hS rfl (K_X6_part l E ad hI _ a1 (11 : Int32)  M48 _ rfl) (cS 2 S w_co_yX6_part w_in_X6 w_ml_X6_89 w_st_yX6_part hd_X6_part ⟨Nat.le_of_ble_eq_true rfl, Nat.le_of_ble_eq_true rfl⟩) hl.1 rfl rfl (Nat.le_of_ble_eq_true rfl) dX6_pays_173 ⟨Nat.zero_le _, Nat.zero_le _⟩ (fun H locs hP hS => ?_)
      obtain ⟨h49, hf⟩ := gd_some hf
      refine x_lald S hK hP 1 (by decide) m1 h49 dX6_pays_176 ?_
      refine lv_l2i (v := (gL M48 1 (ix (F_X6_part a1 (11 : Int32)))).toInt32) S.1 S.2.1 dX6_pays_177 rfl ?_
      refine lv_iconst (v := (1 : Int32)) S.1 S.2.1 dX6_pays_178 (by decide) ?_
      refine y_Si (As := [.int ((gL M48 1 (ix (F_X6_part a1 (11 : Int32)))).toInt32), .int (1 : Int32)]) S hK hN hP hS rfl (K_X6_cellOf l E ad hI _ ((gL M48 1 (ix (F_X6_part a1 (11 : Int32)))).toInt32) (1 : Int32)  M48 _ rfl) (cS 2 S w_co_yX6_cellOf w_in_X6 w_ml_X6_63 w_st_yX6_cellOf hd_X6_cellOf ⟨Nat.le_of_ble_eq_true rfl, Nat.le_of_ble_eq_true rfl⟩) hl.1 rfl rfl (Nat.le_of_ble_eq_true rfl) dX6_pays_179 ⟨Nat.zero_le _, Nat.zero_le _⟩ (fun H locs hP hS => ?_)
      refine lv_dup2_11 S.1 S.2.1 dX6_pays_182 rfl rfl ?_
      obtain ⟨h50, hf⟩ := gd_some hf
      refine x_lald S hK hP 1 (by decide) m1 h50 dX6_pays_183 ?_
      refine lv_lload S.1 S.2.1 dX6_pays_184 (lv_at hl 0 rfl) ?_
      refine lv_ladd S.1 S.2.1 dX6_pays_186 ?_
      refine x_last S hI hK hP hS 1 (by decide) m1 h50 (entM E ad (sL M48 1 (ix (F_X6_cellOf ((gL M48 1 (ix (F_X6_part a1 (11 : Int32)))).toInt32) (1 : Int32))) ((gL M48 1 (ix (F_X6_cellOf ((gL M48 1 (ix (F_X6_part a1 (11 : Int32)))).toInt32) (1 : Int32)))) + x47))) n1 (fun _ h => entM_sL _ h) dX6_pays_187 (fun H locs hP hS => ?_)
      obtain ⟨M51, eM51, hf⟩ := bnd_some hf
      rw [← eM51] at hP
      refine lv_lload S.1 S.2.1 dX6_pays_188 (lv_at hl 1 rfl) ?_
      refine lv_lload S.1 S.2.1 dX6_pays_190 (lv_at hl 0 rfl) ?_
      refine lv_lsub S.1 S.2.1 dX6_pays_192 ?_
      obtain ⟨x52, ex52, hf⟩ := bnd_some hf
      refine lv_rel ex52 ?_
      refine lv_lstore (lv' := [(6, .long x52), (11, .long x47), (9, .long x32), (8, .int x5), (4, .long x1), (0, .ref (ad 0)), (1, .int a1), (2, .long a2)]) S.1 S.2.1 dX6_pays_193 hl (by decide) rfl (fun ls hl => ?_)
      refine lv_aload_n S.1 S.2.1 dX6_pays_195 rfl (lv_at hl 5 rfl) ?_
      refine x_get (v := .ref (ad 1)) S hK hP w_lay_X6 (ci := 6) rfl 0 (by decide) m0 0 (by decide) w_fl_X6_7 rfl rfl dX6_pays_196 ?_
      refine lv_aload_n S.1 S.2.1 dX6_pays_199 rfl (lv_at hl 5 rfl) ?_
      refine x_get (v := .ref (ad 1)) S hK hP w_lay_X6 (ci := 6) rfl 0 (by decide) m0 0 (by decide) w_fl_X6_7 rfl rfl dX6_pays_200 ?_
      refine lv_iload_n S.1 S.2.1 dX6_pays_203 rfl (lv_at hl 6 rfl) ?_
      refine lv_iconst (v := (0 : Int32)) S.1 S.2.1 dX6_pays_204 (by decide) ?_
      refine y_Si (As := [.int a1, .int (0 : Int32)]) S hK hN hP hS rfl (K_X6_part l E ad hI _ a1 (0 : Int32)  M51 _ rfl) (cS 2 S w_co_yX6_part w_in_X6 w_ml_X6_89 w_st_yX6_part hd_X6_part ⟨Nat.le_of_ble_eq_true rfl, Nat.le_of_ble_eq_true rfl⟩) hl.1 rfl rfl (Nat.le_of_ble_eq_true rfl) dX6_pays_205 ⟨Nat.zero_le _, Nat.zero_le _⟩ (fun H locs hP hS => ?_)
      refine x_lald S hK hP 1 (by decide) m1 h4 dX6_pays_208 ?_
      refine lv_l2i (v := (gL M51 1 (ix (F_X6_part a1 (0 : Int32)))).toInt32) S.1 S.2.1 dX6_pays_209 rfl ?_
      refine lv_iconst (v := (1 : Int32)) S.1 S.2.1 dX6_pays_210 (by decide) ?_
      refine y_Si (As := [.int ((gL M51 1 (ix (F_X6_part a1 (0 : Int32)))).toInt32), .int (1 : Int32)]) S hK hN hP hS rfl (K_X6_cellOf l E ad hI _ ((gL M51 1 (ix (F_X6_part a1 (0 : Int32)))).toInt32) (1 : Int32)  M51 _ rfl) (cS 2 S w_co_yX6_cellOf w_in_X6 w_ml_X6_63 w_st_yX6_cellOf hd_X6_cellOf ⟨Nat.le_of_ble_eq_true rfl, Nat.le_of_ble_eq_true rfl⟩) hl.1 rfl rfl (Nat.le_of_ble_eq_true rfl) dX6_pays_211 ⟨Nat.zero_le _, Nat.zero_le _⟩ (fun H locs hP hS => ?_)
      refine lv_dup2_11 S.1 S.2.1 dX6_pays_214 rfl rfl ?_
      obtain ⟨h53, hf⟩ := gd_some hf
      refine x_lald S hK hP 1 (by decide) m1 h53 dX6_pays_215 ?_
      refine lv_lload S.1 S.2.1 dX6_pays_216 (lv_at hl 0 rfl) ?_
      refine lv_ladd S.1 S.2.1 dX6_pays_218 ?_
      refine x_last S hI hK hP hS 1 (by decide) m1 h53 (entM E ad (sL M51 1 (ix (F_X6_cellOf ((gL M51 1 (ix (F_X6_part a1 (0 : Int32)))).toInt32) (1 : Int32))) ((gL M51 1 (ix (F_X6_cellOf ((gL M51 1 (ix (F_X6_part a1 (0 : Int32)))).toInt32) (1 : Int32)))) + x52))) n1 (fun _ h => entM_sL _ h) dX6_pays_219 (fun H locs hP hS => ?_)
      obtain ⟨M54, eM54, hf⟩ := bnd_some hf
      rw [← eM54] at hP
      refine lv_aload_n S.1 S.2.1 dX6_pays_220 rfl (lv_at hl 5 rfl) ?_
      refine x_get (v := .ref (ad 1)) S hK hP w_lay_X6 (ci := 6) rfl 0 (by decide) m0 0 (by decide) w_fl_X6_7 rfl rfl dX6_pays_221 ?_
      refine lv_iload_n S.1 S.2.1 dX6_pays_224 rfl (lv_at hl 6 rfl) ?_
      refine lv_bipush (v := (7 : Int32)) S.1 S.2.1 dX6_pays_225 (by decide) ?_
      refine y_Si (As := [.int a1, .int (7 : Int32)]) S hK hN hP hS rfl (K_X6_part l E ad hI _ a1 (7 : Int32)  M54 _ rfl) (cS 2 S w_co_yX6_part w_in_X6 w_ml_X6_89 w_st_yX6_part hd_X6_part ⟨Nat.le_of_ble_eq_true rfl, Nat.le_of_ble_eq_true rfl⟩) hl.1 rfl rfl (Nat.le_of_ble_eq_true rfl) dX6_pays_227 ⟨Nat.zero_le _, Nat.zero_le _⟩ (fun H locs hP hS => ?_)
      refine lv_dup2_11 S.1 S.2.1 dX6_pays_230 rfl rfl ?_
      obtain ⟨h55, hf⟩ := gd_some hf
      refine x_lald S hK hP 1 (by decide) m1 h55 dX6_pays_231 ?_
      refine lv_lload_n S.1 S.2.1 dX6_pays_232 rfl (lv_at hl 7 rfl) ?_
      refine lv_ladd S.1 S.2.1 dX6_pays_233 ?_
      refine x_last S hI hK hP hS 1 (by decide) m1 h55 (entM E ad (sL M54 1 (ix (F_X6_part a1 (7 : Int32))) ((gL M54 1 (ix (F_X6_part a1 (7 : Int32)))) + a2))) n1 (fun _ h => entM_sL _ h) dX6_pays_234 (fun H locs hP hS => ?_)
      obtain ⟨M56, eM56, hf⟩ := bnd_some hf
      rw [← eM56] at hP
      cases hf
      exact r_v S hr hlk hP hS dX6_pays_235
theorem hd_X6_proof : yX6_proof.cls ≠ "java/lang/invoke/MethodHandle" ∧ yX6_proof.cls ≠ "java/lang/invoke/VarHandle" ∧ (parseMethodDescriptor yX6_proof.desc).map (fun d => d.parameters.length) = some 1 := by decide +kernel
set_option maxHeartbeats 4000000 in
set_option maxRecDepth 100000 in
theorem L_X6_proof_91 (l : Launch) (E : EE) (ad : Nat → Nat) (hI : ad_I ad 7) (N : Nat) (a1 : Int32)  {p : Program} {e : Env} {s : State} {m : MethodId} {below : List Frame} {meth : Method} {c : Code} (S : CallFix p m c cX6_proof 8 s [.ref (ad 0), .int a1].toArray bg_B "SurvivorPurseModel") (hr : meth.sig.returnType = (some .long)) (hlk : meth.locks = false) (hK : va_K E.1 vwCl (tysE E) s) (hN : NW s) {Q : State → Prop}  (M' : MM) : ∀ (fu : Nat) (v2 : Int64) (v4 : Int32) (v5 : Int64) (v7 : Int32)  (M : MM), F_X6_proof_91 N a1 fu v2 v4 v5 v7 M = some M' → ∀ (H : Heap) (locs : List Loc) (ls : Array Slot), va_P E.1 vwCl (mw (entM E ad M) ad 7) H → va_S (AA ad 7 s.heap.size) s.heap H locs → lv_has ls 8 [(0, .ref (ad 0)), (1, .int a1), (2, .long v2), (4, .int v4), (5, .long v5), (7, .int v7)] → (∀ (H : Heap) (locs : List Loc) (ls : Array Slot), va_P E.1 vwCl (mw (entM E ad M') ad 7) H → va_S (AA ad 7 s.heap.size) s.heap H locs → lv_has ls 8 [(0, .ref (ad 0)), (1, .int a1), (2, .long v2), (4, .int v4), (5, .long v5)] → W p l e { frames := 2, cells := 0, slots := 0, locals := 53 } s m [.ref (ad 0), .int a1].toArray below meth c H locs 0 0 Q (F0 m 122 ls [])) → W p l e { frames := 2, cells := 0, slots := 0, locals := 53 } s m [.ref (ad 0), .int a1].toArray below meth c H locs 0 0 Q (F0 m 91 ls []) := by
  intro fu
  induction fu with
  | zero =>
    intro v2 v4 v5 v7 M hf
    rw [F_X6_proof_91] at hf
    cases hf
  | succ fu ih =>
    intro v2 v4 v5 v7 M hf H locs ls hP hS hl kk
    rw [F_X6_proof_91] at hf
    refine lv_iload S.1 S.2.1 dX6_proof_91 (lv_at hl 5 rfl) ?_
    refine lv_bipush (v := (60 : Int32)) S.1 S.2.1 dX6_proof_93 (by decide) ?_
    refine lv_icmp_ge (tgt := 122) S.1 S.2.1 dX6_proof_95 (by decide) (fun h16 => ?_) (fun h16 => ?_)
    · replace hf := ift h16 hf
      cases hf
      exact kk _ _ _ hP hS (lv_sub hl [0, 1, 2, 3, 4] rfl)
    · replace hf := iff_ h16 hf
      refine lv_aload_n S.1 S.2.1 dX6_proof_98 rfl (lv_at hl 0 rfl) ?_
      refine x_get (v := .ref (ad 1)) S hK hP w_lay_X6 (ci := 6) rfl 0 (by decide) m0 0 (by decide) w_fl_X6_7 rfl rfl dX6_proof_99 ?_
      refine lv_sipush (v := (3263 : Int32)) S.1 S.2.1 dX6_proof_102 (by decide) ?_
      refine lv_bipush (v := (60 : Int32)) S.1 S.2.1 dX6_proof_105 (by decide) ?_
      refine lv_iload S.1 S.2.1 dX6_proof_107 (lv_at hl 3 rfl) ?_
      refine lv_imul S.1 S.2.1 dX6_proof_109 ?_
      refine lv_iadd S.1 S.2.1 dX6_proof_110 ?_
      refine lv_iload S.1 S.2.1 dX6_proof_111 (lv_at hl 5 rfl) ?_
      refine lv_iadd S.1 S.2.1 dX6_proof_113 ?_
      refine lv_lconst (v := (0 : Int64)) S.1 S.2.1 dX6_proof_114 (by decide) ?_
      obtain ⟨h17, hf⟩ := gd_some hf
      refine x_last S hI hK hP hS 1 (by decide) m1 h17 (entM E ad (sL M 1 (ix (((3263 : Int32) + ((60 : Int32) * v4)) + v7)) (0 : Int64))) n1 (fun _ h => entM_sL _ h) dX6_proof_115 (fun H locs hP hS => ?_)
      obtain ⟨M18, eM18, hf⟩ := bnd_some hf
      rw [← eM18] at hP
      refine lv_iinc (v := v7 + (1 : Int32)) (lv' := [(7, .int (v7 + (1 : Int32))), (0, .ref (ad 0)), (1, .int a1), (2, .long v2), (4, .int v4), (5, .long v5)]) S.1 S.2.1 dX6_proof_116 hl (k := 5) rfl rfl (by decide) rfl (fun ls hl => ?_)
      refine lv_goto (tgt := 91) S.1 S.2.1 dX6_proof_119 (by decide) ?_
      exact ih v2 v4 v5 (v7 + (1 : Int32))  M18 hf _ _ _ hP hS (lv_sub hl [1, 2, 3, 4, 5, 0] rfl) kk
set_option maxHeartbeats 4000000 in
set_option maxRecDepth 100000 in
theorem L_X6_proof_52 (l : Launch) (E : EE) (ad : Nat → Nat) (hI : ad_I ad 7) (N : Nat) (a1 : Int32)  {p : Program} {e : Env} {s : State} {m : MethodId} {below : List Frame} {meth : Method} {c : Code} (S : CallFix p m c cX6_proof 8 s [.ref (ad 0), .int a1].toArray bg_B "SurvivorPurseModel") (hr : meth.sig.returnType = (some .long)) (hlk : meth.locks = false) (hK : va_K E.1 vwCl (tysE E) s) (hN : NW s) (r : Int64) (M' : MM) : ∀ (fu : Nat) (v2 : Int64) (v4 : Int32)  (M : MM), F_X6_proof_52 N a1 fu v2 v4 M = some (r, M') → ∀ (H : Heap) (locs : List Loc) (ls : Array Slot), va_P E.1 vwCl (mw (entM E ad M) ad 7) H → va_S (AA ad 7 s.heap.size) s.heap H locs → lv_has ls 8 [(0, .ref (ad 0)), (1, .int a1), (2, .long v2), (4, .int v4)] → W p l e { frames := 2, cells := 0, slots := 0, locals := 53 } s m [.ref (ad 0), .int a1].toArray below meth c H locs 0 0 (MQ below (va_Ql (fun r0 (_ : Unit) => r0 = r) (fun _ t => QB E (entM E ad M') ad 7 t) (AA ad 7 s.heap.size)) [.ref (ad 0), .int a1].toArray s 0 0 (AA ad 7 s.heap.size)) (F0 m 52 ls []) := by
  intro fu
  induction fu with
  | zero =>
    intro v2 v4 M hf
    rw [F_X6_proof_52] at hf
    cases hf
  | succ fu ih =>
    intro v2 v4 M hf H locs ls hP hS hl
    rw [F_X6_proof_52] at hf
    refine lv_iload S.1 S.2.1 dX6_proof_52 (lv_at hl 3 rfl) ?_
    refine lv_i2l (v := v4.toInt64) S.1 S.2.1 dX6_proof_54 rfl ?_
    refine lv_aload_n S.1 S.2.1 dX6_proof_55 rfl (lv_at hl 0 rfl) ?_
    refine x_get (v := .ref (ad 1)) S hK hP w_lay_X6 (ci := 6) rfl 0 (by decide) m0 0 (by decide) w_fl_X6_7 rfl rfl dX6_proof_56 ?_
    refine lv_sipush (v := (5670 : Int32)) S.1 S.2.1 dX6_proof_59 (by decide) ?_
    refine x_laldc (j := 5670) S hK hP 1 (by decide) m1 (by decide) (by decide) dX6_proof_62 ?_
    refine ll_ge (tgt := 154) S dX6_proof_63 dX6_proof_64 (by decide) (fun h7 => ?_) (fun h7 => ?_)
    · replace hf := ift h7 hf
      refine lv_lload_n S.1 S.2.1 dX6_proof_154 rfl (lv_at hl 2 rfl) ?_
      cases hf
      exact r_l S hr hlk hP hS dX6_proof_155
    · replace hf := iff_ h7 hf
      refine lv_aload_n S.1 S.2.1 dX6_proof_67 rfl (lv_at hl 0 rfl) ?_
      refine lv_iload S.1 S.2.1 dX6_proof_68 (lv_at hl 3 rfl) ?_
      refine lv_iload_n S.1 S.2.1 dX6_proof_70 rfl (lv_at hl 1 rfl) ?_
      obtain ⟨x8, gx8, hf⟩ := bn1_some hf
      refine y_Vi (As := [.int v4, .int a1]) S hK hN hP hS rfl (by decide) m0 rfl (K_X6_hasLife l E ad hI _ N v4 a1  M x8 gx8) (cV 2 S w_co_yX6_hasLife w_in_X6 w_ml_X6_101 w_im_yX6_hasLife w_se_yX6_hasLife hd_X6_hasLife ⟨Nat.le_of_ble_eq_true rfl, Nat.le_of_ble_eq_true rfl⟩) hl.1 rfl rfl (Nat.le_of_ble_eq_true rfl) dX6_proof_71 ⟨Nat.zero_le _, Nat.zero_le _⟩ (fun H locs hP hS => ?_)
      refine lv_if_ne (tgt := 80) S.1 S.2.1 dX6_proof_74 (by decide) (fun h9 => ?_) (fun h9 => ?_)
      · replace hf := iff_ h9 hf
        refine lv_aload_n S.1 S.2.1 dX6_proof_80 rfl (lv_at hl 0 rfl) ?_
        refine lv_iload S.1 S.2.1 dX6_proof_81 (lv_at hl 3 rfl) ?_
        obtain ⟨x10, gx10, hf⟩ := bn1_some hf
        refine y_Vl (As := [.int v4]) S hK hN hP hS rfl (by decide) m0 rfl (K_X6_heldBy l E ad hI _ N v4  M x10 gx10) (cV 1 S w_co_yX6_heldBy w_in_X6 w_ml_X6_114 w_im_yX6_heldBy w_se_yX6_heldBy hd_X6_heldBy ⟨Nat.le_of_ble_eq_true rfl, Nat.le_of_ble_eq_true rfl⟩) hl.1 rfl rfl (Nat.le_of_ble_eq_true rfl) dX6_proof_83 ⟨Nat.zero_le _, Nat.zero_le _⟩ (fun H locs hP hS => ?_)
        refine lv_lstore (lv' := [(5, .long x10), (0, .ref (ad 0)), (1, .int a1), (2, .long v2), (4, .int v4)]) S.1 S.2.1 dX6_proof_86 hl (by decide) rfl (fun ls hl => ?_)
        refine lv_iconst (v := (0 : Int32)) S.1 S.2.1 dX6_proof_88 (by decide) ?_
        refine lv_istore (lv' := [(7, .int (0 : Int32)), (5, .long x10), (0, .ref (ad 0)), (1, .int a1), (2, .long v2), (4, .int v4)]) S.1 S.2.1 dX6_proof_89 hl (by decide) rfl (fun ls hl => ?_)
        obtain ⟨M11, gq, hf⟩ := bn1_some hf
        refine L_X6_proof_91 l E ad hI N a1  S hr hlk hK hN M11 N v2 v4 x10 (0 : Int32)  M gq _ _ _ hP hS (lv_sub hl [2, 3, 4, 5, 1, 0] rfl) (fun H locs ls hP hS hl => ?_)
        refine lv_aload_n S.1 S.2.1 dX6_proof_122 rfl (lv_at hl 0 rfl) ?_
        refine lv_iload S.1 S.2.1 dX6_proof_123 (lv_at hl 3 rfl) ?_
        refine lv_lload S.1 S.2.1 dX6_proof_125 (lv_at hl 4 rfl) ?_
        obtain ⟨M12, gM12, hf⟩ := bn1_some hf
        refine y_Vv (As := [.int v4, .long x10]) S hK hN hP hS rfl (by decide) m0 rfl (K_X6_pays l E ad hI _ N v4 x10  M11 M12 gM12) (cV 2 S w_co_yX6_pays w_in_X6 w_ml_X6_121 w_im_yX6_pays w_se_yX6_pays hd_X6_pays ⟨Nat.le_of_ble_eq_true rfl, Nat.le_of_ble_eq_true rfl⟩) hl.1 rfl rfl (Nat.le_of_ble_eq_true rfl) dX6_proof_127 ⟨Nat.zero_le _, Nat.zero_le _⟩ (fun H locs hP hS => ?_)
        refine lv_aload_n S.1 S.2.1 dX6_proof_130 rfl (lv_at hl 0 rfl) ?_
        refine x_get (v := .ref (ad 1)) S hK hP w_lay_X6 (ci := 6) rfl 0 (by decide) m0 0 (by decide) w_fl_X6_7 rfl rfl dX6_proof_131 ?_
        refine lv_iload S.1 S.2.1 dX6_proof_134 (lv_at hl 3 rfl) ?_
        refine lv_bipush (v := (10 : Int32)) S.1 S.2.1 dX6_proof_136 (by decide) ?_
        refine y_Si (As := [.int v4, .int (10 : Int32)]) S hK hN hP hS rfl (K_X6_part l E ad hI _ v4 (10 : Int32)  M12 _ rfl) (cS 2 S w_co_yX6_part w_in_X6 w_ml_X6_89 w_st_yX6_part hd_X6_part ⟨Nat.le_of_ble_eq_true rfl, Nat.le_of_ble_eq_true rfl⟩) hl.1 rfl rfl (Nat.le_of_ble_eq_true rfl) dX6_proof_138 ⟨Nat.zero_le _, Nat.zero_le _⟩ (fun H locs hP hS => ?_)
        refine lv_lconst (v := (0 : Int64)) S.1 S.2.1 dX6_proof_141 (by decide) ?_
        obtain ⟨h13, hf⟩ := gd_some hf
        refine x_last S hI hK hP hS 1 (by decide) m1 h13 (entM E ad (sL M12 1 (ix (F_X6_part v4 (10 : Int32))) (0 : Int64))) n1 (fun _ h => entM_sL _ h) dX6_proof_142 (fun H locs hP hS => ?_)
        obtain ⟨M14, eM14, hf⟩ := bnd_some hf
        rw [← eM14] at hP
        refine lv_lload_n S.1 S.2.1 dX6_proof_143 rfl (lv_at hl 2 rfl) ?_
        refine lv_lload S.1 S.2.1 dX6_proof_144 (lv_at hl 4 rfl) ?_
        refine lv_ladd S.1 S.2.1 dX6_proof_146 ?_
        obtain ⟨x15, ex15, hf⟩ := bnd_some hf
        refine lv_rel ex15 ?_
        refine lv_lstore_n (lv' := [(2, .long x15), (0, .ref (ad 0)), (1, .int a1), (4, .int v4), (5, .long x10)]) S.1 S.2.1 dX6_proof_147 rfl hl (by decide) rfl (fun ls hl => ?_)
        refine lv_iinc (v := v4 + (1 : Int32)) (lv' := [(4, .int (v4 + (1 : Int32))), (2, .long x15), (0, .ref (ad 0)), (1, .int a1), (5, .long x10)]) S.1 S.2.1 dX6_proof_148 hl (k := 3) rfl rfl (by decide) rfl (fun ls hl => ?_)
        refine lv_goto (tgt := 52) S.1 S.2.1 dX6_proof_151 (by decide) ?_
        exact ih x15 (v4 + (1 : Int32))  M14 hf _ _ _ hP hS (lv_sub hl [2, 3, 1, 0] rfl)
      · replace hf := ift h9 hf
        refine lv_goto (tgt := 148) S.1 S.2.1 dX6_proof_77 (by decide) ?_
        refine lv_iinc (v := v4 + (1 : Int32)) (lv' := [(4, .int (v4 + (1 : Int32))), (0, .ref (ad 0)), (1, .int a1), (2, .long v2)]) S.1 S.2.1 dX6_proof_148 hl (k := 3) rfl rfl (by decide) rfl (fun ls hl => ?_)
        refine lv_goto (tgt := 52) S.1 S.2.1 dX6_proof_151 (by decide) ?_
        exact ih v2 (v4 + (1 : Int32))  M hf _ _ _ hP hS (lv_sub hl [1, 2, 3, 0] rfl)
set_option maxHeartbeats 4000000 in
set_option maxRecDepth 100000 in
theorem K_X6_proof (l : Launch) (E : EE) (ad : Nat → Nat) (hI : ad_I ad 7) (sz : Nat) (N : Nat) (a1 : Int32)  (M : MM) (r : Int64) (M' : MM) (hf : F_X6_proof N a1 M = some (r, M')) : CtL l yX6_proof cX6_proof 8 2 53 E (entM E ad M) (entM E ad M') ad 7 sz [.ref (ad 0), .int a1] (r) := by
  unfold CtL
  refine body_of (by decide) "SurvivorPurseModel" rfl (Nat.le_of_ble_eq_true rfl) ?_
  intro p e s m below meth c hsz S hr hlk hP hK hN ls hl
  subst hsz
  have hS : va_S (AA ad 7 s.heap.size) s.heap s.heap [] := va_S.rf
  have hl : lv_has ls 8 [(0, .ref (ad 0)), (1, .int a1)] := hl
  rw [F_X6_proof] at hf
  refine lv_aload_n S.1 S.2.1 dX6_proof_0 rfl (lv_at hl 0 rfl) ?_
  refine lv_iload_n S.1 S.2.1 dX6_proof_1 rfl (lv_at hl 1 rfl) ?_
  refine y_Vi (As := [.int a1]) S hK hN hP hS rfl (by decide) m0 rfl (K_X6_isMember l E ad hI _ a1  M _ rfl) (cV 1 S w_co_yX6_isMember w_in_X6 w_ml_X6_66 w_im_yX6_isMember w_se_yX6_isMember hd_X6_isMember ⟨Nat.le_of_ble_eq_true rfl, Nat.le_of_ble_eq_true rfl⟩) hl.1 rfl rfl (Nat.le_of_ble_eq_true rfl) dX6_proof_2 ⟨Nat.zero_le _, Nat.zero_le _⟩ (fun H locs hP hS => ?_)
  refine lv_if_eq (tgt := 32) S.1 S.2.1 dX6_proof_5 (by decide) (fun h1 => ?_) (fun h1 => ?_)
  · replace hf := ift h1 hf
    refine lv_ldc2 (own := "SurvivorPurseModel") (v := (-1000000000000000 : Int64)) S.1 S.2.1 S.2.2.2.1 (S.2.2.2.2 _ w_kl_X6_41) dX6_proof_32 ?_
    cases hf
    exact r_l S hr hlk hP hS dX6_proof_35
  · replace hf := iff_ h1 hf
    refine lv_aload_n S.1 S.2.1 dX6_proof_8 rfl (lv_at hl 0 rfl) ?_
    refine lv_iload_n S.1 S.2.1 dX6_proof_9 rfl (lv_at hl 1 rfl) ?_
    refine lv_i2l (v := a1.toInt64) S.1 S.2.1 dX6_proof_10 rfl ?_
    obtain ⟨x2, gx2, hf⟩ := bn1_some hf
    refine y_Vi (As := [.long a1.toInt64]) S hK hN hP hS rfl (by decide) m0 rfl (K_X6_isDead l E ad hI _ N a1.toInt64  M x2 gx2) (cV 1 S w_co_yX6_isDead w_in_X6 w_ml_X6_75 w_im_yX6_isDead w_se_yX6_isDead hd_X6_isDead ⟨Nat.le_of_ble_eq_true rfl, Nat.le_of_ble_eq_true rfl⟩) hl.1 rfl rfl (Nat.le_of_ble_eq_true rfl) dX6_proof_11 ⟨Nat.zero_le _, Nat.zero_le _⟩ (fun H locs hP hS => ?_)
    refine lv_if_ne (tgt := 32) S.1 S.2.1 dX6_proof_14 (by decide) (fun h3 => ?_) (fun h3 => ?_)
    · replace hf := iff_ h3 hf
      refine lv_ldc2 (own := "SurvivorPurseModel") (v := (-1000000000000000 : Int64)) S.1 S.2.1 S.2.2.2.1 (S.2.2.2.2 _ w_kl_X6_41) dX6_proof_32 ?_
      cases hf
      exact r_l S hr hlk hP hS dX6_proof_35
    · replace hf := ift h3 hf
      refine lv_aload_n S.1 S.2.1 dX6_proof_17 rfl (lv_at hl 0 rfl) ?_
      refine x_get (v := .ref (ad 1)) S hK hP w_lay_X6 (ci := 6) rfl 0 (by decide) m0 0 (by decide) w_fl_X6_7 rfl rfl dX6_proof_18 ?_
      refine lv_iload_n S.1 S.2.1 dX6_proof_21 rfl (lv_at hl 1 rfl) ?_
      refine lv_iconst (v := (4 : Int32)) S.1 S.2.1 dX6_proof_22 (by decide) ?_
      refine y_Si (As := [.int a1, .int (4 : Int32)]) S hK hN hP hS rfl (K_X6_cellOf l E ad hI _ a1 (4 : Int32)  M _ rfl) (cS 2 S w_co_yX6_cellOf w_in_X6 w_ml_X6_63 w_st_yX6_cellOf hd_X6_cellOf ⟨Nat.le_of_ble_eq_true rfl, Nat.le_of_ble_eq_true rfl⟩) hl.1 rfl rfl (Nat.le_of_ble_eq_true rfl) dX6_proof_23 ⟨Nat.zero_le _, Nat.zero_le _⟩ (fun H locs hP hS => ?_)
      obtain ⟨h4, hf⟩ := gd_some hf
      refine x_lald S hK hP 1 (by decide) m1 h4 dX6_proof_26 ?_
      refine lv_lconst (v := (1 : Int64)) S.1 S.2.1 dX6_proof_27 (by decide) ?_
      refine ll_ne (tgt := 36) S dX6_proof_28 dX6_proof_29 (by decide) (fun h5 => ?_) (fun h5 => ?_)
      · replace hf := iff_ h5 hf
        refine lv_aload_n S.1 S.2.1 dX6_proof_36 rfl (lv_at hl 0 rfl) ?_
        refine x_get (v := .ref (ad 1)) S hK hP w_lay_X6 (ci := 6) rfl 0 (by decide) m0 0 (by decide) w_fl_X6_7 rfl rfl dX6_proof_37 ?_
        refine lv_iload_n S.1 S.2.1 dX6_proof_40 rfl (lv_at hl 1 rfl) ?_
        refine lv_iconst (v := (4 : Int32)) S.1 S.2.1 dX6_proof_41 (by decide) ?_
        refine y_Si (As := [.int a1, .int (4 : Int32)]) S hK hN hP hS rfl (K_X6_cellOf l E ad hI _ a1 (4 : Int32)  M _ rfl) (cS 2 S w_co_yX6_cellOf w_in_X6 w_ml_X6_63 w_st_yX6_cellOf hd_X6_cellOf ⟨Nat.le_of_ble_eq_true rfl, Nat.le_of_ble_eq_true rfl⟩) hl.1 rfl rfl (Nat.le_of_ble_eq_true rfl) dX6_proof_42 ⟨Nat.zero_le _, Nat.zero_le _⟩ (fun H locs hP hS => ?_)
        refine lv_lconst (v := (1 : Int64)) S.1 S.2.1 dX6_proof_45 (by decide) ?_
        refine x_last S hI hK hP hS 1 (by decide) m1 h4 (entM E ad (sL M 1 (ix (F_X6_cellOf a1 (4 : Int32))) (1 : Int64))) n1 (fun _ h => entM_sL _ h) dX6_proof_46 (fun H locs hP hS => ?_)
        obtain ⟨M6, eM6, hf⟩ := bnd_some hf
        rw [← eM6] at hP
        refine lv_lconst (v := (0 : Int64)) S.1 S.2.1 dX6_proof_47 (by decide) ?_
        refine lv_lstore_n (lv' := [(2, .long (0 : Int64)), (0, .ref (ad 0)), (1, .int a1)]) S.1 S.2.1 dX6_proof_48 rfl hl (by decide) rfl (fun ls hl => ?_)
        refine lv_iconst (v := (0 : Int32)) S.1 S.2.1 dX6_proof_49 (by decide) ?_
        refine lv_istore (lv' := [(4, .int (0 : Int32)), (2, .long (0 : Int64)), (0, .ref (ad 0)), (1, .int a1)]) S.1 S.2.1 dX6_proof_50 hl (by decide) rfl (fun ls hl => ?_)
        exact L_X6_proof_52 l E ad hI N a1  S hr hlk hK hN _ _ N (0 : Int64) (0 : Int32)  M6 hf _ _ _ hP hS (lv_sub hl [2, 3, 1, 0] rfl)
      · replace hf := ift h5 hf
        refine lv_ldc2 (own := "SurvivorPurseModel") (v := (-1000000000000000 : Int64)) S.1 S.2.1 S.2.2.2.1 (S.2.2.2.2 _ w_kl_X6_41) dX6_proof_32 ?_
        cases hf
        exact r_l S hr hlk hP hS dX6_proof_35

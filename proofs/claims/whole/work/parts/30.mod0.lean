def F_X6_in (a1 : Int64) (a2 : Int64) (a3 : Int64) : Bool :=
  if a1 < a2 then
    false
  else
    if a3 < a1 then
      false
    else
      true
def F_X6_isMember (a1 : Int32) (M : MM) : Bool :=
  F_X6_in a1.toInt64 (0 : Int64) ((gL M 1 5668) - (1 : Int64))
def F_X6_isClass (a1 : Int32) (M : MM) : Bool :=
  F_X6_in a1.toInt64 (0 : Int64) ((gL M 1 5669) - (1 : Int64))
def F_X6_isShare (a1 : Int32) (M : MM) : Bool :=
  F_X6_in a1.toInt64 (0 : Int64) ((gL M 1 5670) - (1 : Int64))
def F_X6_cellOf (a1 : Int32) (a2 : Int32) : Int32 :=
  ((111 : Int32) + ((7 : Int32) * a1)) + a2
def F_X6_groupCell (a1 : Int32) (a2 : Int32) : Int32 :=
  ((279 : Int32) + ((4 : Int32) * a1)) + a2
def F_X6_part (a1 : Int32) (a2 : Int32) : Int32 :=
  ((303 : Int32) + ((14 : Int32) * a1)) + a2
def F_X6_living_48 (N : Nat) (a1 : Int32) (a2 : Int32)  (M : MM) : Option (Int64 × MM) :=
    if (110 : Int32) ≤ a1 then
      gd (ib ((0 : Int32) + a1) 5672) (
      bnd (gL M 1 (ix ((0 : Int32) + a1))) (fun x8 =>
      bnd (sL M 1 (ix ((0 : Int32) + a1)) a2.toInt64) (fun M9 =>
      some (x8, M9)
      )))
    else
      gd (ib (((0 : Int32) + a1) + (1 : Int32)) 5672) (
      if gL M 1 (ix (((0 : Int32) + a1) + (1 : Int32))) ≤ a2.toInt64 then
        gd (ib ((0 : Int32) + a1) 5672) (
        bnd (gL M 1 (ix ((0 : Int32) + a1))) (fun x13 =>
        bnd (sL M 1 (ix ((0 : Int32) + a1)) a2.toInt64) (fun M14 =>
        some (x13, M14)
        )))
      else
        some ((-1000000000000000 : Int64), M)
      )
def F_X6_living (N : Nat) (a1 : Int32) (a2 : Int32) (M : MM) : Option (Int64 × MM) :=
  if bI (F_X6_in a1.toInt64 (0 : Int64) (110 : Int64)) = (0 : Int32) then
    some ((-1000000000000000 : Int64), M)
  else
    if bI (F_X6_in a2.toInt64 (0 : Int64) (100000 : Int64)) = (0 : Int32) then
      some ((-1000000000000000 : Int64), M)
    else
      if a1 ≤ (0 : Int32) then
        F_X6_living_48 N a1 a2   M
      else
        gd (ib (((0 : Int32) + a1) - (1 : Int32)) 5672) (
        if gL M 1 (ix (((0 : Int32) + a1) - (1 : Int32))) < a2.toInt64 then
          some ((-1000000000000000 : Int64), M)
        else
          F_X6_living_48 N a1 a2   M
        )
def F_X6_foretell (N : Nat) (a1 : Int32) (a2 : Int32) (M : MM) : Option Int64 :=
  if bI (F_X6_in a1.toInt64 (0 : Int64) (110 : Int64)) = (0 : Int32) then
    some (-1000000000000000 : Int64)
  else
    if (0 : Int32) ≤ a2 then
      gd (ib ((0 : Int32) + a1) 5672) (
      bnd (gL M 1 (ix ((0 : Int32) + a1))) (fun x4 =>
      if x4 = (0 : Int64) then
        some (0 : Int64)
      else
        if a2 ≤ (110 : Int32) - a1 then
          gd (ib (((0 : Int32) + a1) + a2) 5672) (
          gd (nz x4) (
          some (((1000000 : Int64) * (gL M 1 (ix (((0 : Int32) + a1) + a2)))) / x4)
          ))
        else
          some (0 : Int64)
      ))
    else
      some (-1000000000000000 : Int64)
def F_X6_later_7 (N : Nat) (a1 : Int32) : Nat → Int64 → Int32 → MM → Option Int64
  | 0, _, _, _ => none
  | fu + 1, v2, v4, M =>
    if (110 : Int32) < v4 then
      some v2
    else
      gd (ib ((0 : Int32) + v4) 5672) (
      bnd (v2 + (gL M 1 (ix ((0 : Int32) + v4)))) (fun x4 =>
      F_X6_later_7 N a1 fu x4 (v4 + (1 : Int32)) M
      ))
def F_X6_later (N : Nat) (a1 : Int32) (M : MM) : Option Int64 :=
  bnd (a1 + (1 : Int32)) (fun x1 =>
  F_X6_later_7 N a1 N (0 : Int64) x1 M
  )
def F_X6_mean (N : Nat) (a1 : Int32) (M : MM) : Option Int64 :=
  if bI (F_X6_in a1.toInt64 (0 : Int64) (110 : Int64)) = (0 : Int32) then
    some (-1000000000000000 : Int64)
  else
    gd (ib ((0 : Int32) + a1) 5672) (
    if gL M 1 (ix ((0 : Int32) + a1)) = (0 : Int64) then
      some (0 : Int64)
    else
      bn1 (F_X6_later N a1 M) (fun x4 =>
      gd (nz (gL M 1 (ix ((0 : Int32) + a1)))) (
      some (((1000 : Int64) * x4) / (gL M 1 (ix ((0 : Int32) + a1))))
      ))
    )
def F_X6_dearer (N : Nat) (a1 : Int32) (a2 : Int32) (M : MM) : Option Int64 :=
  if bI (F_X6_isClass a1 M) = (0 : Int32) then
    some (-1000000000000000 : Int64)
  else
    if bI (F_X6_isClass a2 M) = (0 : Int32) then
      some (-1000000000000000 : Int64)
    else
      gd (ib (F_X6_groupCell a1 (0 : Int32)) 5672) (
      bnd ((gL M 1 (ix (F_X6_groupCell a1 (0 : Int32)))).toInt32) (fun x4 =>
      gd (ib (F_X6_groupCell a2 (0 : Int32)) 5672) (
      bnd ((gL M 1 (ix (F_X6_groupCell a2 (0 : Int32)))).toInt32) (fun x6 =>
      bn1 (F_X6_later N x4 M) (fun x7 =>
      bn1 (F_X6_later N x6 M) (fun x8 =>
      if x7 = (0 : Int64) then
        if x7 = x8 then
          some (0 : Int64)
        else
          some (1 : Int64)
      else
        if x8 = (0 : Int64) then
          if x7 = x8 then
            some (0 : Int64)
          else
            some (-1 : Int64)
        else
          gd (ib (F_X6_groupCell a1 (2 : Int32)) 5672) (
          gd (ib ((0 : Int32) + x4) 5672) (
          bnd (((gL M 1 (ix (F_X6_groupCell a1 (2 : Int32)))) * (gL M 1 (ix ((0 : Int32) + x4)))) * x8) (fun x15 =>
          gd (ib (F_X6_groupCell a2 (2 : Int32)) 5672) (
          gd (ib ((0 : Int32) + x6) 5672) (
          bnd (((gL M 1 (ix (F_X6_groupCell a2 (2 : Int32)))) * (gL M 1 (ix ((0 : Int32) + x6)))) * x7) (fun x18 =>
          if x15 ≤ x18 then
            if x18 ≤ x15 then
              some (0 : Int64)
            else
              some (-1 : Int64)
          else
            some (1 : Int64)
          ))))))
      ))))))
def F_X6_member_63 (N : Nat) (a1 : Int32) : Nat → Int32 → Int32 → MM → Option (Int64 × MM)
  | 0, _, _, _ => none
  | fu + 1, v2, v3, M =>
    if (7 : Int32) ≤ v3 then
      gd (ib (F_X6_cellOf v2 (0 : Int32)) 5672) (
      bnd (sL M 1 (ix (F_X6_cellOf v2 (0 : Int32))) a1.toInt64) (fun M7 =>
      gd (ib (F_X6_cellOf v2 (3 : Int32)) 5672) (
      bnd (sL M7 1 (ix (F_X6_cellOf v2 (3 : Int32))) (-1 : Int64)) (fun M9 =>
      bnd (sL M9 1 5668 ((gL M9 1 5668) + (1 : Int64))) (fun M10 =>
      some (v2.toInt64, M10)
      )))))
    else
      gd (ib (F_X6_cellOf v2 v3) 5672) (
      bnd (sL M 1 (ix (F_X6_cellOf v2 v3)) (0 : Int64)) (fun M12 =>
      F_X6_member_63 N a1 fu v2 (v3 + (1 : Int32)) M12
      ))
def F_X6_member (N : Nat) (a1 : Int32) (M : MM) : Option (Int64 × MM) :=
  if gL M 1 5663 < a1.toInt64 then
    some ((-1000000000000000 : Int64), M)
  else
    if a1.toInt64 < (gL M 1 5663) - (110 : Int64) then
      some ((-1000000000000000 : Int64), M)
    else
      if gL M 1 5668 = (24 : Int64) then
        some ((-1000000000000000 : Int64), M)
      else
        bnd ((gL M 1 5668).toInt32) (fun x4 =>
        F_X6_member_63 N a1 N x4 (0 : Int32) M
        )
def F_X6_heir (N : Nat) (a1 : Int32) (a2 : Int32) (M : MM) : Option (Int64 × MM) :=
  if bI (F_X6_isMember a1 M) = (0 : Int32) then
    some ((-1000000000000000 : Int64), M)
  else
    if a2 = (-1 : Int32) then
      gd (ib (F_X6_cellOf a1 (3 : Int32)) 5672) (
      bnd (gL M 1 (ix (F_X6_cellOf a1 (3 : Int32)))) (fun x4 =>
      bnd (sL M 1 (ix (F_X6_cellOf a1 (3 : Int32))) a2.toInt64) (fun M5 =>
      some (x4, M5)
      )))
    else
      if bI (F_X6_isMember a2 M) = (0 : Int32) then
        some ((-1000000000000000 : Int64), M)
      else
        if a2 = a1 then
          some ((-1000000000000000 : Int64), M)
        else
          gd (ib (F_X6_cellOf a1 (3 : Int32)) 5672) (
          bnd (gL M 1 (ix (F_X6_cellOf a1 (3 : Int32)))) (fun x9 =>
          bnd (sL M 1 (ix (F_X6_cellOf a1 (3 : Int32))) a2.toInt64) (fun M10 =>
          some (x9, M10)
          )))
def F_X6_group (N : Nat) (a1 : Int32) (a2 : Int32) (a3 : Int32) (M : MM) : Option (Int64 × MM) :=
  if bI (F_X6_in a1.toInt64 (0 : Int64) (110 : Int64)) = (0 : Int32) then
    some ((-1000000000000000 : Int64), M)
  else
    if bI (F_X6_in a2.toInt64 (0 : Int64) (110 : Int64)) = (0 : Int32) then
      some ((-1000000000000000 : Int64), M)
    else
      if a2 < a1 then
        some ((-1000000000000000 : Int64), M)
      else
        if bI (F_X6_in a3.toInt64 (1 : Int64) (10000 : Int64)) = (0 : Int32) then
          some ((-1000000000000000 : Int64), M)
        else
          if gL M 1 5669 = (6 : Int64) then
            some ((-1000000000000000 : Int64), M)
          else
            bnd ((gL M 1 5669).toInt32) (fun x6 =>
            gd (ib (F_X6_groupCell x6 (0 : Int32)) 5672) (
            bnd (sL M 1 (ix (F_X6_groupCell x6 (0 : Int32))) a1.toInt64) (fun M8 =>
            gd (ib (F_X6_groupCell x6 (1 : Int32)) 5672) (
            bnd (sL M8 1 (ix (F_X6_groupCell x6 (1 : Int32))) a2.toInt64) (fun M10 =>
            gd (ib (F_X6_groupCell x6 (2 : Int32)) 5672) (
            bnd (sL M10 1 (ix (F_X6_groupCell x6 (2 : Int32))) a3.toInt64) (fun M12 =>
            gd (ib (F_X6_groupCell x6 (3 : Int32)) 5672) (
            bnd (sL M12 1 (ix (F_X6_groupCell x6 (3 : Int32))) (0 : Int64)) (fun M14 =>
            bnd (sL M14 1 5669 ((gL M14 1 5669) + (1 : Int64))) (fun M15 =>
            some (x6.toInt64, M15)
            ))))))))))
theorem hd_X6_in : yX6_in.cls ≠ "java/lang/invoke/MethodHandle" ∧ yX6_in.cls ≠ "java/lang/invoke/VarHandle" ∧ (parseMethodDescriptor yX6_in.desc).map (fun d => d.parameters.length) = some 3 := by decide +kernel
set_option maxHeartbeats 4000000 in
set_option maxRecDepth 100000 in
theorem K_X6_in (l : Launch) (E : EE) (ad : Nat → Nat) (hI : ad_I ad 7) (sz : Nat) (a1 : Int64) (a2 : Int64) (a3 : Int64)  (M : MM) (r : Bool) (hf : F_X6_in a1 a2 a3 = r) : CtI l yX6_in cX6_in 6 0 0 .boolean E (entM E ad M) (entM E ad M) ad 7 sz [.long a1, .long a2, .long a3] (bI r) := by
  unfold CtI
  refine body_of (by decide) "SurvivorPurseModel" rfl (Nat.le_of_ble_eq_true rfl) ?_
  intro p e s m below meth c hsz S hr hlk hP hK hN ls hl
  subst hsz
  have hS : va_S (AA ad 7 s.heap.size) s.heap s.heap [] := va_S.rf
  have hl : lv_has ls 6 [(0, .long a1), (2, .long a2), (4, .long a3)] := hl
  rw [F_X6_in] at hf
  refine lv_lload_n S.1 S.2.1 dX6_in_0 rfl (lv_at hl 0 rfl) ?_
  refine lv_lload_n S.1 S.2.1 dX6_in_1 rfl (lv_at hl 1 rfl) ?_
  refine ll_lt (tgt := 17) S dX6_in_2 dX6_in_3 (by decide) (fun h1 => ?_) (fun h1 => ?_)
  · replace hf := ift h1 hf
    refine lv_iconst (v := (0 : Int32)) S.1 S.2.1 dX6_in_17 (by decide) ?_
    subst hf
    exact r_z S hr hlk hP hS dX6_in_18
  · replace hf := iff_ h1 hf
    refine lv_lload_n S.1 S.2.1 dX6_in_6 rfl (lv_at hl 0 rfl) ?_
    refine lv_lload S.1 S.2.1 dX6_in_7 (lv_at hl 2 rfl) ?_
    refine ll_gt (tgt := 17) S dX6_in_9 dX6_in_10 (by decide) (fun h2 => ?_) (fun h2 => ?_)
    · replace hf := ift h2 hf
      refine lv_iconst (v := (0 : Int32)) S.1 S.2.1 dX6_in_17 (by decide) ?_
      subst hf
      exact r_z S hr hlk hP hS dX6_in_18
    · replace hf := iff_ h2 hf
      refine lv_iconst (v := (1 : Int32)) S.1 S.2.1 dX6_in_13 (by decide) ?_
      refine lv_goto (tgt := 18) S.1 S.2.1 dX6_in_14 (by decide) ?_
      subst hf
      exact r_z S hr hlk hP hS dX6_in_18
theorem hd_X6_isMember : yX6_isMember.cls ≠ "java/lang/invoke/MethodHandle" ∧ yX6_isMember.cls ≠ "java/lang/invoke/VarHandle" ∧ (parseMethodDescriptor yX6_isMember.desc).map (fun d => d.parameters.length) = some 1 := by decide +kernel
set_option maxHeartbeats 4000000 in
set_option maxRecDepth 100000 in
theorem K_X6_isMember (l : Launch) (E : EE) (ad : Nat → Nat) (hI : ad_I ad 7) (sz : Nat) (a1 : Int32)  (M : MM) (r : Bool) (hf : F_X6_isMember a1 M = r) : CtI l yX6_isMember cX6_isMember 2 1 25 .boolean E (entM E ad M) (entM E ad M) ad 7 sz [.ref (ad 0), .int a1] (bI r) := by
  unfold CtI
  refine body_of (by decide) "SurvivorPurseModel" rfl (Nat.le_of_ble_eq_true rfl) ?_
  intro p e s m below meth c hsz S hr hlk hP hK hN ls hl
  subst hsz
  have hS : va_S (AA ad 7 s.heap.size) s.heap s.heap [] := va_S.rf
  have hl : lv_has ls 2 [(0, .ref (ad 0)), (1, .int a1)] := hl
  rw [F_X6_isMember] at hf
  refine lv_iload_n S.1 S.2.1 dX6_isMember_0 rfl (lv_at hl 1 rfl) ?_
  refine lv_i2l (v := a1.toInt64) S.1 S.2.1 dX6_isMember_1 rfl ?_
  refine lv_lconst (v := (0 : Int64)) S.1 S.2.1 dX6_isMember_2 (by decide) ?_
  refine lv_aload_n S.1 S.2.1 dX6_isMember_3 rfl (lv_at hl 0 rfl) ?_
  refine x_get (v := .ref (ad 1)) S hK hP w_lay_X6 (ci := 6) rfl 0 (by decide) m0 0 (by decide) w_fl_X6_7 rfl rfl dX6_isMember_4 ?_
  refine lv_sipush (v := (5668 : Int32)) S.1 S.2.1 dX6_isMember_7 (by decide) ?_
  refine x_laldc (j := 5668) S hK hP 1 (by decide) m1 (by decide) (by decide) dX6_isMember_10 ?_
  refine lv_lconst (v := (1 : Int64)) S.1 S.2.1 dX6_isMember_11 (by decide) ?_
  refine lv_lsub S.1 S.2.1 dX6_isMember_12 ?_
  refine y_Si (As := [.long a1.toInt64, .long (0 : Int64), .long ((gL M 1 5668) - (1 : Int64))]) S hK hN hP hS rfl (K_X6_in l E ad hI _ a1.toInt64 (0 : Int64) ((gL M 1 5668) - (1 : Int64))  M _ rfl) (cS 3 S w_co_yX6_in w_in_X6 w_ml_X6_35 w_st_yX6_in hd_X6_in ⟨Nat.le_of_ble_eq_true rfl, Nat.le_of_ble_eq_true rfl⟩) hl.1 rfl rfl (Nat.le_of_ble_eq_true rfl) dX6_isMember_13 ⟨Nat.zero_le _, Nat.zero_le _⟩ (fun H locs hP hS => ?_)
  subst hf
  exact r_z S hr hlk hP hS dX6_isMember_16
theorem hd_X6_isClass : yX6_isClass.cls ≠ "java/lang/invoke/MethodHandle" ∧ yX6_isClass.cls ≠ "java/lang/invoke/VarHandle" ∧ (parseMethodDescriptor yX6_isClass.desc).map (fun d => d.parameters.length) = some 1 := by decide +kernel
set_option maxHeartbeats 4000000 in
set_option maxRecDepth 100000 in
theorem K_X6_isClass (l : Launch) (E : EE) (ad : Nat → Nat) (hI : ad_I ad 7) (sz : Nat) (a1 : Int32)  (M : MM) (r : Bool) (hf : F_X6_isClass a1 M = r) : CtI l yX6_isClass cX6_isClass 2 1 25 .boolean E (entM E ad M) (entM E ad M) ad 7 sz [.ref (ad 0), .int a1] (bI r) := by
  unfold CtI
  refine body_of (by decide) "SurvivorPurseModel" rfl (Nat.le_of_ble_eq_true rfl) ?_
  intro p e s m below meth c hsz S hr hlk hP hK hN ls hl
  subst hsz
  have hS : va_S (AA ad 7 s.heap.size) s.heap s.heap [] := va_S.rf
  have hl : lv_has ls 2 [(0, .ref (ad 0)), (1, .int a1)] := hl
  rw [F_X6_isClass] at hf
  refine lv_iload_n S.1 S.2.1 dX6_isClass_0 rfl (lv_at hl 1 rfl) ?_
  refine lv_i2l (v := a1.toInt64) S.1 S.2.1 dX6_isClass_1 rfl ?_
  refine lv_lconst (v := (0 : Int64)) S.1 S.2.1 dX6_isClass_2 (by decide) ?_
  refine lv_aload_n S.1 S.2.1 dX6_isClass_3 rfl (lv_at hl 0 rfl) ?_
  refine x_get (v := .ref (ad 1)) S hK hP w_lay_X6 (ci := 6) rfl 0 (by decide) m0 0 (by decide) w_fl_X6_7 rfl rfl dX6_isClass_4 ?_
  refine lv_sipush (v := (5669 : Int32)) S.1 S.2.1 dX6_isClass_7 (by decide) ?_
  refine x_laldc (j := 5669) S hK hP 1 (by decide) m1 (by decide) (by decide) dX6_isClass_10 ?_
  refine lv_lconst (v := (1 : Int64)) S.1 S.2.1 dX6_isClass_11 (by decide) ?_
  refine lv_lsub S.1 S.2.1 dX6_isClass_12 ?_
  refine y_Si (As := [.long a1.toInt64, .long (0 : Int64), .long ((gL M 1 5669) - (1 : Int64))]) S hK hN hP hS rfl (K_X6_in l E ad hI _ a1.toInt64 (0 : Int64) ((gL M 1 5669) - (1 : Int64))  M _ rfl) (cS 3 S w_co_yX6_in w_in_X6 w_ml_X6_35 w_st_yX6_in hd_X6_in ⟨Nat.le_of_ble_eq_true rfl, Nat.le_of_ble_eq_true rfl⟩) hl.1 rfl rfl (Nat.le_of_ble_eq_true rfl) dX6_isClass_13 ⟨Nat.zero_le _, Nat.zero_le _⟩ (fun H locs hP hS => ?_)
  subst hf
  exact r_z S hr hlk hP hS dX6_isClass_16
theorem hd_X6_isShare : yX6_isShare.cls ≠ "java/lang/invoke/MethodHandle" ∧ yX6_isShare.cls ≠ "java/lang/invoke/VarHandle" ∧ (parseMethodDescriptor yX6_isShare.desc).map (fun d => d.parameters.length) = some 1 := by decide +kernel
set_option maxHeartbeats 4000000 in
set_option maxRecDepth 100000 in
theorem K_X6_isShare (l : Launch) (E : EE) (ad : Nat → Nat) (hI : ad_I ad 7) (sz : Nat) (a1 : Int32)  (M : MM) (r : Bool) (hf : F_X6_isShare a1 M = r) : CtI l yX6_isShare cX6_isShare 2 1 25 .boolean E (entM E ad M) (entM E ad M) ad 7 sz [.ref (ad 0), .int a1] (bI r) := by
  unfold CtI
  refine body_of (by decide) "SurvivorPurseModel" rfl (Nat.le_of_ble_eq_true rfl) ?_
  intro p e s m below meth c hsz S hr hlk hP hK hN ls hl
  subst hsz
  have hS : va_S (AA ad 7 s.heap.size) s.heap s.heap [] := va_S.rf
  have hl : lv_has ls 2 [(0, .ref (ad 0)), (1, .int a1)] := hl
  rw [F_X6_isShare] at hf
  refine lv_iload_n S.1 S.2.1 dX6_isShare_0 rfl (lv_at hl 1 rfl) ?_
  refine lv_i2l (v := a1.toInt64) S.1 S.2.1 dX6_isShare_1 rfl ?_
  refine lv_lconst (v := (0 : Int64)) S.1 S.2.1 dX6_isShare_2 (by decide) ?_
  refine lv_aload_n S.1 S.2.1 dX6_isShare_3 rfl (lv_at hl 0 rfl) ?_
  refine x_get (v := .ref (ad 1)) S hK hP w_lay_X6 (ci := 6) rfl 0 (by decide) m0 0 (by decide) w_fl_X6_7 rfl rfl dX6_isShare_4 ?_
  refine lv_sipush (v := (5670 : Int32)) S.1 S.2.1 dX6_isShare_7 (by decide) ?_
  refine x_laldc (j := 5670) S hK hP 1 (by decide) m1 (by decide) (by decide) dX6_isShare_10 ?_
  refine lv_lconst (v := (1 : Int64)) S.1 S.2.1 dX6_isShare_11 (by decide) ?_
  refine lv_lsub S.1 S.2.1 dX6_isShare_12 ?_
  refine y_Si (As := [.long a1.toInt64, .long (0 : Int64), .long ((gL M 1 5670) - (1 : Int64))]) S hK hN hP hS rfl (K_X6_in l E ad hI _ a1.toInt64 (0 : Int64) ((gL M 1 5670) - (1 : Int64))  M _ rfl) (cS 3 S w_co_yX6_in w_in_X6 w_ml_X6_35 w_st_yX6_in hd_X6_in ⟨Nat.le_of_ble_eq_true rfl, Nat.le_of_ble_eq_true rfl⟩) hl.1 rfl rfl (Nat.le_of_ble_eq_true rfl) dX6_isShare_13 ⟨Nat.zero_le _, Nat.zero_le _⟩ (fun H locs hP hS => ?_)
  subst hf
  exact r_z S hr hlk hP hS dX6_isShare_16
theorem hd_X6_cellOf : yX6_cellOf.cls ≠ "java/lang/invoke/MethodHandle" ∧ yX6_cellOf.cls ≠ "java/lang/invoke/VarHandle" ∧ (parseMethodDescriptor yX6_cellOf.desc).map (fun d => d.parameters.length) = some 2 := by decide +kernel
set_option maxHeartbeats 4000000 in
set_option maxRecDepth 100000 in
theorem K_X6_cellOf (l : Launch) (E : EE) (ad : Nat → Nat) (hI : ad_I ad 7) (sz : Nat) (a1 : Int32) (a2 : Int32)  (M : MM) (r : Int32) (hf : F_X6_cellOf a1 a2 = r) : CtI l yX6_cellOf cX6_cellOf 2 0 0 .int E (entM E ad M) (entM E ad M) ad 7 sz [.int a1, .int a2] (r) := by
  unfold CtI
  refine body_of (by decide) "SurvivorPurseModel" rfl (Nat.le_of_ble_eq_true rfl) ?_
  intro p e s m below meth c hsz S hr hlk hP hK hN ls hl
  subst hsz
  have hS : va_S (AA ad 7 s.heap.size) s.heap s.heap [] := va_S.rf
  have hl : lv_has ls 2 [(0, .int a1), (1, .int a2)] := hl
  rw [F_X6_cellOf] at hf
  refine lv_bipush (v := (111 : Int32)) S.1 S.2.1 dX6_cellOf_0 (by decide) ?_
  refine lv_bipush (v := (7 : Int32)) S.1 S.2.1 dX6_cellOf_2 (by decide) ?_
  refine lv_iload_n S.1 S.2.1 dX6_cellOf_4 rfl (lv_at hl 0 rfl) ?_
  refine lv_imul S.1 S.2.1 dX6_cellOf_5 ?_
  refine lv_iadd S.1 S.2.1 dX6_cellOf_6 ?_
  refine lv_iload_n S.1 S.2.1 dX6_cellOf_7 rfl (lv_at hl 1 rfl) ?_
  refine lv_iadd S.1 S.2.1 dX6_cellOf_8 ?_
  subst hf
  exact r_i S hr hlk hP hS dX6_cellOf_9
theorem hd_X6_groupCell : yX6_groupCell.cls ≠ "java/lang/invoke/MethodHandle" ∧ yX6_groupCell.cls ≠ "java/lang/invoke/VarHandle" ∧ (parseMethodDescriptor yX6_groupCell.desc).map (fun d => d.parameters.length) = some 2 := by decide +kernel
set_option maxHeartbeats 4000000 in
set_option maxRecDepth 100000 in
theorem K_X6_groupCell (l : Launch) (E : EE) (ad : Nat → Nat) (hI : ad_I ad 7) (sz : Nat) (a1 : Int32) (a2 : Int32)  (M : MM) (r : Int32) (hf : F_X6_groupCell a1 a2 = r) : CtI l yX6_groupCell cX6_groupCell 2 0 0 .int E (entM E ad M) (entM E ad M) ad 7 sz [.int a1, .int a2] (r) := by
  unfold CtI
  refine body_of (by decide) "SurvivorPurseModel" rfl (Nat.le_of_ble_eq_true rfl) ?_
  intro p e s m below meth c hsz S hr hlk hP hK hN ls hl
  subst hsz
  have hS : va_S (AA ad 7 s.heap.size) s.heap s.heap [] := va_S.rf
  have hl : lv_has ls 2 [(0, .int a1), (1, .int a2)] := hl
  rw [F_X6_groupCell] at hf
  refine lv_sipush (v := (279 : Int32)) S.1 S.2.1 dX6_groupCell_0 (by decide) ?_
  refine lv_iconst (v := (4 : Int32)) S.1 S.2.1 dX6_groupCell_3 (by decide) ?_
  refine lv_iload_n S.1 S.2.1 dX6_groupCell_4 rfl (lv_at hl 0 rfl) ?_
  refine lv_imul S.1 S.2.1 dX6_groupCell_5 ?_
  refine lv_iadd S.1 S.2.1 dX6_groupCell_6 ?_
  refine lv_iload_n S.1 S.2.1 dX6_groupCell_7 rfl (lv_at hl 1 rfl) ?_
  refine lv_iadd S.1 S.2.1 dX6_groupCell_8 ?_
  subst hf
  exact r_i S hr hlk hP hS dX6_groupCell_9
theorem hd_X6_part : yX6_part.cls ≠ "java/lang/invoke/MethodHandle" ∧ yX6_part.cls ≠ "java/lang/invoke/VarHandle" ∧ (parseMethodDescriptor yX6_part.desc).map (fun d => d.parameters.length) = some 2 := by decide +kernel
set_option maxHeartbeats 4000000 in
set_option maxRecDepth 100000 in
theorem K_X6_part (l : Launch) (E : EE) (ad : Nat → Nat) (hI : ad_I ad 7) (sz : Nat) (a1 : Int32) (a2 : Int32)  (M : MM) (r : Int32) (hf : F_X6_part a1 a2 = r) : CtI l yX6_part cX6_part 2 0 0 .int E (entM E ad M) (entM E ad M) ad 7 sz [.int a1, .int a2] (r) := by
  unfold CtI
  refine body_of (by decide) "SurvivorPurseModel" rfl (Nat.le_of_ble_eq_true rfl) ?_
  intro p e s m below meth c hsz S hr hlk hP hK hN ls hl
  subst hsz
  have hS : va_S (AA ad 7 s.heap.size) s.heap s.heap [] := va_S.rf
  have hl : lv_has ls 2 [(0, .int a1), (1, .int a2)] := hl
  rw [F_X6_part] at hf
  refine lv_sipush (v := (303 : Int32)) S.1 S.2.1 dX6_part_0 (by decide) ?_
  refine lv_bipush (v := (14 : Int32)) S.1 S.2.1 dX6_part_3 (by decide) ?_
  refine lv_iload_n S.1 S.2.1 dX6_part_5 rfl (lv_at hl 0 rfl) ?_
  refine lv_imul S.1 S.2.1 dX6_part_6 ?_
  refine lv_iadd S.1 S.2.1 dX6_part_7 ?_
  refine lv_iload_n S.1 S.2.1 dX6_part_8 rfl (lv_at hl 1 rfl) ?_
  refine lv_iadd S.1 S.2.1 dX6_part_9 ?_
  subst hf
  exact r_i S hr hlk hP hS dX6_part_10
theorem hd_X6_living : yX6_living.cls ≠ "java/lang/invoke/MethodHandle" ∧ yX6_living.cls ≠ "java/lang/invoke/VarHandle" ∧ (parseMethodDescriptor yX6_living.desc).map (fun d => d.parameters.length) = some 2 := by decide +kernel
set_option maxHeartbeats 4000000 in
set_option maxRecDepth 100000 in
theorem L_X6_living_48 (l : Launch) (E : EE) (ad : Nat → Nat) (hI : ad_I ad 7) (N : Nat) (a1 : Int32) (a2 : Int32)  {p : Program} {e : Env} {s : State} {m : MethodId} {below : List Frame} {meth : Method} {c : Code} (S : CallFix p m c cX6_living 5 s [.ref (ad 0), .int a1, .int a2].toArray bg_B "SurvivorPurseModel") (hr : meth.sig.returnType = (some .long)) (hlk : meth.locks = false) (hK : va_K E.1 vwCl (tysE E) s) (hN : NW s) (r : Int64) (M' : MM) : ∀   (M : MM), F_X6_living_48 N a1 a2  M = some (r, M') → ∀ (H : Heap) (locs : List Loc) (ls : Array Slot), va_P E.1 vwCl (mw (entM E ad M) ad 7) H → va_S (AA ad 7 s.heap.size) s.heap H locs → lv_has ls 5 [(0, .ref (ad 0)), (1, .int a1), (2, .int a2)] → W p l e { frames := 1, cells := 0, slots := 0, locals := 25 } s m [.ref (ad 0), .int a1, .int a2].toArray below meth c H locs 0 0 (MQ below (va_Ql (fun r0 (_ : Unit) => r0 = r) (fun _ t => QB E (entM E ad M') ad 7 t) (AA ad 7 s.heap.size)) [.ref (ad 0), .int a1, .int a2].toArray s 0 0 (AA ad 7 s.heap.size)) (F0 m 48 ls []) := by
  intro M hf H locs ls hP hS hl
  rw [F_X6_living_48] at hf
  refine lv_iload_n S.1 S.2.1 dX6_living_48 rfl (lv_at hl 1 rfl) ?_
  refine lv_bipush (v := (110 : Int32)) S.1 S.2.1 dX6_living_49 (by decide) ?_
  refine lv_icmp_ge (tgt := 74) S.1 S.2.1 dX6_living_51 (by decide) (fun h6 => ?_) (fun h6 => ?_)
  · replace hf := ift h6 hf
    refine lv_aload_n S.1 S.2.1 dX6_living_74 rfl (lv_at hl 0 rfl) ?_
    refine x_get (v := .ref (ad 1)) S hK hP w_lay_X6 (ci := 6) rfl 0 (by decide) m0 0 (by decide) w_fl_X6_7 rfl rfl dX6_living_75 ?_
    refine lv_iconst (v := (0 : Int32)) S.1 S.2.1 dX6_living_78 (by decide) ?_
    refine lv_iload_n S.1 S.2.1 dX6_living_79 rfl (lv_at hl 1 rfl) ?_
    refine lv_iadd S.1 S.2.1 dX6_living_80 ?_
    obtain ⟨h7, hf⟩ := gd_some hf
    refine x_lald S hK hP 1 (by decide) m1 h7 dX6_living_81 ?_
    obtain ⟨x8, ex8, hf⟩ := bnd_some hf
    refine lv_rel ex8 ?_
    refine lv_lstore_n (lv' := [(3, .long x8), (0, .ref (ad 0)), (1, .int a1), (2, .int a2)]) S.1 S.2.1 dX6_living_82 rfl hl (by decide) rfl (fun ls hl => ?_)
    refine lv_aload_n S.1 S.2.1 dX6_living_83 rfl (lv_at hl 1 rfl) ?_
    refine x_get (v := .ref (ad 1)) S hK hP w_lay_X6 (ci := 6) rfl 0 (by decide) m0 0 (by decide) w_fl_X6_7 rfl rfl dX6_living_84 ?_
    refine lv_iconst (v := (0 : Int32)) S.1 S.2.1 dX6_living_87 (by decide) ?_
    refine lv_iload_n S.1 S.2.1 dX6_living_88 rfl (lv_at hl 2 rfl) ?_
    refine lv_iadd S.1 S.2.1 dX6_living_89 ?_
    refine lv_iload_n S.1 S.2.1 dX6_living_90 rfl (lv_at hl 3 rfl) ?_
    refine lv_i2l (v := a2.toInt64) S.1 S.2.1 dX6_living_91 rfl ?_
    refine x_last S hI hK hP hS 1 (by decide) m1 h7 (entM E ad (sL M 1 (ix ((0 : Int32) + a1)) a2.toInt64)) n1 (fun _ h => entM_sL _ h) dX6_living_92 (fun H locs hP hS => ?_)
    obtain ⟨M9, eM9, hf⟩ := bnd_some hf
    rw [← eM9] at hP
    refine lv_lload_n S.1 S.2.1 dX6_living_93 rfl (lv_at hl 0 rfl) ?_
    cases hf
    exact r_l S hr hlk hP hS dX6_living_94
  · replace hf := iff_ h6 hf
    refine lv_iload_n S.1 S.2.1 dX6_living_54 rfl (lv_at hl 2 rfl) ?_
    refine lv_i2l (v := a2.toInt64) S.1 S.2.1 dX6_living_55 rfl ?_
    refine lv_aload_n S.1 S.2.1 dX6_living_56 rfl (lv_at hl 0 rfl) ?_
    refine x_get (v := .ref (ad 1)) S hK hP w_lay_X6 (ci := 6) rfl 0 (by decide) m0 0 (by decide) w_fl_X6_7 rfl rfl dX6_living_57 ?_
    refine lv_iconst (v := (0 : Int32)) S.1 S.2.1 dX6_living_60 (by decide) ?_
    refine lv_iload_n S.1 S.2.1 dX6_living_61 rfl (lv_at hl 1 rfl) ?_
    refine lv_iadd S.1 S.2.1 dX6_living_62 ?_
    refine lv_iconst (v := (1 : Int32)) S.1 S.2.1 dX6_living_63 (by decide) ?_
    refine lv_iadd S.1 S.2.1 dX6_living_64 ?_
    obtain ⟨h10, hf⟩ := gd_some hf
    refine x_lald S hK hP 1 (by decide) m1 h10 dX6_living_65 ?_
    refine ll_ge (tgt := 74) S dX6_living_66 dX6_living_67 (by decide) (fun h11 => ?_) (fun h11 => ?_)
    · replace hf := ift h11 hf
      refine lv_aload_n S.1 S.2.1 dX6_living_74 rfl (lv_at hl 0 rfl) ?_
      refine x_get (v := .ref (ad 1)) S hK hP w_lay_X6 (ci := 6) rfl 0 (by decide) m0 0 (by decide) w_fl_X6_7 rfl rfl dX6_living_75 ?_
      refine lv_iconst (v := (0 : Int32)) S.1 S.2.1 dX6_living_78 (by decide) ?_
      refine lv_iload_n S.1 S.2.1 dX6_living_79 rfl (lv_at hl 1 rfl) ?_
      refine lv_iadd S.1 S.2.1 dX6_living_80 ?_
      obtain ⟨h12, hf⟩ := gd_some hf
      refine x_lald S hK hP 1 (by decide) m1 h12 dX6_living_81 ?_
      obtain ⟨x13, ex13, hf⟩ := bnd_some hf
      refine lv_rel ex13 ?_
      refine lv_lstore_n (lv' := [(3, .long x13), (0, .ref (ad 0)), (1, .int a1), (2, .int a2)]) S.1 S.2.1 dX6_living_82 rfl hl (by decide) rfl (fun ls hl => ?_)
      refine lv_aload_n S.1 S.2.1 dX6_living_83 rfl (lv_at hl 1 rfl) ?_
      refine x_get (v := .ref (ad 1)) S hK hP w_lay_X6 (ci := 6) rfl 0 (by decide) m0 0 (by decide) w_fl_X6_7 rfl rfl dX6_living_84 ?_
      refine lv_iconst (v := (0 : Int32)) S.1 S.2.1 dX6_living_87 (by decide) ?_
      refine lv_iload_n S.1 S.2.1 dX6_living_88 rfl (lv_at hl 2 rfl) ?_
      refine lv_iadd S.1 S.2.1 dX6_living_89 ?_
      refine lv_iload_n S.1 S.2.1 dX6_living_90 rfl (lv_at hl 3 rfl) ?_
      refine lv_i2l (v := a2.toInt64) S.1 S.2.1 dX6_living_91 rfl ?_
      refine x_last S hI hK hP hS 1 (by decide) m1 h12 (entM E ad (sL M 1 (ix ((0 : Int32) + a1)) a2.toInt64)) n1 (fun _ h => entM_sL _ h) dX6_living_92 (fun H locs hP hS => ?_)
      obtain ⟨M14, eM14, hf⟩ := bnd_some hf
      rw [← eM14] at hP
      refine lv_lload_n S.1 S.2.1 dX6_living_93 rfl (lv_at hl 0 rfl) ?_
      cases hf
      exact r_l S hr hlk hP hS dX6_living_94
    · replace hf := iff_ h11 hf
      refine lv_ldc2 (own := "SurvivorPurseModel") (v := (-1000000000000000 : Int64)) S.1 S.2.1 S.2.2.2.1 (S.2.2.2.2 _ w_kl_X6_41) dX6_living_70 ?_
      cases hf
      exact r_l S hr hlk hP hS dX6_living_73
set_option maxHeartbeats 4000000 in
set_option maxRecDepth 100000 in
theorem K_X6_living (l : Launch) (E : EE) (ad : Nat → Nat) (hI : ad_I ad 7) (sz : Nat) (N : Nat) (a1 : Int32) (a2 : Int32)  (M : MM) (r : Int64) (M' : MM) (hf : F_X6_living N a1 a2 M = some (r, M')) : CtL l yX6_living cX6_living 5 1 25 E (entM E ad M) (entM E ad M') ad 7 sz [.ref (ad 0), .int a1, .int a2] (r) := by
  unfold CtL
  refine body_of (by decide) "SurvivorPurseModel" rfl (Nat.le_of_ble_eq_true rfl) ?_
  intro p e s m below meth c hsz S hr hlk hP hK hN ls hl
  subst hsz
  have hS : va_S (AA ad 7 s.heap.size) s.heap s.heap [] := va_S.rf
  have hl : lv_has ls 5 [(0, .ref (ad 0)), (1, .int a1), (2, .int a2)] := hl
  rw [F_X6_living] at hf
  refine lv_iload_n S.1 S.2.1 dX6_living_0 rfl (lv_at hl 1 rfl) ?_
  refine lv_i2l (v := a1.toInt64) S.1 S.2.1 dX6_living_1 rfl ?_
  refine lv_lconst (v := (0 : Int64)) S.1 S.2.1 dX6_living_2 (by decide) ?_
  refine lv_ldc2 (own := "SurvivorPurseModel") (v := (110 : Int64)) S.1 S.2.1 S.2.2.2.1 (S.2.2.2.2 _ w_kl_X6_39) dX6_living_3 ?_
  refine y_Si (As := [.long a1.toInt64, .long (0 : Int64), .long (110 : Int64)]) S hK hN hP hS rfl (K_X6_in l E ad hI _ a1.toInt64 (0 : Int64) (110 : Int64)  M _ rfl) (cS 3 S w_co_yX6_in w_in_X6 w_ml_X6_35 w_st_yX6_in hd_X6_in ⟨Nat.le_of_ble_eq_true rfl, Nat.le_of_ble_eq_true rfl⟩) hl.1 rfl rfl (Nat.le_of_ble_eq_true rfl) dX6_living_6 ⟨Nat.zero_le _, Nat.zero_le _⟩ (fun H locs hP hS => ?_)
  refine lv_if_eq (tgt := 24) S.1 S.2.1 dX6_living_9 (by decide) (fun h1 => ?_) (fun h1 => ?_)
  · replace hf := ift h1 hf
    refine lv_ldc2 (own := "SurvivorPurseModel") (v := (-1000000000000000 : Int64)) S.1 S.2.1 S.2.2.2.1 (S.2.2.2.2 _ w_kl_X6_41) dX6_living_24 ?_
    cases hf
    exact r_l S hr hlk hP hS dX6_living_27
  · replace hf := iff_ h1 hf
    refine lv_iload_n S.1 S.2.1 dX6_living_12 rfl (lv_at hl 2 rfl) ?_
    refine lv_i2l (v := a2.toInt64) S.1 S.2.1 dX6_living_13 rfl ?_
    refine lv_lconst (v := (0 : Int64)) S.1 S.2.1 dX6_living_14 (by decide) ?_
    refine lv_ldc2 (own := "SurvivorPurseModel") (v := (100000 : Int64)) S.1 S.2.1 S.2.2.2.1 (S.2.2.2.2 _ w_kl_X6_29) dX6_living_15 ?_
    refine y_Si (As := [.long a2.toInt64, .long (0 : Int64), .long (100000 : Int64)]) S hK hN hP hS rfl (K_X6_in l E ad hI _ a2.toInt64 (0 : Int64) (100000 : Int64)  M _ rfl) (cS 3 S w_co_yX6_in w_in_X6 w_ml_X6_35 w_st_yX6_in hd_X6_in ⟨Nat.le_of_ble_eq_true rfl, Nat.le_of_ble_eq_true rfl⟩) hl.1 rfl rfl (Nat.le_of_ble_eq_true rfl) dX6_living_18 ⟨Nat.zero_le _, Nat.zero_le _⟩ (fun H locs hP hS => ?_)
    refine lv_if_ne (tgt := 28) S.1 S.2.1 dX6_living_21 (by decide) (fun h2 => ?_) (fun h2 => ?_)
    · replace hf := iff_ h2 hf
      refine lv_iload_n S.1 S.2.1 dX6_living_28 rfl (lv_at hl 1 rfl) ?_
      refine lv_if_le (tgt := 48) S.1 S.2.1 dX6_living_29 (by decide) (fun h3 => ?_) (fun h3 => ?_)
      · replace hf := ift h3 hf
        exact L_X6_living_48 l E ad hI N a1 a2  S hr hlk hK hN _ _    M hf _ _ _ hP hS (lv_sub hl [0, 1, 2] rfl)
      · replace hf := iff_ h3 hf
        refine lv_iload_n S.1 S.2.1 dX6_living_32 rfl (lv_at hl 2 rfl) ?_
        refine lv_i2l (v := a2.toInt64) S.1 S.2.1 dX6_living_33 rfl ?_
        refine lv_aload_n S.1 S.2.1 dX6_living_34 rfl (lv_at hl 0 rfl) ?_
        refine x_get (v := .ref (ad 1)) S hK hP w_lay_X6 (ci := 6) rfl 0 (by decide) m0 0 (by decide) w_fl_X6_7 rfl rfl dX6_living_35 ?_
        refine lv_iconst (v := (0 : Int32)) S.1 S.2.1 dX6_living_38 (by decide) ?_
        refine lv_iload_n S.1 S.2.1 dX6_living_39 rfl (lv_at hl 1 rfl) ?_
        refine lv_iadd S.1 S.2.1 dX6_living_40 ?_
        refine lv_iconst (v := (1 : Int32)) S.1 S.2.1 dX6_living_41 (by decide) ?_
        refine lv_isub S.1 S.2.1 dX6_living_42 ?_
        obtain ⟨h4, hf⟩ := gd_some hf
        refine x_lald S hK hP 1 (by decide) m1 h4 dX6_living_43 ?_
        refine ll_gt (tgt := 70) S dX6_living_44 dX6_living_45 (by decide) (fun h5 => ?_) (fun h5 => ?_)
        · replace hf := ift h5 hf
          refine lv_ldc2 (own := "SurvivorPurseModel") (v := (-1000000000000000 : Int64)) S.1 S.2.1 S.2.2.2.1 (S.2.2.2.2 _ w_kl_X6_41) dX6_living_70 ?_
          cases hf
          exact r_l S hr hlk hP hS dX6_living_73
        · replace hf := iff_ h5 hf
          exact L_X6_living_48 l E ad hI N a1 a2  S hr hlk hK hN _ _    M hf _ _ _ hP hS (lv_sub hl [0, 1, 2] rfl)
    · replace hf := ift h2 hf
      refine lv_ldc2 (own := "SurvivorPurseModel") (v := (-1000000000000000 : Int64)) S.1 S.2.1 S.2.2.2.1 (S.2.2.2.2 _ w_kl_X6_41) dX6_living_24 ?_
      cases hf
      exact r_l S hr hlk hP hS dX6_living_27
theorem hd_X6_foretell : yX6_foretell.cls ≠ "java/lang/invoke/MethodHandle" ∧ yX6_foretell.cls ≠ "java/lang/invoke/VarHandle" ∧ (parseMethodDescriptor yX6_foretell.desc).map (fun d => d.parameters.length) = some 2 := by decide +kernel
set_option maxHeartbeats 4000000 in
set_option maxRecDepth 100000 in
theorem K_X6_foretell (l : Launch) (E : EE) (ad : Nat → Nat) (hI : ad_I ad 7) (sz : Nat) (N : Nat) (a1 : Int32) (a2 : Int32)  (M : MM) (r : Int64) (hf : F_X6_foretell N a1 a2 M = some r) : CtL l yX6_foretell cX6_foretell 5 1 25 E (entM E ad M) (entM E ad M) ad 7 sz [.ref (ad 0), .int a1, .int a2] (r) := by
  unfold CtL
  refine body_of (by decide) "SurvivorPurseModel" rfl (Nat.le_of_ble_eq_true rfl) ?_
  intro p e s m below meth c hsz S hr hlk hP hK hN ls hl
  subst hsz
  have hS : va_S (AA ad 7 s.heap.size) s.heap s.heap [] := va_S.rf
  have hl : lv_has ls 5 [(0, .ref (ad 0)), (1, .int a1), (2, .int a2)] := hl
  rw [F_X6_foretell] at hf
  refine lv_iload_n S.1 S.2.1 dX6_foretell_0 rfl (lv_at hl 1 rfl) ?_
  refine lv_i2l (v := a1.toInt64) S.1 S.2.1 dX6_foretell_1 rfl ?_
  refine lv_lconst (v := (0 : Int64)) S.1 S.2.1 dX6_foretell_2 (by decide) ?_
  refine lv_ldc2 (own := "SurvivorPurseModel") (v := (110 : Int64)) S.1 S.2.1 S.2.2.2.1 (S.2.2.2.2 _ w_kl_X6_39) dX6_foretell_3 ?_
  refine y_Si (As := [.long a1.toInt64, .long (0 : Int64), .long (110 : Int64)]) S hK hN hP hS rfl (K_X6_in l E ad hI _ a1.toInt64 (0 : Int64) (110 : Int64)  M _ rfl) (cS 3 S w_co_yX6_in w_in_X6 w_ml_X6_35 w_st_yX6_in hd_X6_in ⟨Nat.le_of_ble_eq_true rfl, Nat.le_of_ble_eq_true rfl⟩) hl.1 rfl rfl (Nat.le_of_ble_eq_true rfl) dX6_foretell_6 ⟨Nat.zero_le _, Nat.zero_le _⟩ (fun H locs hP hS => ?_)
  refine lv_if_eq (tgt := 16) S.1 S.2.1 dX6_foretell_9 (by decide) (fun h1 => ?_) (fun h1 => ?_)
  · replace hf := ift h1 hf
    refine lv_ldc2 (own := "SurvivorPurseModel") (v := (-1000000000000000 : Int64)) S.1 S.2.1 S.2.2.2.1 (S.2.2.2.2 _ w_kl_X6_41) dX6_foretell_16 ?_
    cases hf
    exact r_l S hr hlk hP hS dX6_foretell_19
  · replace hf := iff_ h1 hf
    refine lv_iload_n S.1 S.2.1 dX6_foretell_12 rfl (lv_at hl 2 rfl) ?_
    refine lv_if_ge (tgt := 20) S.1 S.2.1 dX6_foretell_13 (by decide) (fun h2 => ?_) (fun h2 => ?_)
    · replace hf := ift h2 hf
      refine lv_aload_n S.1 S.2.1 dX6_foretell_20 rfl (lv_at hl 0 rfl) ?_
      refine x_get (v := .ref (ad 1)) S hK hP w_lay_X6 (ci := 6) rfl 0 (by decide) m0 0 (by decide) w_fl_X6_7 rfl rfl dX6_foretell_21 ?_
      refine lv_iconst (v := (0 : Int32)) S.1 S.2.1 dX6_foretell_24 (by decide) ?_
      refine lv_iload_n S.1 S.2.1 dX6_foretell_25 rfl (lv_at hl 1 rfl) ?_
      refine lv_iadd S.1 S.2.1 dX6_foretell_26 ?_
      obtain ⟨h3, hf⟩ := gd_some hf
      refine x_lald S hK hP 1 (by decide) m1 h3 dX6_foretell_27 ?_
      obtain ⟨x4, ex4, hf⟩ := bnd_some hf
      refine lv_rel ex4 ?_
      refine lv_lstore_n (lv' := [(3, .long x4), (0, .ref (ad 0)), (1, .int a1), (2, .int a2)]) S.1 S.2.1 dX6_foretell_28 rfl hl (by decide) rfl (fun ls hl => ?_)
      refine lv_lload_n S.1 S.2.1 dX6_foretell_29 rfl (lv_at hl 0 rfl) ?_
      refine lv_lconst (v := (0 : Int64)) S.1 S.2.1 dX6_foretell_30 (by decide) ?_
      refine ll_eq (tgt := 43) S dX6_foretell_31 dX6_foretell_32 (by decide) (fun h5 => ?_) (fun h5 => ?_)
      · replace hf := ift h5 hf
        refine lv_lconst (v := (0 : Int64)) S.1 S.2.1 dX6_foretell_43 (by decide) ?_
        refine lv_goto (tgt := 63) S.1 S.2.1 dX6_foretell_44 (by decide) ?_
        cases hf
        exact r_l S hr hlk hP hS dX6_foretell_63
      · replace hf := iff_ h5 hf
        refine lv_iload_n S.1 S.2.1 dX6_foretell_35 rfl (lv_at hl 3 rfl) ?_
        refine lv_bipush (v := (110 : Int32)) S.1 S.2.1 dX6_foretell_36 (by decide) ?_
        refine lv_iload_n S.1 S.2.1 dX6_foretell_38 rfl (lv_at hl 2 rfl) ?_
        refine lv_isub S.1 S.2.1 dX6_foretell_39 ?_
        refine lv_icmp_le (tgt := 47) S.1 S.2.1 dX6_foretell_40 (by decide) (fun h6 => ?_) (fun h6 => ?_)
        · replace hf := ift h6 hf
          refine lv_ldc2 (own := "SurvivorPurseModel") (v := (1000000 : Int64)) S.1 S.2.1 S.2.2.2.1 (S.2.2.2.2 _ w_kl_X6_43) dX6_foretell_47 ?_
          refine lv_aload_n S.1 S.2.1 dX6_foretell_50 rfl (lv_at hl 1 rfl) ?_
          refine x_get (v := .ref (ad 1)) S hK hP w_lay_X6 (ci := 6) rfl 0 (by decide) m0 0 (by decide) w_fl_X6_7 rfl rfl dX6_foretell_51 ?_
          refine lv_iconst (v := (0 : Int32)) S.1 S.2.1 dX6_foretell_54 (by decide) ?_
          refine lv_iload_n S.1 S.2.1 dX6_foretell_55 rfl (lv_at hl 2 rfl) ?_
          refine lv_iadd S.1 S.2.1 dX6_foretell_56 ?_
          refine lv_iload_n S.1 S.2.1 dX6_foretell_57 rfl (lv_at hl 3 rfl) ?_
          refine lv_iadd S.1 S.2.1 dX6_foretell_58 ?_
          obtain ⟨h7, hf⟩ := gd_some hf
          refine x_lald S hK hP 1 (by decide) m1 h7 dX6_foretell_59 ?_
          refine lv_lmul S.1 S.2.1 dX6_foretell_60 ?_
          refine lv_lload_n S.1 S.2.1 dX6_foretell_61 rfl (lv_at hl 0 rfl) ?_
          obtain ⟨h8, hf⟩ := gd_some hf
          refine lv_ldiv S.1 S.2.1 dX6_foretell_62 (nz_ne h8) ?_
          cases hf
          exact r_l S hr hlk hP hS dX6_foretell_63
        · replace hf := iff_ h6 hf
          refine lv_lconst (v := (0 : Int64)) S.1 S.2.1 dX6_foretell_43 (by decide) ?_
          refine lv_goto (tgt := 63) S.1 S.2.1 dX6_foretell_44 (by decide) ?_
          cases hf
          exact r_l S hr hlk hP hS dX6_foretell_63
    · replace hf := iff_ h2 hf
      refine lv_ldc2 (own := "SurvivorPurseModel") (v := (-1000000000000000 : Int64)) S.1 S.2.1 S.2.2.2.1 (S.2.2.2.2 _ w_kl_X6_41) dX6_foretell_16 ?_
      cases hf
      exact r_l S hr hlk hP hS dX6_foretell_19
theorem hd_X6_later : yX6_later.cls ≠ "java/lang/invoke/MethodHandle" ∧ yX6_later.cls ≠ "java/lang/invoke/VarHandle" ∧ (parseMethodDescriptor yX6_later.desc).map (fun d => d.parameters.length) = some 1 := by decide +kernel
set_option maxHeartbeats 4000000 in
set_option maxRecDepth 100000 in
theorem L_X6_later_7 (l : Launch) (E : EE) (ad : Nat → Nat) (hI : ad_I ad 7) (N : Nat) (a1 : Int32)  {p : Program} {e : Env} {s : State} {m : MethodId} {below : List Frame} {meth : Method} {c : Code} (S : CallFix p m c cX6_later 5 s [.ref (ad 0), .int a1].toArray bg_B "SurvivorPurseModel") (hr : meth.sig.returnType = (some .long)) (hlk : meth.locks = false) (hK : va_K E.1 vwCl (tysE E) s) (hN : NW s) (r : Int64) : ∀ (fu : Nat) (v2 : Int64) (v4 : Int32)  (M : MM), F_X6_later_7 N a1 fu v2 v4 M = some r → ∀ (H : Heap) (locs : List Loc) (ls : Array Slot), va_P E.1 vwCl (mw (entM E ad M) ad 7) H → va_S (AA ad 7 s.heap.size) s.heap H locs → lv_has ls 5 [(0, .ref (ad 0)), (2, .long v2), (4, .int v4)] → W p l e { frames := 0, cells := 0, slots := 0, locals := 0 } s m [.ref (ad 0), .int a1].toArray below meth c H locs 0 0 (MQ below (va_Ql (fun r0 (_ : Unit) => r0 = r) (fun _ t => QB E (entM E ad M) ad 7 t) (AA ad 7 s.heap.size)) [.ref (ad 0), .int a1].toArray s 0 0 (AA ad 7 s.heap.size)) (F0 m 7 ls []) := by
  intro fu
  induction fu with
  | zero =>
    intro v2 v4 M hf
    rw [F_X6_later_7] at hf
    cases hf
  | succ fu ih =>
    intro v2 v4 M hf H locs ls hP hS hl
    rw [F_X6_later_7] at hf
    refine lv_iload S.1 S.2.1 dX6_later_7 (lv_at hl 2 rfl) ?_
    refine lv_bipush (v := (110 : Int32)) S.1 S.2.1 dX6_later_9 (by decide) ?_
    refine lv_icmp_gt (tgt := 32) S.1 S.2.1 dX6_later_11 (by decide) (fun h2 => ?_) (fun h2 => ?_)
    · replace hf := ift h2 hf
      refine lv_lload_n S.1 S.2.1 dX6_later_32 rfl (lv_at hl 1 rfl) ?_
      cases hf
      exact r_l S hr hlk hP hS dX6_later_33
    · replace hf := iff_ h2 hf
      refine lv_lload_n S.1 S.2.1 dX6_later_14 rfl (lv_at hl 1 rfl) ?_
      refine lv_aload_n S.1 S.2.1 dX6_later_15 rfl (lv_at hl 0 rfl) ?_
      refine x_get (v := .ref (ad 1)) S hK hP w_lay_X6 (ci := 6) rfl 0 (by decide) m0 0 (by decide) w_fl_X6_7 rfl rfl dX6_later_16 ?_
      refine lv_iconst (v := (0 : Int32)) S.1 S.2.1 dX6_later_19 (by decide) ?_
      refine lv_iload S.1 S.2.1 dX6_later_20 (lv_at hl 2 rfl) ?_
      refine lv_iadd S.1 S.2.1 dX6_later_22 ?_
      obtain ⟨h3, hf⟩ := gd_some hf
      refine x_lald S hK hP 1 (by decide) m1 h3 dX6_later_23 ?_
      refine lv_ladd S.1 S.2.1 dX6_later_24 ?_
      obtain ⟨x4, ex4, hf⟩ := bnd_some hf
      refine lv_rel ex4 ?_
      refine lv_lstore_n (lv' := [(2, .long x4), (0, .ref (ad 0)), (4, .int v4)]) S.1 S.2.1 dX6_later_25 rfl hl (by decide) rfl (fun ls hl => ?_)
      refine lv_iinc (v := v4 + (1 : Int32)) (lv' := [(4, .int (v4 + (1 : Int32))), (2, .long x4), (0, .ref (ad 0))]) S.1 S.2.1 dX6_later_26 hl (k := 2) rfl rfl (by decide) rfl (fun ls hl => ?_)
      refine lv_goto (tgt := 7) S.1 S.2.1 dX6_later_29 (by decide) ?_
      exact ih x4 (v4 + (1 : Int32))  M hf _ _ _ hP hS (lv_sub hl [2, 1, 0] rfl)
set_option maxHeartbeats 4000000 in
set_option maxRecDepth 100000 in
theorem K_X6_later (l : Launch) (E : EE) (ad : Nat → Nat) (hI : ad_I ad 7) (sz : Nat) (N : Nat) (a1 : Int32)  (M : MM) (r : Int64) (hf : F_X6_later N a1 M = some r) : CtL l yX6_later cX6_later 5 0 0 E (entM E ad M) (entM E ad M) ad 7 sz [.ref (ad 0), .int a1] (r) := by
  unfold CtL
  refine body_of (by decide) "SurvivorPurseModel" rfl (Nat.le_of_ble_eq_true rfl) ?_
  intro p e s m below meth c hsz S hr hlk hP hK hN ls hl
  subst hsz
  have hS : va_S (AA ad 7 s.heap.size) s.heap s.heap [] := va_S.rf
  have hl : lv_has ls 5 [(0, .ref (ad 0)), (1, .int a1)] := hl
  rw [F_X6_later] at hf
  refine lv_lconst (v := (0 : Int64)) S.1 S.2.1 dX6_later_0 (by decide) ?_
  refine lv_lstore_n (lv' := [(2, .long (0 : Int64)), (0, .ref (ad 0)), (1, .int a1)]) S.1 S.2.1 dX6_later_1 rfl hl (by decide) rfl (fun ls hl => ?_)
  refine lv_iload_n S.1 S.2.1 dX6_later_2 rfl (lv_at hl 2 rfl) ?_
  refine lv_iconst (v := (1 : Int32)) S.1 S.2.1 dX6_later_3 (by decide) ?_
  refine lv_iadd S.1 S.2.1 dX6_later_4 ?_
  obtain ⟨x1, ex1, hf⟩ := bnd_some hf
  refine lv_rei ex1 ?_
  refine lv_istore (lv' := [(4, .int x1), (2, .long (0 : Int64)), (0, .ref (ad 0)), (1, .int a1)]) S.1 S.2.1 dX6_later_5 hl (by decide) rfl (fun ls hl => ?_)
  exact L_X6_later_7 l E ad hI N a1  S hr hlk hK hN _ N (0 : Int64) x1  M hf _ _ _ hP hS (lv_sub hl [2, 1, 0] rfl)
theorem hd_X6_mean : yX6_mean.cls ≠ "java/lang/invoke/MethodHandle" ∧ yX6_mean.cls ≠ "java/lang/invoke/VarHandle" ∧ (parseMethodDescriptor yX6_mean.desc).map (fun d => d.parameters.length) = some 1 := by decide +kernel
set_option maxHeartbeats 4000000 in
set_option maxRecDepth 100000 in
theorem K_X6_mean (l : Launch) (E : EE) (ad : Nat → Nat) (hI : ad_I ad 7) (sz : Nat) (N : Nat) (a1 : Int32)  (M : MM) (r : Int64) (hf : F_X6_mean N a1 M = some r) : CtL l yX6_mean cX6_mean 2 1 25 E (entM E ad M) (entM E ad M) ad 7 sz [.ref (ad 0), .int a1] (r) := by
  unfold CtL
  refine body_of (by decide) "SurvivorPurseModel" rfl (Nat.le_of_ble_eq_true rfl) ?_
  intro p e s m below meth c hsz S hr hlk hP hK hN ls hl
  subst hsz
  have hS : va_S (AA ad 7 s.heap.size) s.heap s.heap [] := va_S.rf
  have hl : lv_has ls 2 [(0, .ref (ad 0)), (1, .int a1)] := hl
  rw [F_X6_mean] at hf
  refine lv_iload_n S.1 S.2.1 dX6_mean_0 rfl (lv_at hl 1 rfl) ?_
  refine lv_i2l (v := a1.toInt64) S.1 S.2.1 dX6_mean_1 rfl ?_
  refine lv_lconst (v := (0 : Int64)) S.1 S.2.1 dX6_mean_2 (by decide) ?_
  refine lv_ldc2 (own := "SurvivorPurseModel") (v := (110 : Int64)) S.1 S.2.1 S.2.2.2.1 (S.2.2.2.2 _ w_kl_X6_39) dX6_mean_3 ?_
  refine y_Si (As := [.long a1.toInt64, .long (0 : Int64), .long (110 : Int64)]) S hK hN hP hS rfl (K_X6_in l E ad hI _ a1.toInt64 (0 : Int64) (110 : Int64)  M _ rfl) (cS 3 S w_co_yX6_in w_in_X6 w_ml_X6_35 w_st_yX6_in hd_X6_in ⟨Nat.le_of_ble_eq_true rfl, Nat.le_of_ble_eq_true rfl⟩) hl.1 rfl rfl (Nat.le_of_ble_eq_true rfl) dX6_mean_6 ⟨Nat.zero_le _, Nat.zero_le _⟩ (fun H locs hP hS => ?_)
  refine lv_if_ne (tgt := 16) S.1 S.2.1 dX6_mean_9 (by decide) (fun h1 => ?_) (fun h1 => ?_)
  · replace hf := iff_ h1 hf
    refine lv_aload_n S.1 S.2.1 dX6_mean_16 rfl (lv_at hl 0 rfl) ?_
    refine x_get (v := .ref (ad 1)) S hK hP w_lay_X6 (ci := 6) rfl 0 (by decide) m0 0 (by decide) w_fl_X6_7 rfl rfl dX6_mean_17 ?_
    refine lv_iconst (v := (0 : Int32)) S.1 S.2.1 dX6_mean_20 (by decide) ?_
    refine lv_iload_n S.1 S.2.1 dX6_mean_21 rfl (lv_at hl 1 rfl) ?_
    refine lv_iadd S.1 S.2.1 dX6_mean_22 ?_
    obtain ⟨h2, hf⟩ := gd_some hf
    refine x_lald S hK hP 1 (by decide) m1 h2 dX6_mean_23 ?_
    refine lv_lconst (v := (0 : Int64)) S.1 S.2.1 dX6_mean_24 (by decide) ?_
    refine ll_ne (tgt := 33) S dX6_mean_25 dX6_mean_26 (by decide) (fun h3 => ?_) (fun h3 => ?_)
    · replace hf := iff_ h3 hf
      refine lv_ldc2 (own := "SurvivorPurseModel") (v := (1000 : Int64)) S.1 S.2.1 S.2.2.2.1 (S.2.2.2.2 _ w_kl_X6_45) dX6_mean_33 ?_
      refine lv_aload_n S.1 S.2.1 dX6_mean_36 rfl (lv_at hl 0 rfl) ?_
      refine lv_iload_n S.1 S.2.1 dX6_mean_37 rfl (lv_at hl 1 rfl) ?_
      obtain ⟨x4, gx4, hf⟩ := bn1_some hf
      refine y_Vl (As := [.int a1]) S hK hN hP hS rfl (by decide) m0 rfl (K_X6_later l E ad hI _ N a1  M x4 gx4) (cV 1 S w_co_yX6_later w_in_X6 w_ml_X6_47 w_im_yX6_later w_se_yX6_later hd_X6_later ⟨Nat.le_of_ble_eq_true rfl, Nat.le_of_ble_eq_true rfl⟩) hl.1 rfl rfl (Nat.le_of_ble_eq_true rfl) dX6_mean_38 ⟨Nat.zero_le _, Nat.zero_le _⟩ (fun H locs hP hS => ?_)
      refine lv_lmul S.1 S.2.1 dX6_mean_41 ?_
      refine lv_aload_n S.1 S.2.1 dX6_mean_42 rfl (lv_at hl 0 rfl) ?_
      refine x_get (v := .ref (ad 1)) S hK hP w_lay_X6 (ci := 6) rfl 0 (by decide) m0 0 (by decide) w_fl_X6_7 rfl rfl dX6_mean_43 ?_
      refine lv_iconst (v := (0 : Int32)) S.1 S.2.1 dX6_mean_46 (by decide) ?_
      refine lv_iload_n S.1 S.2.1 dX6_mean_47 rfl (lv_at hl 1 rfl) ?_
      refine lv_iadd S.1 S.2.1 dX6_mean_48 ?_
      refine x_lald S hK hP 1 (by decide) m1 h2 dX6_mean_49 ?_
      obtain ⟨h5, hf⟩ := gd_some hf
      refine lv_ldiv S.1 S.2.1 dX6_mean_50 (nz_ne h5) ?_
      cases hf
      exact r_l S hr hlk hP hS dX6_mean_51
    · replace hf := ift h3 hf
      refine lv_lconst (v := (0 : Int64)) S.1 S.2.1 dX6_mean_29 (by decide) ?_
      refine lv_goto (tgt := 51) S.1 S.2.1 dX6_mean_30 (by decide) ?_
      cases hf
      exact r_l S hr hlk hP hS dX6_mean_51
  · replace hf := ift h1 hf
    refine lv_ldc2 (own := "SurvivorPurseModel") (v := (-1000000000000000 : Int64)) S.1 S.2.1 S.2.2.2.1 (S.2.2.2.2 _ w_kl_X6_41) dX6_mean_12 ?_
    cases hf
    exact r_l S hr hlk hP hS dX6_mean_15
theorem hd_X6_dearer : yX6_dearer.cls ≠ "java/lang/invoke/MethodHandle" ∧ yX6_dearer.cls ≠ "java/lang/invoke/VarHandle" ∧ (parseMethodDescriptor yX6_dearer.desc).map (fun d => d.parameters.length) = some 2 := by decide +kernel
set_option maxHeartbeats 4000000 in
set_option maxRecDepth 100000 in
theorem K_X6_dearer (l : Launch) (E : EE) (ad : Nat → Nat) (hI : ad_I ad 7) (sz : Nat) (N : Nat) (a1 : Int32) (a2 : Int32)  (M : MM) (r : Int64) (hf : F_X6_dearer N a1 a2 M = some r) : CtL l yX6_dearer cX6_dearer 13 2 46 E (entM E ad M) (entM E ad M) ad 7 sz [.ref (ad 0), .int a1, .int a2] (r) := by
  unfold CtL
  refine body_of (by decide) "SurvivorPurseModel" rfl (Nat.le_of_ble_eq_true rfl) ?_
  intro p e s m below meth c hsz S hr hlk hP hK hN ls hl
  subst hsz
  have hS : va_S (AA ad 7 s.heap.size) s.heap s.heap [] := va_S.rf
  have hl : lv_has ls 13 [(0, .ref (ad 0)), (1, .int a1), (2, .int a2)] := hl
  rw [F_X6_dearer] at hf
  refine lv_aload_n S.1 S.2.1 dX6_dearer_0 rfl (lv_at hl 0 rfl) ?_
  refine lv_iload_n S.1 S.2.1 dX6_dearer_1 rfl (lv_at hl 1 rfl) ?_
  refine y_Vi (As := [.int a1]) S hK hN hP hS rfl (by decide) m0 rfl (K_X6_isClass l E ad hI _ a1  M _ rfl) (cV 1 S w_co_yX6_isClass w_in_X6 w_ml_X6_51 w_im_yX6_isClass w_se_yX6_isClass hd_X6_isClass ⟨Nat.le_of_ble_eq_true rfl, Nat.le_of_ble_eq_true rfl⟩) hl.1 rfl rfl (Nat.le_of_ble_eq_true rfl) dX6_dearer_2 ⟨Nat.zero_le _, Nat.zero_le _⟩ (fun H locs hP hS => ?_)
  refine lv_if_eq (tgt := 16) S.1 S.2.1 dX6_dearer_5 (by decide) (fun h1 => ?_) (fun h1 => ?_)
  · replace hf := ift h1 hf
    refine lv_ldc2 (own := "SurvivorPurseModel") (v := (-1000000000000000 : Int64)) S.1 S.2.1 S.2.2.2.1 (S.2.2.2.2 _ w_kl_X6_41) dX6_dearer_16 ?_
    cases hf
    exact r_l S hr hlk hP hS dX6_dearer_19
  · replace hf := iff_ h1 hf
    refine lv_aload_n S.1 S.2.1 dX6_dearer_8 rfl (lv_at hl 0 rfl) ?_
    refine lv_iload_n S.1 S.2.1 dX6_dearer_9 rfl (lv_at hl 2 rfl) ?_
    refine y_Vi (As := [.int a2]) S hK hN hP hS rfl (by decide) m0 rfl (K_X6_isClass l E ad hI _ a2  M _ rfl) (cV 1 S w_co_yX6_isClass w_in_X6 w_ml_X6_51 w_im_yX6_isClass w_se_yX6_isClass hd_X6_isClass ⟨Nat.le_of_ble_eq_true rfl, Nat.le_of_ble_eq_true rfl⟩) hl.1 rfl rfl (Nat.le_of_ble_eq_true rfl) dX6_dearer_10 ⟨Nat.zero_le _, Nat.zero_le _⟩ (fun H locs hP hS => ?_)
    refine lv_if_ne (tgt := 20) S.1 S.2.1 dX6_dearer_13 (by decide) (fun h2 => ?_) (fun h2 => ?_)
    · replace hf := iff_ h2 hf
      refine lv_aload_n S.1 S.2.1 dX6_dearer_20 rfl (lv_at hl 0 rfl) ?_
      refine x_get (v := .ref (ad 1)) S hK hP w_lay_X6 (ci := 6) rfl 0 (by decide) m0 0 (by decide) w_fl_X6_7 rfl rfl dX6_dearer_21 ?_
      refine lv_iload_n S.1 S.2.1 dX6_dearer_24 rfl (lv_at hl 1 rfl) ?_
      refine lv_iconst (v := (0 : Int32)) S.1 S.2.1 dX6_dearer_25 (by decide) ?_
      refine y_Si (As := [.int a1, .int (0 : Int32)]) S hK hN hP hS rfl (K_X6_groupCell l E ad hI _ a1 (0 : Int32)  M _ rfl) (cS 2 S w_co_yX6_groupCell w_in_X6 w_ml_X6_55 w_st_yX6_groupCell hd_X6_groupCell ⟨Nat.le_of_ble_eq_true rfl, Nat.le_of_ble_eq_true rfl⟩) hl.1 rfl rfl (Nat.le_of_ble_eq_true rfl) dX6_dearer_26 ⟨Nat.zero_le _, Nat.zero_le _⟩ (fun H locs hP hS => ?_)
      obtain ⟨h3, hf⟩ := gd_some hf
      refine x_lald S hK hP 1 (by decide) m1 h3 dX6_dearer_29 ?_
      refine lv_l2i (v := (gL M 1 (ix (F_X6_groupCell a1 (0 : Int32)))).toInt32) S.1 S.2.1 dX6_dearer_30 rfl ?_
      obtain ⟨x4, ex4, hf⟩ := bnd_some hf
      refine lv_rei ex4 ?_
      refine lv_istore_n (lv' := [(3, .int x4), (0, .ref (ad 0)), (1, .int a1), (2, .int a2)]) S.1 S.2.1 dX6_dearer_31 rfl hl (by decide) rfl (fun ls hl => ?_)
      refine lv_aload_n S.1 S.2.1 dX6_dearer_32 rfl (lv_at hl 1 rfl) ?_
      refine x_get (v := .ref (ad 1)) S hK hP w_lay_X6 (ci := 6) rfl 0 (by decide) m0 0 (by decide) w_fl_X6_7 rfl rfl dX6_dearer_33 ?_
      refine lv_iload_n S.1 S.2.1 dX6_dearer_36 rfl (lv_at hl 3 rfl) ?_
      refine lv_iconst (v := (0 : Int32)) S.1 S.2.1 dX6_dearer_37 (by decide) ?_
      refine y_Si (As := [.int a2, .int (0 : Int32)]) S hK hN hP hS rfl (K_X6_groupCell l E ad hI _ a2 (0 : Int32)  M _ rfl) (cS 2 S w_co_yX6_groupCell w_in_X6 w_ml_X6_55 w_st_yX6_groupCell hd_X6_groupCell ⟨Nat.le_of_ble_eq_true rfl, Nat.le_of_ble_eq_true rfl⟩) hl.1 rfl rfl (Nat.le_of_ble_eq_true rfl) dX6_dearer_38 ⟨Nat.zero_le _, Nat.zero_le _⟩ (fun H locs hP hS => ?_)
      obtain ⟨h5, hf⟩ := gd_some hf
      refine x_lald S hK hP 1 (by decide) m1 h5 dX6_dearer_41 ?_
      refine lv_l2i (v := (gL M 1 (ix (F_X6_groupCell a2 (0 : Int32)))).toInt32) S.1 S.2.1 dX6_dearer_42 rfl ?_
      obtain ⟨x6, ex6, hf⟩ := bnd_some hf
      refine lv_rei ex6 ?_
      refine lv_istore (lv' := [(4, .int x6), (3, .int x4), (0, .ref (ad 0)), (1, .int a1), (2, .int a2)]) S.1 S.2.1 dX6_dearer_43 hl (by decide) rfl (fun ls hl => ?_)
      refine lv_aload_n S.1 S.2.1 dX6_dearer_45 rfl (lv_at hl 2 rfl) ?_
      refine lv_iload_n S.1 S.2.1 dX6_dearer_46 rfl (lv_at hl 1 rfl) ?_
      obtain ⟨x7, gx7, hf⟩ := bn1_some hf
      refine y_Vl (As := [.int x4]) S hK hN hP hS rfl (by decide) m0 rfl (K_X6_later l E ad hI _ N x4  M x7 gx7) (cV 1 S w_co_yX6_later w_in_X6 w_ml_X6_47 w_im_yX6_later w_se_yX6_later hd_X6_later ⟨Nat.le_of_ble_eq_true rfl, Nat.le_of_ble_eq_true rfl⟩) hl.1 rfl rfl (Nat.le_of_ble_eq_true rfl) dX6_dearer_47 ⟨Nat.zero_le _, Nat.zero_le _⟩ (fun H locs hP hS => ?_)
      refine lv_lstore (lv' := [(5, .long x7), (4, .int x6), (3, .int x4), (0, .ref (ad 0)), (1, .int a1), (2, .int a2)]) S.1 S.2.1 dX6_dearer_50 hl (by decide) rfl (fun ls hl => ?_)
      refine lv_aload_n S.1 S.2.1 dX6_dearer_52 rfl (lv_at hl 3 rfl) ?_
      refine lv_iload S.1 S.2.1 dX6_dearer_53 (lv_at hl 1 rfl) ?_
      obtain ⟨x8, gx8, hf⟩ := bn1_some hf
      refine y_Vl (As := [.int x6]) S hK hN hP hS rfl (by decide) m0 rfl (K_X6_later l E ad hI _ N x6  M x8 gx8) (cV 1 S w_co_yX6_later w_in_X6 w_ml_X6_47 w_im_yX6_later w_se_yX6_later hd_X6_later ⟨Nat.le_of_ble_eq_true rfl, Nat.le_of_ble_eq_true rfl⟩) hl.1 rfl rfl (Nat.le_of_ble_eq_true rfl) dX6_dearer_55 ⟨Nat.zero_le _, Nat.zero_le _⟩ (fun H locs hP hS => ?_)
      refine lv_lstore (lv' := [(7, .long x8), (5, .long x7), (4, .int x6), (3, .int x4), (0, .ref (ad 0)), (1, .int a1), (2, .int a2)]) S.1 S.2.1 dX6_dearer_58 hl (by decide) rfl (fun ls hl => ?_)
      refine lv_lload S.1 S.2.1 dX6_dearer_60 (lv_at hl 1 rfl) ?_
      refine lv_lconst (v := (0 : Int64)) S.1 S.2.1 dX6_dearer_62 (by decide) ?_
      refine ll_eq (tgt := 74) S dX6_dearer_63 dX6_dearer_64 (by decide) (fun h9 => ?_) (fun h9 => ?_)
      · replace hf := ift h9 hf
        refine lv_lload S.1 S.2.1 dX6_dearer_74 (lv_at hl 1 rfl) ?_
        refine lv_lload S.1 S.2.1 dX6_dearer_76 (lv_at hl 0 rfl) ?_
        refine ll_ne (tgt := 86) S dX6_dearer_78 dX6_dearer_79 (by decide) (fun h10 => ?_) (fun h10 => ?_)
        · replace hf := iff_ h10 hf
          refine lv_lload S.1 S.2.1 dX6_dearer_86 (lv_at hl 1 rfl) ?_
          refine lv_lconst (v := (0 : Int64)) S.1 S.2.1 dX6_dearer_88 (by decide) ?_
          refine ll_ne (tgt := 97) S dX6_dearer_89 dX6_dearer_90 (by decide) (fun q9 => absurd h9 q9) (fun _ => ?_)
          refine lv_lconst (v := (1 : Int64)) S.1 S.2.1 dX6_dearer_93 (by decide) ?_
          refine lv_goto (tgt := 100) S.1 S.2.1 dX6_dearer_94 (by decide) ?_
          cases hf
          exact r_l S hr hlk hP hS dX6_dearer_100
        · replace hf := ift h10 hf
          refine lv_lconst (v := (0 : Int64)) S.1 S.2.1 dX6_dearer_82 (by decide) ?_
          refine lv_goto (tgt := 100) S.1 S.2.1 dX6_dearer_83 (by decide) ?_
          cases hf
          exact r_l S hr hlk hP hS dX6_dearer_100
      · replace hf := iff_ h9 hf
        refine lv_lload S.1 S.2.1 dX6_dearer_67 (lv_at hl 0 rfl) ?_
        refine lv_lconst (v := (0 : Int64)) S.1 S.2.1 dX6_dearer_69 (by decide) ?_
        refine ll_ne (tgt := 101) S dX6_dearer_70 dX6_dearer_71 (by decide) (fun h11 => ?_) (fun h11 => ?_)
        · replace hf := iff_ h11 hf
          refine lv_aload_n S.1 S.2.1 dX6_dearer_101 rfl (lv_at hl 4 rfl) ?_
          refine x_get (v := .ref (ad 1)) S hK hP w_lay_X6 (ci := 6) rfl 0 (by decide) m0 0 (by decide) w_fl_X6_7 rfl rfl dX6_dearer_102 ?_
          refine lv_iload_n S.1 S.2.1 dX6_dearer_105 rfl (lv_at hl 5 rfl) ?_
          refine lv_iconst (v := (2 : Int32)) S.1 S.2.1 dX6_dearer_106 (by decide) ?_
          refine y_Si (As := [.int a1, .int (2 : Int32)]) S hK hN hP hS rfl (K_X6_groupCell l E ad hI _ a1 (2 : Int32)  M _ rfl) (cS 2 S w_co_yX6_groupCell w_in_X6 w_ml_X6_55 w_st_yX6_groupCell hd_X6_groupCell ⟨Nat.le_of_ble_eq_true rfl, Nat.le_of_ble_eq_true rfl⟩) hl.1 rfl rfl (Nat.le_of_ble_eq_true rfl) dX6_dearer_107 ⟨Nat.zero_le _, Nat.zero_le _⟩ (fun H locs hP hS => ?_)
          obtain ⟨h13, hf⟩ := gd_some hf
          refine x_lald S hK hP 1 (by decide) m1 h13 dX6_dearer_110 ?_
          refine lv_aload_n S.1 S.2.1 dX6_dearer_111 rfl (lv_at hl 4 rfl) ?_
          refine x_get (v := .ref (ad 1)) S hK hP w_lay_X6 (ci := 6) rfl 0 (by decide) m0 0 (by decide) w_fl_X6_7 rfl rfl dX6_dearer_112 ?_
          refine lv_iconst (v := (0 : Int32)) S.1 S.2.1 dX6_dearer_115 (by decide) ?_
          refine lv_iload_n S.1 S.2.1 dX6_dearer_116 rfl (lv_at hl 3 rfl) ?_
          refine lv_iadd S.1 S.2.1 dX6_dearer_117 ?_
          obtain ⟨h14, hf⟩ := gd_some hf
          refine x_lald S hK hP 1 (by decide) m1 h14 dX6_dearer_118 ?_
          refine lv_lmul S.1 S.2.1 dX6_dearer_119 ?_
          refine lv_lload S.1 S.2.1 dX6_dearer_120 (lv_at hl 0 rfl) ?_
          refine lv_lmul S.1 S.2.1 dX6_dearer_122 ?_
          obtain ⟨x15, ex15, hf⟩ := bnd_some hf
          refine lv_rel ex15 ?_
          refine lv_lstore (lv' := [(9, .long x15), (7, .long x8), (5, .long x7), (4, .int x6), (3, .int x4), (0, .ref (ad 0)), (1, .int a1), (2, .int a2)]) S.1 S.2.1 dX6_dearer_123 hl (by decide) rfl (fun ls hl => ?_)
          refine lv_aload_n S.1 S.2.1 dX6_dearer_125 rfl (lv_at hl 5 rfl) ?_
          refine x_get (v := .ref (ad 1)) S hK hP w_lay_X6 (ci := 6) rfl 0 (by decide) m0 0 (by decide) w_fl_X6_7 rfl rfl dX6_dearer_126 ?_
          refine lv_iload_n S.1 S.2.1 dX6_dearer_129 rfl (lv_at hl 7 rfl) ?_
          refine lv_iconst (v := (2 : Int32)) S.1 S.2.1 dX6_dearer_130 (by decide) ?_
          refine y_Si (As := [.int a2, .int (2 : Int32)]) S hK hN hP hS rfl (K_X6_groupCell l E ad hI _ a2 (2 : Int32)  M _ rfl) (cS 2 S w_co_yX6_groupCell w_in_X6 w_ml_X6_55 w_st_yX6_groupCell hd_X6_groupCell ⟨Nat.le_of_ble_eq_true rfl, Nat.le_of_ble_eq_true rfl⟩) hl.1 rfl rfl (Nat.le_of_ble_eq_true rfl) dX6_dearer_131 ⟨Nat.zero_le _, Nat.zero_le _⟩ (fun H locs hP hS => ?_)
          obtain ⟨h16, hf⟩ := gd_some hf
          refine x_lald S hK hP 1 (by decide) m1 h16 dX6_dearer_134 ?_
          refine lv_aload_n S.1 S.2.1 dX6_dearer_135 rfl (lv_at hl 5 rfl) ?_
          refine x_get (v := .ref (ad 1)) S hK hP w_lay_X6 (ci := 6) rfl 0 (by decide) m0 0 (by decide) w_fl_X6_7 rfl rfl dX6_dearer_136 ?_
          refine lv_iconst (v := (0 : Int32)) S.1 S.2.1 dX6_dearer_139 (by decide) ?_
          refine lv_iload S.1 S.2.1 dX6_dearer_140 (lv_at hl 3 rfl) ?_
          refine lv_iadd S.1 S.2.1 dX6_dearer_142 ?_
          obtain ⟨h17, hf⟩ := gd_some hf
          refine x_lald S hK hP 1 (by decide) m1 h17 dX6_dearer_143 ?_
          refine lv_lmul S.1 S.2.1 dX6_dearer_144 ?_
          refine lv_lload S.1 S.2.1 dX6_dearer_145 (lv_at hl 2 rfl) ?_
          refine lv_lmul S.1 S.2.1 dX6_dearer_147 ?_
          obtain ⟨x18, ex18, hf⟩ := bnd_some hf
          refine lv_rel ex18 ?_
          refine lv_lstore (lv' := [(11, .long x18), (9, .long x15), (7, .long x8), (5, .long x7), (4, .int x6), (3, .int x4), (0, .ref (ad 0)), (1, .int a1), (2, .int a2)]) S.1 S.2.1 dX6_dearer_148 hl (by decide) rfl (fun ls hl => ?_)
          refine lv_lload S.1 S.2.1 dX6_dearer_150 (lv_at hl 1 rfl) ?_
          refine lv_lload S.1 S.2.1 dX6_dearer_152 (lv_at hl 0 rfl) ?_
          refine ll_le (tgt := 162) S dX6_dearer_154 dX6_dearer_155 (by decide) (fun h19 => ?_) (fun h19 => ?_)
          · replace hf := ift h19 hf
            refine lv_lload S.1 S.2.1 dX6_dearer_162 (lv_at hl 1 rfl) ?_
            refine lv_lload S.1 S.2.1 dX6_dearer_164 (lv_at hl 0 rfl) ?_
            refine ll_ge (tgt := 176) S dX6_dearer_166 dX6_dearer_167 (by decide) (fun h20 => ?_) (fun h20 => ?_)
            · replace hf := ift h20 hf
              refine lv_lconst (v := (0 : Int64)) S.1 S.2.1 dX6_dearer_176 (by decide) ?_
              cases hf
              exact r_l S hr hlk hP hS dX6_dearer_177
            · replace hf := iff_ h20 hf
              refine lv_ldc2 (own := "SurvivorPurseModel") (v := (-1 : Int64)) S.1 S.2.1 S.2.2.2.1 (S.2.2.2.2 _ w_kl_X6_59) dX6_dearer_170 ?_
              refine lv_goto (tgt := 177) S.1 S.2.1 dX6_dearer_173 (by decide) ?_
              cases hf
              exact r_l S hr hlk hP hS dX6_dearer_177
          · replace hf := iff_ h19 hf
            refine lv_lconst (v := (1 : Int64)) S.1 S.2.1 dX6_dearer_158 (by decide) ?_
            refine lv_goto (tgt := 177) S.1 S.2.1 dX6_dearer_159 (by decide) ?_
            cases hf
            exact r_l S hr hlk hP hS dX6_dearer_177
        · replace hf := ift h11 hf
          refine lv_lload S.1 S.2.1 dX6_dearer_74 (lv_at hl 1 rfl) ?_
          refine lv_lload S.1 S.2.1 dX6_dearer_76 (lv_at hl 0 rfl) ?_
          refine ll_ne (tgt := 86) S dX6_dearer_78 dX6_dearer_79 (by decide) (fun h12 => ?_) (fun h12 => ?_)
          · replace hf := iff_ h12 hf
            refine lv_lload S.1 S.2.1 dX6_dearer_86 (lv_at hl 1 rfl) ?_
            refine lv_lconst (v := (0 : Int64)) S.1 S.2.1 dX6_dearer_88 (by decide) ?_
            refine ll_ne (tgt := 97) S dX6_dearer_89 dX6_dearer_90 (by decide) (fun _ => ?_) (fun q9 => absurd q9 h9)
            refine lv_ldc2 (own := "SurvivorPurseModel") (v := (-1 : Int64)) S.1 S.2.1 S.2.2.2.1 (S.2.2.2.2 _ w_kl_X6_59) dX6_dearer_97 ?_
            cases hf
            exact r_l S hr hlk hP hS dX6_dearer_100
          · replace hf := ift h12 hf
            refine lv_lconst (v := (0 : Int64)) S.1 S.2.1 dX6_dearer_82 (by decide) ?_
            refine lv_goto (tgt := 100) S.1 S.2.1 dX6_dearer_83 (by decide) ?_
            cases hf
            exact r_l S hr hlk hP hS dX6_dearer_100
    · replace hf := ift h2 hf
      refine lv_ldc2 (own := "SurvivorPurseModel") (v := (-1000000000000000 : Int64)) S.1 S.2.1 S.2.2.2.1 (S.2.2.2.2 _ w_kl_X6_41) dX6_dearer_16 ?_
      cases hf
      exact r_l S hr hlk hP hS dX6_dearer_19
theorem hd_X6_member : yX6_member.cls ≠ "java/lang/invoke/MethodHandle" ∧ yX6_member.cls ≠ "java/lang/invoke/VarHandle" ∧ (parseMethodDescriptor yX6_member.desc).map (fun d => d.parameters.length) = some 1 := by decide +kernel
set_option maxHeartbeats 4000000 in
set_option maxRecDepth 100000 in
theorem L_X6_member_63 (l : Launch) (E : EE) (ad : Nat → Nat) (hI : ad_I ad 7) (N : Nat) (a1 : Int32)  {p : Program} {e : Env} {s : State} {m : MethodId} {below : List Frame} {meth : Method} {c : Code} (S : CallFix p m c cX6_member 4 s [.ref (ad 0), .int a1].toArray bg_B "SurvivorPurseModel") (hr : meth.sig.returnType = (some .long)) (hlk : meth.locks = false) (hK : va_K E.1 vwCl (tysE E) s) (hN : NW s) (r : Int64) (M' : MM) : ∀ (fu : Nat) (v2 : Int32) (v3 : Int32)  (M : MM), F_X6_member_63 N a1 fu v2 v3 M = some (r, M') → ∀ (H : Heap) (locs : List Loc) (ls : Array Slot), va_P E.1 vwCl (mw (entM E ad M) ad 7) H → va_S (AA ad 7 s.heap.size) s.heap H locs → lv_has ls 4 [(0, .ref (ad 0)), (1, .int a1), (2, .int v2), (3, .int v3)] → W p l e { frames := 1, cells := 0, slots := 0, locals := 21 } s m [.ref (ad 0), .int a1].toArray below meth c H locs 0 0 (MQ below (va_Ql (fun r0 (_ : Unit) => r0 = r) (fun _ t => QB E (entM E ad M') ad 7 t) (AA ad 7 s.heap.size)) [.ref (ad 0), .int a1].toArray s 0 0 (AA ad 7 s.heap.size)) (F0 m 63 ls []) := by
  intro fu
  induction fu with
  | zero =>
    intro v2 v3 M hf
    rw [F_X6_member_63] at hf
    cases hf
  | succ fu ih =>
    intro v2 v3 M hf H locs ls hP hS hl
    rw [F_X6_member_63] at hf
    refine lv_iload_n S.1 S.2.1 dX6_member_63 rfl (lv_at hl 3 rfl) ?_
    refine lv_bipush (v := (7 : Int32)) S.1 S.2.1 dX6_member_64 (by decide) ?_
    refine lv_icmp_ge (tgt := 86) S.1 S.2.1 dX6_member_66 (by decide) (fun h5 => ?_) (fun h5 => ?_)
    · replace hf := ift h5 hf
      refine lv_aload_n S.1 S.2.1 dX6_member_86 rfl (lv_at hl 0 rfl) ?_
      refine x_get (v := .ref (ad 1)) S hK hP w_lay_X6 (ci := 6) rfl 0 (by decide) m0 0 (by decide) w_fl_X6_7 rfl rfl dX6_member_87 ?_
      refine lv_iload_n S.1 S.2.1 dX6_member_90 rfl (lv_at hl 2 rfl) ?_
      refine lv_iconst (v := (0 : Int32)) S.1 S.2.1 dX6_member_91 (by decide) ?_
      refine y_Si (As := [.int v2, .int (0 : Int32)]) S hK hN hP hS rfl (K_X6_cellOf l E ad hI _ v2 (0 : Int32)  M _ rfl) (cS 2 S w_co_yX6_cellOf w_in_X6 w_ml_X6_63 w_st_yX6_cellOf hd_X6_cellOf ⟨Nat.le_of_ble_eq_true rfl, Nat.le_of_ble_eq_true rfl⟩) hl.1 rfl rfl (Nat.le_of_ble_eq_true rfl) dX6_member_92 ⟨Nat.zero_le _, Nat.zero_le _⟩ (fun H locs hP hS => ?_)
      refine lv_iload_n S.1 S.2.1 dX6_member_95 rfl (lv_at hl 1 rfl) ?_
      refine lv_i2l (v := a1.toInt64) S.1 S.2.1 dX6_member_96 rfl ?_
      obtain ⟨h6, hf⟩ := gd_some hf
      refine x_last S hI hK hP hS 1 (by decide) m1 h6 (entM E ad (sL M 1 (ix (F_X6_cellOf v2 (0 : Int32))) a1.toInt64)) n1 (fun _ h => entM_sL _ h) dX6_member_97 (fun H locs hP hS => ?_)
      obtain ⟨M7, eM7, hf⟩ := bnd_some hf
      rw [← eM7] at hP
      refine lv_aload_n S.1 S.2.1 dX6_member_98 rfl (lv_at hl 0 rfl) ?_
      refine x_get (v := .ref (ad 1)) S hK hP w_lay_X6 (ci := 6) rfl 0 (by decide) m0 0 (by decide) w_fl_X6_7 rfl rfl dX6_member_99 ?_
      refine lv_iload_n S.1 S.2.1 dX6_member_102 rfl (lv_at hl 2 rfl) ?_
      refine lv_iconst (v := (3 : Int32)) S.1 S.2.1 dX6_member_103 (by decide) ?_
      refine y_Si (As := [.int v2, .int (3 : Int32)]) S hK hN hP hS rfl (K_X6_cellOf l E ad hI _ v2 (3 : Int32)  M7 _ rfl) (cS 2 S w_co_yX6_cellOf w_in_X6 w_ml_X6_63 w_st_yX6_cellOf hd_X6_cellOf ⟨Nat.le_of_ble_eq_true rfl, Nat.le_of_ble_eq_true rfl⟩) hl.1 rfl rfl (Nat.le_of_ble_eq_true rfl) dX6_member_104 ⟨Nat.zero_le _, Nat.zero_le _⟩ (fun H locs hP hS => ?_)
      refine lv_ldc2 (own := "SurvivorPurseModel") (v := (-1 : Int64)) S.1 S.2.1 S.2.2.2.1 (S.2.2.2.2 _ w_kl_X6_59) dX6_member_107 ?_
      obtain ⟨h8, hf⟩ := gd_some hf
      refine x_last S hI hK hP hS 1 (by decide) m1 h8 (entM E ad (sL M7 1 (ix (F_X6_cellOf v2 (3 : Int32))) (-1 : Int64))) n1 (fun _ h => entM_sL _ h) dX6_member_110 (fun H locs hP hS => ?_)
      obtain ⟨M9, eM9, hf⟩ := bnd_some hf
      rw [← eM9] at hP
      refine lv_aload_n S.1 S.2.1 dX6_member_111 rfl (lv_at hl 0 rfl) ?_
      refine x_get (v := .ref (ad 1)) S hK hP w_lay_X6 (ci := 6) rfl 0 (by decide) m0 0 (by decide) w_fl_X6_7 rfl rfl dX6_member_112 ?_
      refine lv_sipush (v := (5668 : Int32)) S.1 S.2.1 dX6_member_115 (by decide) ?_
      refine lv_dup2_11 S.1 S.2.1 dX6_member_118 rfl rfl ?_
      refine x_laldc (j := 5668) S hK hP 1 (by decide) m1 (by decide) (by decide) dX6_member_119 ?_
      refine lv_lconst (v := (1 : Int64)) S.1 S.2.1 dX6_member_120 (by decide) ?_
      refine lv_ladd S.1 S.2.1 dX6_member_121 ?_
      refine x_lastc (j := 5668) S hI hK hP hS 1 (by decide) m1 (by decide) (by decide) (entM E ad (sL M9 1 5668 ((gL M9 1 5668) + (1 : Int64)))) n1 (fun _ h => entM_sL _ h) dX6_member_122 (fun H locs hP hS => ?_)
      obtain ⟨M10, eM10, hf⟩ := bnd_some hf
      rw [← eM10] at hP
      refine lv_iload_n S.1 S.2.1 dX6_member_123 rfl (lv_at hl 2 rfl) ?_
      refine lv_i2l (v := v2.toInt64) S.1 S.2.1 dX6_member_124 rfl ?_
      cases hf
      exact r_l S hr hlk hP hS dX6_member_125
    · replace hf := iff_ h5 hf
      refine lv_aload_n S.1 S.2.1 dX6_member_69 rfl (lv_at hl 0 rfl) ?_
      refine x_get (v := .ref (ad 1)) S hK hP w_lay_X6 (ci := 6) rfl 0 (by decide) m0 0 (by decide) w_fl_X6_7 rfl rfl dX6_member_70 ?_
      refine lv_iload_n S.1 S.2.1 dX6_member_73 rfl (lv_at hl 2 rfl) ?_
      refine lv_iload_n S.1 S.2.1 dX6_member_74 rfl (lv_at hl 3 rfl) ?_
      refine y_Si (As := [.int v2, .int v3]) S hK hN hP hS rfl (K_X6_cellOf l E ad hI _ v2 v3  M _ rfl) (cS 2 S w_co_yX6_cellOf w_in_X6 w_ml_X6_63 w_st_yX6_cellOf hd_X6_cellOf ⟨Nat.le_of_ble_eq_true rfl, Nat.le_of_ble_eq_true rfl⟩) hl.1 rfl rfl (Nat.le_of_ble_eq_true rfl) dX6_member_75 ⟨Nat.zero_le _, Nat.zero_le _⟩ (fun H locs hP hS => ?_)
      refine lv_lconst (v := (0 : Int64)) S.1 S.2.1 dX6_member_78 (by decide) ?_
      obtain ⟨h11, hf⟩ := gd_some hf
      refine x_last S hI hK hP hS 1 (by decide) m1 h11 (entM E ad (sL M 1 (ix (F_X6_cellOf v2 v3)) (0 : Int64))) n1 (fun _ h => entM_sL _ h) dX6_member_79 (fun H locs hP hS => ?_)
      obtain ⟨M12, eM12, hf⟩ := bnd_some hf
      rw [← eM12] at hP
      refine lv_iinc (v := v3 + (1 : Int32)) (lv' := [(3, .int (v3 + (1 : Int32))), (0, .ref (ad 0)), (1, .int a1), (2, .int v2)]) S.1 S.2.1 dX6_member_80 hl (k := 3) rfl rfl (by decide) rfl (fun ls hl => ?_)
      refine lv_goto (tgt := 63) S.1 S.2.1 dX6_member_83 (by decide) ?_
      exact ih v2 (v3 + (1 : Int32))  M12 hf _ _ _ hP hS (lv_sub hl [1, 2, 3, 0] rfl)
set_option maxHeartbeats 4000000 in
set_option maxRecDepth 100000 in
theorem K_X6_member (l : Launch) (E : EE) (ad : Nat → Nat) (hI : ad_I ad 7) (sz : Nat) (N : Nat) (a1 : Int32)  (M : MM) (r : Int64) (M' : MM) (hf : F_X6_member N a1 M = some (r, M')) : CtL l yX6_member cX6_member 4 1 21 E (entM E ad M) (entM E ad M') ad 7 sz [.ref (ad 0), .int a1] (r) := by
  unfold CtL
  refine body_of (by decide) "SurvivorPurseModel" rfl (Nat.le_of_ble_eq_true rfl) ?_
  intro p e s m below meth c hsz S hr hlk hP hK hN ls hl
  subst hsz
  have hS : va_S (AA ad 7 s.heap.size) s.heap s.heap [] := va_S.rf
  have hl : lv_has ls 4 [(0, .ref (ad 0)), (1, .int a1)] := hl
  rw [F_X6_member] at hf
  refine lv_iload_n S.1 S.2.1 dX6_member_0 rfl (lv_at hl 1 rfl) ?_
  refine lv_i2l (v := a1.toInt64) S.1 S.2.1 dX6_member_1 rfl ?_
  refine lv_aload_n S.1 S.2.1 dX6_member_2 rfl (lv_at hl 0 rfl) ?_
  refine x_get (v := .ref (ad 1)) S hK hP w_lay_X6 (ci := 6) rfl 0 (by decide) m0 0 (by decide) w_fl_X6_7 rfl rfl dX6_member_3 ?_
  refine lv_sipush (v := (5663 : Int32)) S.1 S.2.1 dX6_member_6 (by decide) ?_
  refine x_laldc (j := 5663) S hK hP 1 (by decide) m1 (by decide) (by decide) dX6_member_9 ?_
  refine ll_gt (tgt := 47) S dX6_member_10 dX6_member_11 (by decide) (fun h1 => ?_) (fun h1 => ?_)
  · replace hf := ift h1 hf
    refine lv_ldc2 (own := "SurvivorPurseModel") (v := (-1000000000000000 : Int64)) S.1 S.2.1 S.2.2.2.1 (S.2.2.2.2 _ w_kl_X6_41) dX6_member_47 ?_
    cases hf
    exact r_l S hr hlk hP hS dX6_member_50
  · replace hf := iff_ h1 hf
    refine lv_iload_n S.1 S.2.1 dX6_member_14 rfl (lv_at hl 1 rfl) ?_
    refine lv_i2l (v := a1.toInt64) S.1 S.2.1 dX6_member_15 rfl ?_
    refine lv_aload_n S.1 S.2.1 dX6_member_16 rfl (lv_at hl 0 rfl) ?_
    refine x_get (v := .ref (ad 1)) S hK hP w_lay_X6 (ci := 6) rfl 0 (by decide) m0 0 (by decide) w_fl_X6_7 rfl rfl dX6_member_17 ?_
    refine lv_sipush (v := (5663 : Int32)) S.1 S.2.1 dX6_member_20 (by decide) ?_
    refine x_laldc (j := 5663) S hK hP 1 (by decide) m1 (by decide) (by decide) dX6_member_23 ?_
    refine lv_ldc2 (own := "SurvivorPurseModel") (v := (110 : Int64)) S.1 S.2.1 S.2.2.2.1 (S.2.2.2.2 _ w_kl_X6_39) dX6_member_24 ?_
    refine lv_lsub S.1 S.2.1 dX6_member_27 ?_
    refine ll_lt (tgt := 47) S dX6_member_28 dX6_member_29 (by decide) (fun h2 => ?_) (fun h2 => ?_)
    · replace hf := ift h2 hf
      refine lv_ldc2 (own := "SurvivorPurseModel") (v := (-1000000000000000 : Int64)) S.1 S.2.1 S.2.2.2.1 (S.2.2.2.2 _ w_kl_X6_41) dX6_member_47 ?_
      cases hf
      exact r_l S hr hlk hP hS dX6_member_50
    · replace hf := iff_ h2 hf
      refine lv_aload_n S.1 S.2.1 dX6_member_32 rfl (lv_at hl 0 rfl) ?_
      refine x_get (v := .ref (ad 1)) S hK hP w_lay_X6 (ci := 6) rfl 0 (by decide) m0 0 (by decide) w_fl_X6_7 rfl rfl dX6_member_33 ?_
      refine lv_sipush (v := (5668 : Int32)) S.1 S.2.1 dX6_member_36 (by decide) ?_
      refine x_laldc (j := 5668) S hK hP 1 (by decide) m1 (by decide) (by decide) dX6_member_39 ?_
      refine lv_ldc2 (own := "SurvivorPurseModel") (v := (24 : Int64)) S.1 S.2.1 S.2.2.2.1 (S.2.2.2.2 _ w_kl_X6_61) dX6_member_40 ?_
      refine ll_ne (tgt := 51) S dX6_member_43 dX6_member_44 (by decide) (fun h3 => ?_) (fun h3 => ?_)
      · replace hf := iff_ h3 hf
        refine lv_aload_n S.1 S.2.1 dX6_member_51 rfl (lv_at hl 0 rfl) ?_
        refine x_get (v := .ref (ad 1)) S hK hP w_lay_X6 (ci := 6) rfl 0 (by decide) m0 0 (by decide) w_fl_X6_7 rfl rfl dX6_member_52 ?_
        refine lv_sipush (v := (5668 : Int32)) S.1 S.2.1 dX6_member_55 (by decide) ?_
        refine x_laldc (j := 5668) S hK hP 1 (by decide) m1 (by decide) (by decide) dX6_member_58 ?_
        refine lv_l2i (v := (gL M 1 5668).toInt32) S.1 S.2.1 dX6_member_59 rfl ?_
        obtain ⟨x4, ex4, hf⟩ := bnd_some hf
        refine lv_rei ex4 ?_
        refine lv_istore_n (lv' := [(2, .int x4), (0, .ref (ad 0)), (1, .int a1)]) S.1 S.2.1 dX6_member_60 rfl hl (by decide) rfl (fun ls hl => ?_)
        refine lv_iconst (v := (0 : Int32)) S.1 S.2.1 dX6_member_61 (by decide) ?_
        refine lv_istore_n (lv' := [(3, .int (0 : Int32)), (2, .int x4), (0, .ref (ad 0)), (1, .int a1)]) S.1 S.2.1 dX6_member_62 rfl hl (by decide) rfl (fun ls hl => ?_)
        exact L_X6_member_63 l E ad hI N a1  S hr hlk hK hN _ _ N x4 (0 : Int32)  M hf _ _ _ hP hS (lv_sub hl [2, 3, 1, 0] rfl)
      · replace hf := ift h3 hf
        refine lv_ldc2 (own := "SurvivorPurseModel") (v := (-1000000000000000 : Int64)) S.1 S.2.1 S.2.2.2.1 (S.2.2.2.2 _ w_kl_X6_41) dX6_member_47 ?_
        cases hf
        exact r_l S hr hlk hP hS dX6_member_50
theorem hd_X6_heir : yX6_heir.cls ≠ "java/lang/invoke/MethodHandle" ∧ yX6_heir.cls ≠ "java/lang/invoke/VarHandle" ∧ (parseMethodDescriptor yX6_heir.desc).map (fun d => d.parameters.length) = some 2 := by decide +kernel
set_option maxHeartbeats 4000000 in
set_option maxRecDepth 100000 in
theorem K_X6_heir (l : Launch) (E : EE) (ad : Nat → Nat) (hI : ad_I ad 7) (sz : Nat) (N : Nat) (a1 : Int32) (a2 : Int32)  (M : MM) (r : Int64) (M' : MM) (hf : F_X6_heir N a1 a2 M = some (r, M')) : CtL l yX6_heir cX6_heir 5 2 46 E (entM E ad M) (entM E ad M') ad 7 sz [.ref (ad 0), .int a1, .int a2] (r) := by
  unfold CtL
  refine body_of (by decide) "SurvivorPurseModel" rfl (Nat.le_of_ble_eq_true rfl) ?_
  intro p e s m below meth c hsz S hr hlk hP hK hN ls hl
  subst hsz
  have hS : va_S (AA ad 7 s.heap.size) s.heap s.heap [] := va_S.rf
  have hl : lv_has ls 5 [(0, .ref (ad 0)), (1, .int a1), (2, .int a2)] := hl
  rw [F_X6_heir] at hf
  refine lv_aload_n S.1 S.2.1 dX6_heir_0 rfl (lv_at hl 0 rfl) ?_
  refine lv_iload_n S.1 S.2.1 dX6_heir_1 rfl (lv_at hl 1 rfl) ?_
  refine y_Vi (As := [.int a1]) S hK hN hP hS rfl (by decide) m0 rfl (K_X6_isMember l E ad hI _ a1  M _ rfl) (cV 1 S w_co_yX6_isMember w_in_X6 w_ml_X6_66 w_im_yX6_isMember w_se_yX6_isMember hd_X6_isMember ⟨Nat.le_of_ble_eq_true rfl, Nat.le_of_ble_eq_true rfl⟩) hl.1 rfl rfl (Nat.le_of_ble_eq_true rfl) dX6_heir_2 ⟨Nat.zero_le _, Nat.zero_le _⟩ (fun H locs hP hS => ?_)
  refine lv_if_eq (tgt := 26) S.1 S.2.1 dX6_heir_5 (by decide) (fun h1 => ?_) (fun h1 => ?_)
  · replace hf := ift h1 hf
    refine lv_ldc2 (own := "SurvivorPurseModel") (v := (-1000000000000000 : Int64)) S.1 S.2.1 S.2.2.2.1 (S.2.2.2.2 _ w_kl_X6_41) dX6_heir_26 ?_
    cases hf
    exact r_l S hr hlk hP hS dX6_heir_29
  · replace hf := iff_ h1 hf
    refine lv_iload_n S.1 S.2.1 dX6_heir_8 rfl (lv_at hl 2 rfl) ?_
    refine lv_iconst (v := (-1 : Int32)) S.1 S.2.1 dX6_heir_9 (by decide) ?_
    refine lv_icmp_eq (tgt := 30) S.1 S.2.1 dX6_heir_10 (by decide) (fun h2 => ?_) (fun h2 => ?_)
    · replace hf := ift h2 hf
      refine lv_aload_n S.1 S.2.1 dX6_heir_30 rfl (lv_at hl 0 rfl) ?_
      refine x_get (v := .ref (ad 1)) S hK hP w_lay_X6 (ci := 6) rfl 0 (by decide) m0 0 (by decide) w_fl_X6_7 rfl rfl dX6_heir_31 ?_
      refine lv_iload_n S.1 S.2.1 dX6_heir_34 rfl (lv_at hl 1 rfl) ?_
      refine lv_iconst (v := (3 : Int32)) S.1 S.2.1 dX6_heir_35 (by decide) ?_
      refine y_Si (As := [.int a1, .int (3 : Int32)]) S hK hN hP hS rfl (K_X6_cellOf l E ad hI _ a1 (3 : Int32)  M _ rfl) (cS 2 S w_co_yX6_cellOf w_in_X6 w_ml_X6_63 w_st_yX6_cellOf hd_X6_cellOf ⟨Nat.le_of_ble_eq_true rfl, Nat.le_of_ble_eq_true rfl⟩) hl.1 rfl rfl (Nat.le_of_ble_eq_true rfl) dX6_heir_36 ⟨Nat.zero_le _, Nat.zero_le _⟩ (fun H locs hP hS => ?_)
      obtain ⟨h3, hf⟩ := gd_some hf
      refine x_lald S hK hP 1 (by decide) m1 h3 dX6_heir_39 ?_
      obtain ⟨x4, ex4, hf⟩ := bnd_some hf
      refine lv_rel ex4 ?_
      refine lv_lstore_n (lv' := [(3, .long x4), (0, .ref (ad 0)), (1, .int a1), (2, .int a2)]) S.1 S.2.1 dX6_heir_40 rfl hl (by decide) rfl (fun ls hl => ?_)
      refine lv_aload_n S.1 S.2.1 dX6_heir_41 rfl (lv_at hl 1 rfl) ?_
      refine x_get (v := .ref (ad 1)) S hK hP w_lay_X6 (ci := 6) rfl 0 (by decide) m0 0 (by decide) w_fl_X6_7 rfl rfl dX6_heir_42 ?_
      refine lv_iload_n S.1 S.2.1 dX6_heir_45 rfl (lv_at hl 2 rfl) ?_
      refine lv_iconst (v := (3 : Int32)) S.1 S.2.1 dX6_heir_46 (by decide) ?_
      refine y_Si (As := [.int a1, .int (3 : Int32)]) S hK hN hP hS rfl (K_X6_cellOf l E ad hI _ a1 (3 : Int32)  M _ rfl) (cS 2 S w_co_yX6_cellOf w_in_X6 w_ml_X6_63 w_st_yX6_cellOf hd_X6_cellOf ⟨Nat.le_of_ble_eq_true rfl, Nat.le_of_ble_eq_true rfl⟩) hl.1 rfl rfl (Nat.le_of_ble_eq_true rfl) dX6_heir_47 ⟨Nat.zero_le _, Nat.zero_le _⟩ (fun H locs hP hS => ?_)
      refine lv_iload_n S.1 S.2.1 dX6_heir_50 rfl (lv_at hl 3 rfl) ?_
      refine lv_i2l (v := a2.toInt64) S.1 S.2.1 dX6_heir_51 rfl ?_
      refine x_last S hI hK hP hS 1 (by decide) m1 h3 (entM E ad (sL M 1 (ix (F_X6_cellOf a1 (3 : Int32))) a2.toInt64)) n1 (fun _ h => entM_sL _ h) dX6_heir_52 (fun H locs hP hS => ?_)
      obtain ⟨M5, eM5, hf⟩ := bnd_some hf
      rw [← eM5] at hP
      refine lv_lload_n S.1 S.2.1 dX6_heir_53 rfl (lv_at hl 0 rfl) ?_
      cases hf
      exact r_l S hr hlk hP hS dX6_heir_54
    · replace hf := iff_ h2 hf
      refine lv_aload_n S.1 S.2.1 dX6_heir_13 rfl (lv_at hl 0 rfl) ?_
      refine lv_iload_n S.1 S.2.1 dX6_heir_14 rfl (lv_at hl 2 rfl) ?_
      refine y_Vi (As := [.int a2]) S hK hN hP hS rfl (by decide) m0 rfl (K_X6_isMember l E ad hI _ a2  M _ rfl) (cV 1 S w_co_yX6_isMember w_in_X6 w_ml_X6_66 w_im_yX6_isMember w_se_yX6_isMember hd_X6_isMember ⟨Nat.le_of_ble_eq_true rfl, Nat.le_of_ble_eq_true rfl⟩) hl.1 rfl rfl (Nat.le_of_ble_eq_true rfl) dX6_heir_15 ⟨Nat.zero_le _, Nat.zero_le _⟩ (fun H locs hP hS => ?_)
      refine lv_if_eq (tgt := 26) S.1 S.2.1 dX6_heir_18 (by decide) (fun h6 => ?_) (fun h6 => ?_)
      · replace hf := ift h6 hf
        refine lv_ldc2 (own := "SurvivorPurseModel") (v := (-1000000000000000 : Int64)) S.1 S.2.1 S.2.2.2.1 (S.2.2.2.2 _ w_kl_X6_41) dX6_heir_26 ?_
        cases hf
        exact r_l S hr hlk hP hS dX6_heir_29
      · replace hf := iff_ h6 hf
        refine lv_iload_n S.1 S.2.1 dX6_heir_21 rfl (lv_at hl 2 rfl) ?_
        refine lv_iload_n S.1 S.2.1 dX6_heir_22 rfl (lv_at hl 1 rfl) ?_
        refine lv_icmp_ne (tgt := 30) S.1 S.2.1 dX6_heir_23 (by decide) (fun h7 => ?_) (fun h7 => ?_)
        · replace hf := iff_ h7 hf
          refine lv_aload_n S.1 S.2.1 dX6_heir_30 rfl (lv_at hl 0 rfl) ?_
          refine x_get (v := .ref (ad 1)) S hK hP w_lay_X6 (ci := 6) rfl 0 (by decide) m0 0 (by decide) w_fl_X6_7 rfl rfl dX6_heir_31 ?_
          refine lv_iload_n S.1 S.2.1 dX6_heir_34 rfl (lv_at hl 1 rfl) ?_
          refine lv_iconst (v := (3 : Int32)) S.1 S.2.1 dX6_heir_35 (by decide) ?_
          refine y_Si (As := [.int a1, .int (3 : Int32)]) S hK hN hP hS rfl (K_X6_cellOf l E ad hI _ a1 (3 : Int32)  M _ rfl) (cS 2 S w_co_yX6_cellOf w_in_X6 w_ml_X6_63 w_st_yX6_cellOf hd_X6_cellOf ⟨Nat.le_of_ble_eq_true rfl, Nat.le_of_ble_eq_true rfl⟩) hl.1 rfl rfl (Nat.le_of_ble_eq_true rfl) dX6_heir_36 ⟨Nat.zero_le _, Nat.zero_le _⟩ (fun H locs hP hS => ?_)
          obtain ⟨h8, hf⟩ := gd_some hf
          refine x_lald S hK hP 1 (by decide) m1 h8 dX6_heir_39 ?_
          obtain ⟨x9, ex9, hf⟩ := bnd_some hf
          refine lv_rel ex9 ?_
          refine lv_lstore_n (lv' := [(3, .long x9), (0, .ref (ad 0)), (1, .int a1), (2, .int a2)]) S.1 S.2.1 dX6_heir_40 rfl hl (by decide) rfl (fun ls hl => ?_)
          refine lv_aload_n S.1 S.2.1 dX6_heir_41 rfl (lv_at hl 1 rfl) ?_
          refine x_get (v := .ref (ad 1)) S hK hP w_lay_X6 (ci := 6) rfl 0 (by decide) m0 0 (by decide) w_fl_X6_7 rfl rfl dX6_heir_42 ?_
          refine lv_iload_n S.1 S.2.1 dX6_heir_45 rfl (lv_at hl 2 rfl) ?_
          refine lv_iconst (v := (3 : Int32)) S.1 S.2.1 dX6_heir_46 (by decide) ?_
          refine y_Si (As := [.int a1, .int (3 : Int32)]) S hK hN hP hS rfl (K_X6_cellOf l E ad hI _ a1 (3 : Int32)  M _ rfl) (cS 2 S w_co_yX6_cellOf w_in_X6 w_ml_X6_63 w_st_yX6_cellOf hd_X6_cellOf ⟨Nat.le_of_ble_eq_true rfl, Nat.le_of_ble_eq_true rfl⟩) hl.1 rfl rfl (Nat.le_of_ble_eq_true rfl) dX6_heir_47 ⟨Nat.zero_le _, Nat.zero_le _⟩ (fun H locs hP hS => ?_)
          refine lv_iload_n S.1 S.2.1 dX6_heir_50 rfl (lv_at hl 3 rfl) ?_
          refine lv_i2l (v := a2.toInt64) S.1 S.2.1 dX6_heir_51 rfl ?_
          refine x_last S hI hK hP hS 1 (by decide) m1 h8 (entM E ad (sL M 1 (ix (F_X6_cellOf a1 (3 : Int32))) a2.toInt64)) n1 (fun _ h => entM_sL _ h) dX6_heir_52 (fun H locs hP hS => ?_)
          obtain ⟨M10, eM10, hf⟩ := bnd_some hf
          rw [← eM10] at hP
          refine lv_lload_n S.1 S.2.1 dX6_heir_53 rfl (lv_at hl 0 rfl) ?_
          cases hf
          exact r_l S hr hlk hP hS dX6_heir_54
        · replace hf := ift h7 hf
          refine lv_ldc2 (own := "SurvivorPurseModel") (v := (-1000000000000000 : Int64)) S.1 S.2.1 S.2.2.2.1 (S.2.2.2.2 _ w_kl_X6_41) dX6_heir_26 ?_
          cases hf
          exact r_l S hr hlk hP hS dX6_heir_29
theorem hd_X6_group : yX6_group.cls ≠ "java/lang/invoke/MethodHandle" ∧ yX6_group.cls ≠ "java/lang/invoke/VarHandle" ∧ (parseMethodDescriptor yX6_group.desc).map (fun d => d.parameters.length) = some 3 := by decide +kernel
set_option maxHeartbeats 4000000 in
set_option maxRecDepth 100000 in
theorem K_X6_group (l : Launch) (E : EE) (ad : Nat → Nat) (hI : ad_I ad 7) (sz : Nat) (N : Nat) (a1 : Int32) (a2 : Int32) (a3 : Int32)  (M : MM) (r : Int64) (M' : MM) (hf : F_X6_group N a1 a2 a3 M = some (r, M')) : CtL l yX6_group cX6_group 5 1 25 E (entM E ad M) (entM E ad M') ad 7 sz [.ref (ad 0), .int a1, .int a2, .int a3] (r) := by
  unfold CtL
  refine body_of (by decide) "SurvivorPurseModel" rfl (Nat.le_of_ble_eq_true rfl) ?_
  intro p e s m below meth c hsz S hr hlk hP hK hN ls hl
  subst hsz
  have hS : va_S (AA ad 7 s.heap.size) s.heap s.heap [] := va_S.rf
  have hl : lv_has ls 5 [(0, .ref (ad 0)), (1, .int a1), (2, .int a2), (3, .int a3)] := hl
  rw [F_X6_group] at hf
  refine lv_iload_n S.1 S.2.1 dX6_group_0 rfl (lv_at hl 1 rfl) ?_
  refine lv_i2l (v := a1.toInt64) S.1 S.2.1 dX6_group_1 rfl ?_
  refine lv_lconst (v := (0 : Int64)) S.1 S.2.1 dX6_group_2 (by decide) ?_
  refine lv_ldc2 (own := "SurvivorPurseModel") (v := (110 : Int64)) S.1 S.2.1 S.2.2.2.1 (S.2.2.2.2 _ w_kl_X6_39) dX6_group_3 ?_
  refine y_Si (As := [.long a1.toInt64, .long (0 : Int64), .long (110 : Int64)]) S hK hN hP hS rfl (K_X6_in l E ad hI _ a1.toInt64 (0 : Int64) (110 : Int64)  M _ rfl) (cS 3 S w_co_yX6_in w_in_X6 w_ml_X6_35 w_st_yX6_in hd_X6_in ⟨Nat.le_of_ble_eq_true rfl, Nat.le_of_ble_eq_true rfl⟩) hl.1 rfl rfl (Nat.le_of_ble_eq_true rfl) dX6_group_6 ⟨Nat.zero_le _, Nat.zero_le _⟩ (fun H locs hP hS => ?_)
  refine lv_if_eq (tgt := 56) S.1 S.2.1 dX6_group_9 (by decide) (fun h1 => ?_) (fun h1 => ?_)
  · replace hf := ift h1 hf
    refine lv_ldc2 (own := "SurvivorPurseModel") (v := (-1000000000000000 : Int64)) S.1 S.2.1 S.2.2.2.1 (S.2.2.2.2 _ w_kl_X6_41) dX6_group_56 ?_
    cases hf
    exact r_l S hr hlk hP hS dX6_group_59
  · replace hf := iff_ h1 hf
    refine lv_iload_n S.1 S.2.1 dX6_group_12 rfl (lv_at hl 2 rfl) ?_
    refine lv_i2l (v := a2.toInt64) S.1 S.2.1 dX6_group_13 rfl ?_
    refine lv_lconst (v := (0 : Int64)) S.1 S.2.1 dX6_group_14 (by decide) ?_
    refine lv_ldc2 (own := "SurvivorPurseModel") (v := (110 : Int64)) S.1 S.2.1 S.2.2.2.1 (S.2.2.2.2 _ w_kl_X6_39) dX6_group_15 ?_
    refine y_Si (As := [.long a2.toInt64, .long (0 : Int64), .long (110 : Int64)]) S hK hN hP hS rfl (K_X6_in l E ad hI _ a2.toInt64 (0 : Int64) (110 : Int64)  M _ rfl) (cS 3 S w_co_yX6_in w_in_X6 w_ml_X6_35 w_st_yX6_in hd_X6_in ⟨Nat.le_of_ble_eq_true rfl, Nat.le_of_ble_eq_true rfl⟩) hl.1 rfl rfl (Nat.le_of_ble_eq_true rfl) dX6_group_18 ⟨Nat.zero_le _, Nat.zero_le _⟩ (fun H locs hP hS => ?_)
    refine lv_if_eq (tgt := 56) S.1 S.2.1 dX6_group_21 (by decide) (fun h2 => ?_) (fun h2 => ?_)
    · replace hf := ift h2 hf
      refine lv_ldc2 (own := "SurvivorPurseModel") (v := (-1000000000000000 : Int64)) S.1 S.2.1 S.2.2.2.1 (S.2.2.2.2 _ w_kl_X6_41) dX6_group_56 ?_
      cases hf
      exact r_l S hr hlk hP hS dX6_group_59
    · replace hf := iff_ h2 hf
      refine lv_iload_n S.1 S.2.1 dX6_group_24 rfl (lv_at hl 1 rfl) ?_
      refine lv_iload_n S.1 S.2.1 dX6_group_25 rfl (lv_at hl 2 rfl) ?_
      refine lv_icmp_gt (tgt := 56) S.1 S.2.1 dX6_group_26 (by decide) (fun h3 => ?_) (fun h3 => ?_)
      · replace hf := ift h3 hf
        refine lv_ldc2 (own := "SurvivorPurseModel") (v := (-1000000000000000 : Int64)) S.1 S.2.1 S.2.2.2.1 (S.2.2.2.2 _ w_kl_X6_41) dX6_group_56 ?_
        cases hf
        exact r_l S hr hlk hP hS dX6_group_59
      · replace hf := iff_ h3 hf
        refine lv_iload_n S.1 S.2.1 dX6_group_29 rfl (lv_at hl 3 rfl) ?_
        refine lv_i2l (v := a3.toInt64) S.1 S.2.1 dX6_group_30 rfl ?_
        refine lv_lconst (v := (1 : Int64)) S.1 S.2.1 dX6_group_31 (by decide) ?_
        refine lv_ldc2 (own := "SurvivorPurseModel") (v := (10000 : Int64)) S.1 S.2.1 S.2.2.2.1 (S.2.2.2.2 _ w_kl_X6_69) dX6_group_32 ?_
        refine y_Si (As := [.long a3.toInt64, .long (1 : Int64), .long (10000 : Int64)]) S hK hN hP hS rfl (K_X6_in l E ad hI _ a3.toInt64 (1 : Int64) (10000 : Int64)  M _ rfl) (cS 3 S w_co_yX6_in w_in_X6 w_ml_X6_35 w_st_yX6_in hd_X6_in ⟨Nat.le_of_ble_eq_true rfl, Nat.le_of_ble_eq_true rfl⟩) hl.1 rfl rfl (Nat.le_of_ble_eq_true rfl) dX6_group_35 ⟨Nat.zero_le _, Nat.zero_le _⟩ (fun H locs hP hS => ?_)
        refine lv_if_eq (tgt := 56) S.1 S.2.1 dX6_group_38 (by decide) (fun h4 => ?_) (fun h4 => ?_)
        · replace hf := ift h4 hf
          refine lv_ldc2 (own := "SurvivorPurseModel") (v := (-1000000000000000 : Int64)) S.1 S.2.1 S.2.2.2.1 (S.2.2.2.2 _ w_kl_X6_41) dX6_group_56 ?_
          cases hf
          exact r_l S hr hlk hP hS dX6_group_59
        · replace hf := iff_ h4 hf
          refine lv_aload_n S.1 S.2.1 dX6_group_41 rfl (lv_at hl 0 rfl) ?_
          refine x_get (v := .ref (ad 1)) S hK hP w_lay_X6 (ci := 6) rfl 0 (by decide) m0 0 (by decide) w_fl_X6_7 rfl rfl dX6_group_42 ?_
          refine lv_sipush (v := (5669 : Int32)) S.1 S.2.1 dX6_group_45 (by decide) ?_
          refine x_laldc (j := 5669) S hK hP 1 (by decide) m1 (by decide) (by decide) dX6_group_48 ?_
          refine lv_ldc2 (own := "SurvivorPurseModel") (v := (6 : Int64)) S.1 S.2.1 S.2.2.2.1 (S.2.2.2.2 _ w_kl_X6_71) dX6_group_49 ?_
          refine ll_ne (tgt := 60) S dX6_group_52 dX6_group_53 (by decide) (fun h5 => ?_) (fun h5 => ?_)
          · replace hf := iff_ h5 hf
            refine lv_aload_n S.1 S.2.1 dX6_group_60 rfl (lv_at hl 0 rfl) ?_
            refine x_get (v := .ref (ad 1)) S hK hP w_lay_X6 (ci := 6) rfl 0 (by decide) m0 0 (by decide) w_fl_X6_7 rfl rfl dX6_group_61 ?_
            refine lv_sipush (v := (5669 : Int32)) S.1 S.2.1 dX6_group_64 (by decide) ?_
            refine x_laldc (j := 5669) S hK hP 1 (by decide) m1 (by decide) (by decide) dX6_group_67 ?_
            refine lv_l2i (v := (gL M 1 5669).toInt32) S.1 S.2.1 dX6_group_68 rfl ?_
            obtain ⟨x6, ex6, hf⟩ := bnd_some hf
            refine lv_rei ex6 ?_
            refine lv_istore (lv' := [(4, .int x6), (0, .ref (ad 0)), (1, .int a1), (2, .int a2), (3, .int a3)]) S.1 S.2.1 dX6_group_69 hl (by decide) rfl (fun ls hl => ?_)
            refine lv_aload_n S.1 S.2.1 dX6_group_71 rfl (lv_at hl 1 rfl) ?_
            refine x_get (v := .ref (ad 1)) S hK hP w_lay_X6 (ci := 6) rfl 0 (by decide) m0 0 (by decide) w_fl_X6_7 rfl rfl dX6_group_72 ?_
            refine lv_iload S.1 S.2.1 dX6_group_75 (lv_at hl 0 rfl) ?_
            refine lv_iconst (v := (0 : Int32)) S.1 S.2.1 dX6_group_77 (by decide) ?_
            refine y_Si (As := [.int x6, .int (0 : Int32)]) S hK hN hP hS rfl (K_X6_groupCell l E ad hI _ x6 (0 : Int32)  M _ rfl) (cS 2 S w_co_yX6_groupCell w_in_X6 w_ml_X6_55 w_st_yX6_groupCell hd_X6_groupCell ⟨Nat.le_of_ble_eq_true rfl, Nat.le_of_ble_eq_true rfl⟩) hl.1 rfl rfl (Nat.le_of_ble_eq_true rfl) dX6_group_78 ⟨Nat.zero_le _, Nat.zero_le _⟩ (fun H locs hP hS => ?_)
            refine lv_iload_n S.1 S.2.1 dX6_group_81 rfl (lv_at hl 2 rfl) ?_
            refine lv_i2l (v := a1.toInt64) S.1 S.2.1 dX6_group_82 rfl ?_
            obtain ⟨h7, hf⟩ := gd_some hf
            refine x_last S hI hK hP hS 1 (by decide) m1 h7 (entM E ad (sL M 1 (ix (F_X6_groupCell x6 (0 : Int32))) a1.toInt64)) n1 (fun _ h => entM_sL _ h) dX6_group_83 (fun H locs hP hS => ?_)
            obtain ⟨M8, eM8, hf⟩ := bnd_some hf
            rw [← eM8] at hP
            refine lv_aload_n S.1 S.2.1 dX6_group_84 rfl (lv_at hl 1 rfl) ?_
            refine x_get (v := .ref (ad 1)) S hK hP w_lay_X6 (ci := 6) rfl 0 (by decide) m0 0 (by decide) w_fl_X6_7 rfl rfl dX6_group_85 ?_
            refine lv_iload S.1 S.2.1 dX6_group_88 (lv_at hl 0 rfl) ?_
            refine lv_iconst (v := (1 : Int32)) S.1 S.2.1 dX6_group_90 (by decide) ?_
            refine y_Si (As := [.int x6, .int (1 : Int32)]) S hK hN hP hS rfl (K_X6_groupCell l E ad hI _ x6 (1 : Int32)  M8 _ rfl) (cS 2 S w_co_yX6_groupCell w_in_X6 w_ml_X6_55 w_st_yX6_groupCell hd_X6_groupCell ⟨Nat.le_of_ble_eq_true rfl, Nat.le_of_ble_eq_true rfl⟩) hl.1 rfl rfl (Nat.le_of_ble_eq_true rfl) dX6_group_91 ⟨Nat.zero_le _, Nat.zero_le _⟩ (fun H locs hP hS => ?_)
            refine lv_iload_n S.1 S.2.1 dX6_group_94 rfl (lv_at hl 3 rfl) ?_
            refine lv_i2l (v := a2.toInt64) S.1 S.2.1 dX6_group_95 rfl ?_
            obtain ⟨h9, hf⟩ := gd_some hf
            refine x_last S hI hK hP hS 1 (by decide) m1 h9 (entM E ad (sL M8 1 (ix (F_X6_groupCell x6 (1 : Int32))) a2.toInt64)) n1 (fun _ h => entM_sL _ h) dX6_group_96 (fun H locs hP hS => ?_)
            obtain ⟨M10, eM10, hf⟩ := bnd_some hf
            rw [← eM10] at hP
            refine lv_aload_n S.1 S.2.1 dX6_group_97 rfl (lv_at hl 1 rfl) ?_
            refine x_get (v := .ref (ad 1)) S hK hP w_lay_X6 (ci := 6) rfl 0 (by decide) m0 0 (by decide) w_fl_X6_7 rfl rfl dX6_group_98 ?_
            refine lv_iload S.1 S.2.1 dX6_group_101 (lv_at hl 0 rfl) ?_
            refine lv_iconst (v := (2 : Int32)) S.1 S.2.1 dX6_group_103 (by decide) ?_
            refine y_Si (As := [.int x6, .int (2 : Int32)]) S hK hN hP hS rfl (K_X6_groupCell l E ad hI _ x6 (2 : Int32)  M10 _ rfl) (cS 2 S w_co_yX6_groupCell w_in_X6 w_ml_X6_55 w_st_yX6_groupCell hd_X6_groupCell ⟨Nat.le_of_ble_eq_true rfl, Nat.le_of_ble_eq_true rfl⟩) hl.1 rfl rfl (Nat.le_of_ble_eq_true rfl) dX6_group_104 ⟨Nat.zero_le _, Nat.zero_le _⟩ (fun H locs hP hS => ?_)
            refine lv_iload_n S.1 S.2.1 dX6_group_107 rfl (lv_at hl 4 rfl) ?_
            refine lv_i2l (v := a3.toInt64) S.1 S.2.1 dX6_group_108 rfl ?_
            obtain ⟨h11, hf⟩ := gd_some hf
            refine x_last S hI hK hP hS 1 (by decide) m1 h11 (entM E ad (sL M10 1 (ix (F_X6_groupCell x6 (2 : Int32))) a3.toInt64)) n1 (fun _ h => entM_sL _ h) dX6_group_109 (fun H locs hP hS => ?_)
            obtain ⟨M12, eM12, hf⟩ := bnd_some hf
            rw [← eM12] at hP
            refine lv_aload_n S.1 S.2.1 dX6_group_110 rfl (lv_at hl 1 rfl) ?_
            refine x_get (v := .ref (ad 1)) S hK hP w_lay_X6 (ci := 6) rfl 0 (by decide) m0 0 (by decide) w_fl_X6_7 rfl rfl dX6_group_111 ?_
            refine lv_iload S.1 S.2.1 dX6_group_114 (lv_at hl 0 rfl) ?_
            refine lv_iconst (v := (3 : Int32)) S.1 S.2.1 dX6_group_116 (by decide) ?_
            refine y_Si (As := [.int x6, .int (3 : Int32)]) S hK hN hP hS rfl (K_X6_groupCell l E ad hI _ x6 (3 : Int32)  M12 _ rfl) (cS 2 S w_co_yX6_groupCell w_in_X6 w_ml_X6_55 w_st_yX6_groupCell hd_X6_groupCell ⟨Nat.le_of_ble_eq_true rfl, Nat.le_of_ble_eq_true rfl⟩) hl.1 rfl rfl (Nat.le_of_ble_eq_true rfl) dX6_group_117 ⟨Nat.zero_le _, Nat.zero_le _⟩ (fun H locs hP hS => ?_)
            refine lv_lconst (v := (0 : Int64)) S.1 S.2.1 dX6_group_120 (by decide) ?_
            obtain ⟨h13, hf⟩ := gd_some hf
            refine x_last S hI hK hP hS 1 (by decide) m1 h13 (entM E ad (sL M12 1 (ix (F_X6_groupCell x6 (3 : Int32))) (0 : Int64))) n1 (fun _ h => entM_sL _ h) dX6_group_121 (fun H locs hP hS => ?_)
            obtain ⟨M14, eM14, hf⟩ := bnd_some hf
            rw [← eM14] at hP
            refine lv_aload_n S.1 S.2.1 dX6_group_122 rfl (lv_at hl 1 rfl) ?_
            refine x_get (v := .ref (ad 1)) S hK hP w_lay_X6 (ci := 6) rfl 0 (by decide) m0 0 (by decide) w_fl_X6_7 rfl rfl dX6_group_123 ?_
            refine lv_sipush (v := (5669 : Int32)) S.1 S.2.1 dX6_group_126 (by decide) ?_
            refine lv_dup2_11 S.1 S.2.1 dX6_group_129 rfl rfl ?_
            refine x_laldc (j := 5669) S hK hP 1 (by decide) m1 (by decide) (by decide) dX6_group_130 ?_
            refine lv_lconst (v := (1 : Int64)) S.1 S.2.1 dX6_group_131 (by decide) ?_
            refine lv_ladd S.1 S.2.1 dX6_group_132 ?_
            refine x_lastc (j := 5669) S hI hK hP hS 1 (by decide) m1 (by decide) (by decide) (entM E ad (sL M14 1 5669 ((gL M14 1 5669) + (1 : Int64)))) n1 (fun _ h => entM_sL _ h) dX6_group_133 (fun H locs hP hS => ?_)
            obtain ⟨M15, eM15, hf⟩ := bnd_some hf
            rw [← eM15] at hP
            refine lv_iload S.1 S.2.1 dX6_group_134 (lv_at hl 0 rfl) ?_
            refine lv_i2l (v := x6.toInt64) S.1 S.2.1 dX6_group_136 rfl ?_
            cases hf
            exact r_l S hr hlk hP hS dX6_group_137
          · replace hf := ift h5 hf
            refine lv_ldc2 (own := "SurvivorPurseModel") (v := (-1000000000000000 : Int64)) S.1 S.2.1 S.2.2.2.1 (S.2.2.2.2 _ w_kl_X6_41) dX6_group_56 ?_
            cases hf
            exact r_l S hr hlk hP hS dX6_group_59

def F_X6_ends_193 (N : Nat) (a1 : Int32) : Nat → Int64 → Int64 → Int32 → MM → Option (Int64 × MM)
  | 0, _, _, _, _ => none
  | fu + 1, v2, v8, v10, M =>
    if (60 : Int32) ≤ v10 then
      gd (ib (F_X6_part a1 (0 : Int32)) 5672) (
      gd (ib (F_X6_cellOf ((gL M 1 (ix (F_X6_part a1 (0 : Int32)))).toInt32) (2 : Int32)) 5672) (
      bnd (sL M 1 (ix (F_X6_cellOf ((gL M 1 (ix (F_X6_part a1 (0 : Int32)))).toInt32) (2 : Int32))) ((gL M 1 (ix (F_X6_cellOf ((gL M 1 (ix (F_X6_part a1 (0 : Int32)))).toInt32) (2 : Int32)))) + v8)) (fun M25 =>
      some (v8, M25)
      )))
    else
      if v10.toInt64 ≤ v2 then
        F_X6_ends_193 N a1 fu v2 v8 (v10 + (1 : Int32)) M
      else
        bn1 (F_X6_isSure N a1 v10.toInt64 M) (fun x27 =>
        if bI x27 = (0 : Int32) then
          gd (ib (((863 : Int32) + ((60 : Int32) * a1)) + v10) 5672) (
          bnd (v8 + (gL M 1 (ix (((863 : Int32) + ((60 : Int32) * a1)) + v10)))) (fun x30 =>
          F_X6_ends_193 N a1 fu v2 x30 (v10 + (1 : Int32)) M
          ))
        else
          F_X6_ends_193 N a1 fu v2 v8 (v10 + (1 : Int32)) M
        )
def F_X6_ends_79 (N : Nat) (a1 : Int32) : Nat → Int64 → Int64 → Int32 → MM → Option (Int64 × MM)
  | 0, _, _, _, _ => none
  | fu + 1, v2, v6, v8, M =>
    if (60 : Int32) ≤ v8 then
      bn1 (F_X6_pays N a1 v6 M) (fun M11 =>
      F_X6_ends_193 N a1 N v2 (0 : Int64) (0 : Int32) M11
      )
    else
      bnd (((3263 : Int32) + ((60 : Int32) * a1)) + v8) (fun x12 =>
      if v8.toInt64 ≤ v2 then
        gd (ib x12 5672) (
        bnd (v6 + (gL M 1 (ix x12))) (fun x15 =>
        bnd (sL M 1 (ix x12) (0 : Int64)) (fun M16 =>
        F_X6_ends_79 N a1 fu v2 x15 (v8 + (1 : Int32)) M16
        )))
      else
        gd (ib x12 5672) (
        bnd (sL M 1 5664 ((gL M 1 5664) + (gL M 1 (ix x12)))) (fun M18 =>
        gd (ib (((863 : Int32) + ((60 : Int32) * a1)) + v8) 5672) (
        bnd (sL M18 1 (ix (((863 : Int32) + ((60 : Int32) * a1)) + v8)) ((gL M18 1 (ix (((863 : Int32) + ((60 : Int32) * a1)) + v8))) - (gL M18 1 (ix x12)))) (fun M20 =>
        bnd (sL M20 1 (ix x12) (0 : Int64)) (fun M21 =>
        F_X6_ends_79 N a1 fu v2 v6 (v8 + (1 : Int32)) M21
        )))))
      )
def F_X6_ends (N : Nat) (a1 : Int32) (M : MM) : Option (Int64 × MM) :=
  gd (ib (F_X6_part a1 (1 : Int32)) 5672) (
  gd (ib (F_X6_cellOf ((gL M 1 (ix (F_X6_part a1 (1 : Int32)))).toInt32) (6 : Int32)) 5672) (
  bnd (gL M 1 (ix (F_X6_cellOf ((gL M 1 (ix (F_X6_part a1 (1 : Int32)))).toInt32) (6 : Int32)))) (fun x3 =>
  gd (ib (F_X6_part a1 (2 : Int32)) 5672) (
  bnd (gL M 1 (ix (F_X6_part a1 (2 : Int32)))) (fun x5 =>
  if x5 < (0 : Int64) then
    F_X6_ends_79 N a1 N x3 (0 : Int64) (0 : Int32) M
  else
    gd (ib (F_X6_cellOf x5.toInt32 (6 : Int32)) 5672) (
    if gL M 1 (ix (F_X6_cellOf x5.toInt32 (6 : Int32))) ≤ x3 then
      F_X6_ends_79 N a1 N x3 (0 : Int64) (0 : Int32) M
    else
      bnd (gL M 1 (ix (F_X6_cellOf x5.toInt32 (6 : Int32)))) (fun x9 =>
      F_X6_ends_79 N a1 N x9 (0 : Int64) (0 : Int32) M
      )
    )
  )))))
def F_X6_backGoes (N : Nat) (a1 : Int32) (M : MM) : Option MM :=
  gd (ib (F_X6_part a1 (13 : Int32)) 5672) (
  bnd (sL M 1 (ix (F_X6_part a1 (13 : Int32))) (1 : Int64)) (fun M2 =>
  gd (ib (F_X6_part a1 (4 : Int32)) 5672) (
  bnd (F_X6_groupCell ((gL M2 1 (ix (F_X6_part a1 (4 : Int32)))).toInt32) (3 : Int32)) (fun x4 =>
  gd (ib (F_X6_part a1 (6 : Int32)) 5672) (
  gd (ib (F_X6_part a1 (7 : Int32)) 5672) (
  bnd ((gL M2 1 (ix (F_X6_part a1 (6 : Int32)))) - (gL M2 1 (ix (F_X6_part a1 (7 : Int32))))) (fun x7 =>
  if (0 : Int64) ≤ x7 then
    gd (ib x4 5672) (
    if x7 ≤ gL M2 1 (ix x4) then
      gd (ib (F_X6_part a1 (1 : Int32)) 5672) (
      gd (ib (F_X6_cellOf ((gL M2 1 (ix (F_X6_part a1 (1 : Int32)))).toInt32) (3 : Int32)) 5672) (
      bnd (gL M2 1 (ix (F_X6_cellOf ((gL M2 1 (ix (F_X6_part a1 (1 : Int32)))).toInt32) (3 : Int32)))) (fun x13 =>
      bnd (sL M2 1 (ix x4) ((gL M2 1 (ix x4)) - x7)) (fun M14 =>
      if (0 : Int64) ≤ x13 then
        gd (ib (F_X6_cellOf x13.toInt32 (1 : Int32)) 5672) (
        bnd (sL M14 1 (ix (F_X6_cellOf x13.toInt32 (1 : Int32))) ((gL M14 1 (ix (F_X6_cellOf x13.toInt32 (1 : Int32)))) + x7)) (fun M17 =>
        some M17
        ))
      else
        gd (ib (F_X6_part a1 (0 : Int32)) 5672) (
        gd (ib (F_X6_cellOf ((gL M14 1 (ix (F_X6_part a1 (0 : Int32)))).toInt32) (1 : Int32)) 5672) (
        bnd (sL M14 1 (ix (F_X6_cellOf ((gL M14 1 (ix (F_X6_part a1 (0 : Int32)))).toInt32) (1 : Int32))) ((gL M14 1 (ix (F_X6_cellOf ((gL M14 1 (ix (F_X6_part a1 (0 : Int32)))).toInt32) (1 : Int32)))) + x7)) (fun M20 =>
        some M20
        )))
      ))))
    else
      bnd (gL M2 1 (ix x4)) (fun x21 =>
      gd (ib (F_X6_part a1 (1 : Int32)) 5672) (
      gd (ib (F_X6_cellOf ((gL M2 1 (ix (F_X6_part a1 (1 : Int32)))).toInt32) (3 : Int32)) 5672) (
      bnd (gL M2 1 (ix (F_X6_cellOf ((gL M2 1 (ix (F_X6_part a1 (1 : Int32)))).toInt32) (3 : Int32)))) (fun x24 =>
      bnd (sL M2 1 (ix x4) ((gL M2 1 (ix x4)) - x21)) (fun M25 =>
      if (0 : Int64) ≤ x24 then
        gd (ib (F_X6_cellOf x24.toInt32 (1 : Int32)) 5672) (
        bnd (sL M25 1 (ix (F_X6_cellOf x24.toInt32 (1 : Int32))) ((gL M25 1 (ix (F_X6_cellOf x24.toInt32 (1 : Int32)))) + x21)) (fun M28 =>
        some M28
        ))
      else
        gd (ib (F_X6_part a1 (0 : Int32)) 5672) (
        gd (ib (F_X6_cellOf ((gL M25 1 (ix (F_X6_part a1 (0 : Int32)))).toInt32) (1 : Int32)) 5672) (
        bnd (sL M25 1 (ix (F_X6_cellOf ((gL M25 1 (ix (F_X6_part a1 (0 : Int32)))).toInt32) (1 : Int32))) ((gL M25 1 (ix (F_X6_cellOf ((gL M25 1 (ix (F_X6_part a1 (0 : Int32)))).toInt32) (1 : Int32)))) + x21)) (fun M31 =>
        some M31
        )))
      )))))
    )
  else
    gd (ib (F_X6_part a1 (1 : Int32)) 5672) (
    gd (ib (F_X6_cellOf ((gL M2 1 (ix (F_X6_part a1 (1 : Int32)))).toInt32) (3 : Int32)) 5672) (
    bnd (gL M2 1 (ix (F_X6_cellOf ((gL M2 1 (ix (F_X6_part a1 (1 : Int32)))).toInt32) (3 : Int32)))) (fun x34 =>
    gd (ib x4 5672) (
    bnd (sL M2 1 (ix x4) ((gL M2 1 (ix x4)) - (0 : Int64))) (fun M36 =>
    if (0 : Int64) ≤ x34 then
      gd (ib (F_X6_cellOf x34.toInt32 (1 : Int32)) 5672) (
      bnd (sL M36 1 (ix (F_X6_cellOf x34.toInt32 (1 : Int32))) ((gL M36 1 (ix (F_X6_cellOf x34.toInt32 (1 : Int32)))) + (0 : Int64))) (fun M39 =>
      some M39
      ))
    else
      gd (ib (F_X6_part a1 (0 : Int32)) 5672) (
      gd (ib (F_X6_cellOf ((gL M36 1 (ix (F_X6_part a1 (0 : Int32)))).toInt32) (1 : Int32)) 5672) (
      bnd (sL M36 1 (ix (F_X6_cellOf ((gL M36 1 (ix (F_X6_part a1 (0 : Int32)))).toInt32) (1 : Int32))) ((gL M36 1 (ix (F_X6_cellOf ((gL M36 1 (ix (F_X6_part a1 (0 : Int32)))).toInt32) (1 : Int32)))) + (0 : Int64))) (fun M42 =>
      some M42
      )))
    )))))
  )))))))
def F_X6_of (N : Nat) (a1 : Int32) (a2 : Int32) (M : MM) : Option Int64 :=
  if bI (F_X6_isMember a1 M) = (0 : Int32) then
    some (-1000000000000000 : Int64)
  else
    if bI (F_X6_in a2.toInt64 (0 : Int64) (5 : Int64)) = (0 : Int32) then
      some (-1000000000000000 : Int64)
    else
      if a2 = (0 : Int32) then
        gd (ib (F_X6_cellOf a1 (1 : Int32)) 5672) (
        some (gL M 1 (ix (F_X6_cellOf a1 (1 : Int32))))
        )
      else
        if a2 = (1 : Int32) then
          gd (ib (F_X6_cellOf a1 (2 : Int32)) 5672) (
          some (gL M 1 (ix (F_X6_cellOf a1 (2 : Int32))))
          )
        else
          if a2 = (2 : Int32) then
            gd (ib (F_X6_cellOf a1 (0 : Int32)) 5672) (
            some (gL M 1 (ix (F_X6_cellOf a1 (0 : Int32))))
            )
          else
            if a2 = (3 : Int32) then
              gd (ib (F_X6_cellOf a1 (4 : Int32)) 5672) (
              some (gL M 1 (ix (F_X6_cellOf a1 (4 : Int32))))
              )
            else
              if a2 = (4 : Int32) then
                bn1 (F_X6_isDead N a1.toInt64 M) (fun x12 =>
                if bI x12 = (0 : Int32) then
                  some (-1000000000000000 : Int64)
                else
                  gd (ib (F_X6_cellOf a1 (6 : Int32)) 5672) (
                  some (gL M 1 (ix (F_X6_cellOf a1 (6 : Int32))))
                  )
                )
              else
                gd (ib (F_X6_cellOf a1 (3 : Int32)) 5672) (
                some (gL M 1 (ix (F_X6_cellOf a1 (3 : Int32))))
                )
def F_X6_about_45 (N : Nat) (a1 : Int32) (a2 : Int32) : Nat → Int64 → Int32 → MM → Option Int64
  | 0, _, _, _ => none
  | fu + 1, v3, v5, M =>
    if gL M 1 5670 ≤ v5.toInt64 then
      some v3
    else
      gd (ib (F_X6_part v5 (4 : Int32)) 5672) (
      if gL M 1 (ix (F_X6_part v5 (4 : Int32))) = a1.toInt64 then
        if a2 = (5 : Int32) then
          bnd (v3 + (1 : Int64)) (fun x9 =>
          F_X6_about_45 N a1 a2 fu x9 (v5 + (1 : Int32)) M
          )
        else
          bn1 (F_X6_stands N v5 M) (fun x10 =>
          if (2 : Int32) ≤ x10 then
            bnd (v3 + (0 : Int64)) (fun x12 =>
            F_X6_about_45 N a1 a2 fu x12 (v5 + (1 : Int32)) M
            )
          else
            gd (ib (F_X6_part v5 (3 : Int32)) 5672) (
            bnd (v3 + (gL M 1 (ix (F_X6_part v5 (3 : Int32))))) (fun x14 =>
            F_X6_about_45 N a1 a2 fu x14 (v5 + (1 : Int32)) M
            ))
          )
      else
        F_X6_about_45 N a1 a2 fu v3 (v5 + (1 : Int32)) M
      )
def F_X6_about (N : Nat) (a1 : Int32) (a2 : Int32) (M : MM) : Option Int64 :=
  if bI (F_X6_isClass a1 M) = (0 : Int32) then
    some (-1000000000000000 : Int64)
  else
    if bI (F_X6_in a2.toInt64 (0 : Int64) (5 : Int64)) = (0 : Int32) then
      some (-1000000000000000 : Int64)
    else
      if (4 : Int32) ≤ a2 then
        F_X6_about_45 N a1 a2 N (0 : Int64) (0 : Int32) M
      else
        gd (ib (F_X6_groupCell a1 a2) 5672) (
        some (gL M 1 (ix (F_X6_groupCell a1 a2)))
        )
def F_X6_told_205 (N : Nat) (a1 : Int32) : Nat → Int64 → Int32 → MM → Option Int64
  | 0, _, _, _ => none
  | fu + 1, v2, v4, M =>
    if gL M 1 5668 ≤ v4.toInt64 then
      some v2
    else
      gd (ib (F_X6_cellOf v4 (2 : Int32)) 5672) (
      bnd (v2 + (gL M 1 (ix (F_X6_cellOf v4 (2 : Int32))))) (fun x23 =>
      F_X6_told_205 N a1 fu x23 (v4 + (1 : Int32)) M
      ))
def F_X6_told_165 (N : Nat) (a1 : Int32) : Nat → Int64 → Int32 → MM → Option Int64
  | 0, _, _, _ => none
  | fu + 1, v2, v4, M =>
    if gL M 1 5669 ≤ v4.toInt64 then
      some v2
    else
      gd (ib (F_X6_groupCell v4 (3 : Int32)) 5672) (
      bnd (v2 + (gL M 1 (ix (F_X6_groupCell v4 (3 : Int32))))) (fun x20 =>
      F_X6_told_165 N a1 fu x20 (v4 + (1 : Int32)) M
      ))
def F_X6_told_125 (N : Nat) (a1 : Int32) : Nat → Int64 → Int32 → MM → Option Int64
  | 0, _, _, _ => none
  | fu + 1, v2, v4, M =>
    if gL M 1 5668 ≤ v4.toInt64 then
      some v2
    else
      gd (ib (F_X6_cellOf v4 (1 : Int32)) 5672) (
      bnd (v2 + (gL M 1 (ix (F_X6_cellOf v4 (1 : Int32))))) (fun x17 =>
      F_X6_told_125 N a1 fu x17 (v4 + (1 : Int32)) M
      ))
def F_X6_told_90 (N : Nat) (a1 : Int32) : Nat → Int64 → Int32 → MM → Option Int64
  | 0, _, _, _ => none
  | fu + 1, v2, v4, M =>
    if gL M 1 5670 ≤ v4.toInt64 then
      some v2
    else
      bn1 (F_X6_heldBy N v4 M) (fun x13 =>
      bnd (v2 + x13) (fun x14 =>
      F_X6_told_90 N a1 fu x14 (v4 + (1 : Int32)) M
      ))
def F_X6_told (N : Nat) (a1 : Int32) (M : MM) : Option Int64 :=
  if a1 = (0 : Int32) then
    some (gL M 1 5663)
  else
    if a1 = (1 : Int32) then
      some (gL M 1 5664)
    else
      if a1 = (2 : Int32) then
        some (gL M 1 5665)
      else
        if a1 = (3 : Int32) then
          F_X6_told_90 N a1 N (0 : Int64) (0 : Int32) M
        else
          if a1 = (4 : Int32) then
            F_X6_told_125 N a1 N (0 : Int64) (0 : Int32) M
          else
            if a1 = (5 : Int32) then
              F_X6_told_165 N a1 N (0 : Int64) (0 : Int32) M
            else
              if a1 = (6 : Int32) then
                F_X6_told_205 N a1 N (0 : Int64) (0 : Int32) M
              else
                if a1 = (7 : Int32) then
                  some (gL M 1 5671)
                else
                  if a1 = (8 : Int32) then
                    some (gL M 1 5668)
                  else
                    if a1 = (9 : Int32) then
                      some (gL M 1 5669)
                    else
                      if a1 = (10 : Int32) then
                        some (gL M 1 5670)
                      else
                        some (-1000000000000000 : Int64)
theorem hd_X6_ends : yX6_ends.cls ≠ "java/lang/invoke/MethodHandle" ∧ yX6_ends.cls ≠ "java/lang/invoke/VarHandle" ∧ (parseMethodDescriptor yX6_ends.desc).map (fun d => d.parameters.length) = some 1 := by decide +kernel
set_option maxHeartbeats 4000000 in
set_option maxRecDepth 100000 in
theorem L_X6_ends_193 (l : Launch) (E : EE) (ad : Nat → Nat) (hI : ad_I ad 7) (N : Nat) (a1 : Int32)  {p : Program} {e : Env} {s : State} {m : MethodId} {below : List Frame} {meth : Method} {c : Code} (S : CallFix p m c cX6_ends 11 s [.ref (ad 0), .int a1].toArray bg_B "SurvivorPurseModel") (hr : meth.sig.returnType = (some .long)) (hlk : meth.locks = false) (hK : va_K E.1 vwCl (tysE E) s) (hN : NW s) (r : Int64) (M' : MM) : ∀ (fu : Nat) (v2 : Int64) (v8 : Int64) (v10 : Int32)  (M : MM), F_X6_ends_193 N a1 fu v2 v8 v10 M = some (r, M') → ∀ (H : Heap) (locs : List Loc) (ls : Array Slot), va_P E.1 vwCl (mw (entM E ad M) ad 7) H → va_S (AA ad 7 s.heap.size) s.heap H locs → lv_has ls 11 [(0, .ref (ad 0)), (1, .int a1), (2, .long v2), (8, .long v8), (10, .int v10)] → W p l e { frames := 2, cells := 0, slots := 0, locals := 53 } s m [.ref (ad 0), .int a1].toArray below meth c H locs 0 0 (MQ below (va_Ql (fun r0 (_ : Unit) => r0 = r) (fun _ t => QB E (entM E ad M') ad 7 t) (AA ad 7 s.heap.size)) [.ref (ad 0), .int a1].toArray s 0 0 (AA ad 7 s.heap.size)) (F0 m 193 ls []) := by
  intro fu
  induction fu with
  | zero =>
    intro v2 v8 v10 M hf
    rw [F_X6_ends_193] at hf
    cases hf
  | succ fu ih =>
    intro v2 v8 v10 M hf H locs ls hP hS hl
    rw [F_X6_ends_193] at hf
    refine lv_iload S.1 S.2.1 dX6_ends_193 (lv_at hl 4 rfl) ?_
    refine lv_bipush (v := (60 : Int32)) S.1 S.2.1 dX6_ends_195 (by decide) ?_
    refine lv_icmp_ge (tgt := 246) S.1 S.2.1 dX6_ends_197 (by decide) (fun h22 => ?_) (fun h22 => ?_)
    · replace hf := ift h22 hf
      refine lv_aload_n S.1 S.2.1 dX6_ends_246 rfl (lv_at hl 0 rfl) ?_
      refine x_get (v := .ref (ad 1)) S hK hP w_lay_X6 (ci := 6) rfl 0 (by decide) m0 0 (by decide) w_fl_X6_7 rfl rfl dX6_ends_247 ?_
      refine lv_aload_n S.1 S.2.1 dX6_ends_250 rfl (lv_at hl 0 rfl) ?_
      refine x_get (v := .ref (ad 1)) S hK hP w_lay_X6 (ci := 6) rfl 0 (by decide) m0 0 (by decide) w_fl_X6_7 rfl rfl dX6_ends_251 ?_
      refine lv_iload_n S.1 S.2.1 dX6_ends_254 rfl (lv_at hl 1 rfl) ?_
      refine lv_iconst (v := (0 : Int32)) S.1 S.2.1 dX6_ends_255 (by decide) ?_
      refine y_Si (As := [.int a1, .int (0 : Int32)]) S hK hN hP hS rfl (K_X6_part l E ad hI _ a1 (0 : Int32)  M _ rfl) (cS 2 S w_co_yX6_part w_in_X6 w_ml_X6_89 w_st_yX6_part hd_X6_part ⟨Nat.le_of_ble_eq_true rfl, Nat.le_of_ble_eq_true rfl⟩) hl.1 rfl rfl (Nat.le_of_ble_eq_true rfl) dX6_ends_256 ⟨Nat.zero_le _, Nat.zero_le _⟩ (fun H locs hP hS => ?_)
      obtain ⟨h23, hf⟩ := gd_some hf
      refine x_lald S hK hP 1 (by decide) m1 h23 dX6_ends_259 ?_
      refine lv_l2i (v := (gL M 1 (ix (F_X6_part a1 (0 : Int32)))).toInt32) S.1 S.2.1 dX6_ends_260 rfl ?_
      refine lv_iconst (v := (2 : Int32)) S.1 S.2.1 dX6_ends_261 (by decide) ?_
      refine y_Si (As := [.int ((gL M 1 (ix (F_X6_part a1 (0 : Int32)))).toInt32), .int (2 : Int32)]) S hK hN hP hS rfl (K_X6_cellOf l E ad hI _ ((gL M 1 (ix (F_X6_part a1 (0 : Int32)))).toInt32) (2 : Int32)  M _ rfl) (cS 2 S w_co_yX6_cellOf w_in_X6 w_ml_X6_63 w_st_yX6_cellOf hd_X6_cellOf ⟨Nat.le_of_ble_eq_true rfl, Nat.le_of_ble_eq_true rfl⟩) hl.1 rfl rfl (Nat.le_of_ble_eq_true rfl) dX6_ends_262 ⟨Nat.zero_le _, Nat.zero_le _⟩ (fun H locs hP hS => ?_)
      refine lv_dup2_11 S.1 S.2.1 dX6_ends_265 rfl rfl ?_
      obtain ⟨h24, hf⟩ := gd_some hf
      refine x_lald S hK hP 1 (by decide) m1 h24 dX6_ends_266 ?_
      refine lv_lload S.1 S.2.1 dX6_ends_267 (lv_at hl 3 rfl) ?_
      refine lv_ladd S.1 S.2.1 dX6_ends_269 ?_
      refine x_last S hI hK hP hS 1 (by decide) m1 h24 (entM E ad (sL M 1 (ix (F_X6_cellOf ((gL M 1 (ix (F_X6_part a1 (0 : Int32)))).toInt32) (2 : Int32))) ((gL M 1 (ix (F_X6_cellOf ((gL M 1 (ix (F_X6_part a1 (0 : Int32)))).toInt32) (2 : Int32)))) + v8))) n1 (fun _ h => entM_sL _ h) dX6_ends_270 (fun H locs hP hS => ?_)
      obtain ⟨M25, eM25, hf⟩ := bnd_some hf
      rw [← eM25] at hP
      refine lv_lload S.1 S.2.1 dX6_ends_271 (lv_at hl 3 rfl) ?_
      cases hf
      exact r_l S hr hlk hP hS dX6_ends_273
    · replace hf := iff_ h22 hf
      refine lv_iload S.1 S.2.1 dX6_ends_200 (lv_at hl 4 rfl) ?_
      refine lv_i2l (v := v10.toInt64) S.1 S.2.1 dX6_ends_202 rfl ?_
      refine lv_lload_n S.1 S.2.1 dX6_ends_203 rfl (lv_at hl 2 rfl) ?_
      refine ll_le (tgt := 240) S dX6_ends_204 dX6_ends_205 (by decide) (fun h26 => ?_) (fun h26 => ?_)
      · replace hf := ift h26 hf
        refine lv_iinc (v := v10 + (1 : Int32)) (lv' := [(10, .int (v10 + (1 : Int32))), (0, .ref (ad 0)), (1, .int a1), (2, .long v2), (8, .long v8)]) S.1 S.2.1 dX6_ends_240 hl (k := 4) rfl rfl (by decide) rfl (fun ls hl => ?_)
        refine lv_goto (tgt := 193) S.1 S.2.1 dX6_ends_243 (by decide) ?_
        exact ih v2 v8 (v10 + (1 : Int32))  M hf _ _ _ hP hS (lv_sub hl [1, 2, 3, 4, 0] rfl)
      · replace hf := iff_ h26 hf
        refine lv_aload_n S.1 S.2.1 dX6_ends_208 rfl (lv_at hl 0 rfl) ?_
        refine lv_iload_n S.1 S.2.1 dX6_ends_209 rfl (lv_at hl 1 rfl) ?_
        refine lv_iload S.1 S.2.1 dX6_ends_210 (lv_at hl 4 rfl) ?_
        refine lv_i2l (v := v10.toInt64) S.1 S.2.1 dX6_ends_212 rfl ?_
        obtain ⟨x27, gx27, hf⟩ := bn1_some hf
        refine y_Vi (As := [.int a1, .long v10.toInt64]) S hK hN hP hS rfl (by decide) m0 rfl (K_X6_isSure l E ad hI _ N a1 v10.toInt64  M x27 gx27) (cV 2 S w_co_yX6_isSure w_in_X6 w_ml_X6_105 w_im_yX6_isSure w_se_yX6_isSure hd_X6_isSure ⟨Nat.le_of_ble_eq_true rfl, Nat.le_of_ble_eq_true rfl⟩) hl.1 rfl rfl (Nat.le_of_ble_eq_true rfl) dX6_ends_213 ⟨Nat.zero_le _, Nat.zero_le _⟩ (fun H locs hP hS => ?_)
        refine lv_if_ne (tgt := 240) S.1 S.2.1 dX6_ends_216 (by decide) (fun h28 => ?_) (fun h28 => ?_)
        · replace hf := iff_ h28 hf
          refine lv_iinc (v := v10 + (1 : Int32)) (lv' := [(10, .int (v10 + (1 : Int32))), (0, .ref (ad 0)), (1, .int a1), (2, .long v2), (8, .long v8)]) S.1 S.2.1 dX6_ends_240 hl (k := 4) rfl rfl (by decide) rfl (fun ls hl => ?_)
          refine lv_goto (tgt := 193) S.1 S.2.1 dX6_ends_243 (by decide) ?_
          exact ih v2 v8 (v10 + (1 : Int32))  M hf _ _ _ hP hS (lv_sub hl [1, 2, 3, 4, 0] rfl)
        · replace hf := ift h28 hf
          refine lv_lload S.1 S.2.1 dX6_ends_219 (lv_at hl 3 rfl) ?_
          refine lv_aload_n S.1 S.2.1 dX6_ends_221 rfl (lv_at hl 0 rfl) ?_
          refine x_get (v := .ref (ad 1)) S hK hP w_lay_X6 (ci := 6) rfl 0 (by decide) m0 0 (by decide) w_fl_X6_7 rfl rfl dX6_ends_222 ?_
          refine lv_sipush (v := (863 : Int32)) S.1 S.2.1 dX6_ends_225 (by decide) ?_
          refine lv_bipush (v := (60 : Int32)) S.1 S.2.1 dX6_ends_228 (by decide) ?_
          refine lv_iload_n S.1 S.2.1 dX6_ends_230 rfl (lv_at hl 1 rfl) ?_
          refine lv_imul S.1 S.2.1 dX6_ends_231 ?_
          refine lv_iadd S.1 S.2.1 dX6_ends_232 ?_
          refine lv_iload S.1 S.2.1 dX6_ends_233 (lv_at hl 4 rfl) ?_
          refine lv_iadd S.1 S.2.1 dX6_ends_235 ?_
          obtain ⟨h29, hf⟩ := gd_some hf
          refine x_lald S hK hP 1 (by decide) m1 h29 dX6_ends_236 ?_
          refine lv_ladd S.1 S.2.1 dX6_ends_237 ?_
          obtain ⟨x30, ex30, hf⟩ := bnd_some hf
          refine lv_rel ex30 ?_
          refine lv_lstore (lv' := [(8, .long x30), (0, .ref (ad 0)), (1, .int a1), (2, .long v2), (10, .int v10)]) S.1 S.2.1 dX6_ends_238 hl (by decide) rfl (fun ls hl => ?_)
          refine lv_iinc (v := v10 + (1 : Int32)) (lv' := [(10, .int (v10 + (1 : Int32))), (8, .long x30), (0, .ref (ad 0)), (1, .int a1), (2, .long v2)]) S.1 S.2.1 dX6_ends_240 hl (k := 4) rfl rfl (by decide) rfl (fun ls hl => ?_)
          refine lv_goto (tgt := 193) S.1 S.2.1 dX6_ends_243 (by decide) ?_
          exact ih v2 x30 (v10 + (1 : Int32))  M hf _ _ _ hP hS (lv_sub hl [2, 3, 4, 1, 0] rfl)
set_option maxHeartbeats 4000000 in
set_option maxRecDepth 100000 in
theorem L_X6_ends_79 (l : Launch) (E : EE) (ad : Nat → Nat) (hI : ad_I ad 7) (N : Nat) (a1 : Int32)  {p : Program} {e : Env} {s : State} {m : MethodId} {below : List Frame} {meth : Method} {c : Code} (S : CallFix p m c cX6_ends 11 s [.ref (ad 0), .int a1].toArray bg_B "SurvivorPurseModel") (hr : meth.sig.returnType = (some .long)) (hlk : meth.locks = false) (hK : va_K E.1 vwCl (tysE E) s) (hN : NW s) (r : Int64) (M' : MM) : ∀ (fu : Nat) (v2 : Int64) (v6 : Int64) (v8 : Int32)  (M : MM), F_X6_ends_79 N a1 fu v2 v6 v8 M = some (r, M') → ∀ (H : Heap) (locs : List Loc) (ls : Array Slot), va_P E.1 vwCl (mw (entM E ad M) ad 7) H → va_S (AA ad 7 s.heap.size) s.heap H locs → lv_has ls 11 [(0, .ref (ad 0)), (1, .int a1), (2, .long v2), (6, .long v6), (8, .int v8)] → W p l e { frames := 2, cells := 0, slots := 0, locals := 53 } s m [.ref (ad 0), .int a1].toArray below meth c H locs 0 0 (MQ below (va_Ql (fun r0 (_ : Unit) => r0 = r) (fun _ t => QB E (entM E ad M') ad 7 t) (AA ad 7 s.heap.size)) [.ref (ad 0), .int a1].toArray s 0 0 (AA ad 7 s.heap.size)) (F0 m 79 ls []) := by
  intro fu
  induction fu with
  | zero =>
    intro v2 v6 v8 M hf
    rw [F_X6_ends_79] at hf
    cases hf
  | succ fu ih =>
    intro v2 v6 v8 M hf H locs ls hP hS hl
    rw [F_X6_ends_79] at hf
    refine lv_iload S.1 S.2.1 dX6_ends_79 (lv_at hl 4 rfl) ?_
    refine lv_bipush (v := (60 : Int32)) S.1 S.2.1 dX6_ends_81 (by decide) ?_
    refine lv_icmp_ge (tgt := 180) S.1 S.2.1 dX6_ends_83 (by decide) (fun h10 => ?_) (fun h10 => ?_)
    · replace hf := ift h10 hf
      refine lv_aload_n S.1 S.2.1 dX6_ends_180 rfl (lv_at hl 0 rfl) ?_
      refine lv_iload_n S.1 S.2.1 dX6_ends_181 rfl (lv_at hl 1 rfl) ?_
      refine lv_lload S.1 S.2.1 dX6_ends_182 (lv_at hl 3 rfl) ?_
      obtain ⟨M11, gM11, hf⟩ := bn1_some hf
      refine y_Vv (As := [.int a1, .long v6]) S hK hN hP hS rfl (by decide) m0 rfl (K_X6_pays l E ad hI _ N a1 v6  M M11 gM11) (cV 2 S w_co_yX6_pays w_in_X6 w_ml_X6_121 w_im_yX6_pays w_se_yX6_pays hd_X6_pays ⟨Nat.le_of_ble_eq_true rfl, Nat.le_of_ble_eq_true rfl⟩) hl.1 rfl rfl (Nat.le_of_ble_eq_true rfl) dX6_ends_184 ⟨Nat.zero_le _, Nat.zero_le _⟩ (fun H locs hP hS => ?_)
      refine lv_lconst (v := (0 : Int64)) S.1 S.2.1 dX6_ends_187 (by decide) ?_
      refine lv_lstore (lv' := [(8, .long (0 : Int64)), (0, .ref (ad 0)), (1, .int a1), (2, .long v2), (6, .long v6)]) S.1 S.2.1 dX6_ends_188 hl (by decide) rfl (fun ls hl => ?_)
      refine lv_iconst (v := (0 : Int32)) S.1 S.2.1 dX6_ends_190 (by decide) ?_
      refine lv_istore (lv' := [(10, .int (0 : Int32)), (8, .long (0 : Int64)), (0, .ref (ad 0)), (1, .int a1), (2, .long v2), (6, .long v6)]) S.1 S.2.1 dX6_ends_191 hl (by decide) rfl (fun ls hl => ?_)
      exact L_X6_ends_193 l E ad hI N a1  S hr hlk hK hN _ _ N v2 (0 : Int64) (0 : Int32)  M11 hf _ _ _ hP hS (lv_sub hl [2, 3, 4, 1, 0] rfl)
    · replace hf := iff_ h10 hf
      refine lv_sipush (v := (3263 : Int32)) S.1 S.2.1 dX6_ends_86 (by decide) ?_
      refine lv_bipush (v := (60 : Int32)) S.1 S.2.1 dX6_ends_89 (by decide) ?_
      refine lv_iload_n S.1 S.2.1 dX6_ends_91 rfl (lv_at hl 1 rfl) ?_
      refine lv_imul S.1 S.2.1 dX6_ends_92 ?_
      refine lv_iadd S.1 S.2.1 dX6_ends_93 ?_
      refine lv_iload S.1 S.2.1 dX6_ends_94 (lv_at hl 4 rfl) ?_
      refine lv_iadd S.1 S.2.1 dX6_ends_96 ?_
      obtain ⟨x12, ex12, hf⟩ := bnd_some hf
      refine lv_rei ex12 ?_
      refine lv_istore (lv' := [(9, .int x12), (0, .ref (ad 0)), (1, .int a1), (2, .long v2), (6, .long v6), (8, .int v8)]) S.1 S.2.1 dX6_ends_97 hl (by decide) rfl (fun ls hl => ?_)
      refine lv_iload S.1 S.2.1 dX6_ends_99 (lv_at hl 5 rfl) ?_
      refine lv_i2l (v := v8.toInt64) S.1 S.2.1 dX6_ends_101 rfl ?_
      refine lv_lload_n S.1 S.2.1 dX6_ends_102 rfl (lv_at hl 3 rfl) ?_
      refine ll_le (tgt := 154) S dX6_ends_103 dX6_ends_104 (by decide) (fun h13 => ?_) (fun h13 => ?_)
      · replace hf := ift h13 hf
        refine lv_lload S.1 S.2.1 dX6_ends_154 (lv_at hl 4 rfl) ?_
        refine lv_aload_n S.1 S.2.1 dX6_ends_156 rfl (lv_at hl 1 rfl) ?_
        refine x_get (v := .ref (ad 1)) S hK hP w_lay_X6 (ci := 6) rfl 0 (by decide) m0 0 (by decide) w_fl_X6_7 rfl rfl dX6_ends_157 ?_
        refine lv_iload S.1 S.2.1 dX6_ends_160 (lv_at hl 0 rfl) ?_
        obtain ⟨h14, hf⟩ := gd_some hf
        refine x_lald S hK hP 1 (by decide) m1 h14 dX6_ends_162 ?_
        refine lv_ladd S.1 S.2.1 dX6_ends_163 ?_
        obtain ⟨x15, ex15, hf⟩ := bnd_some hf
        refine lv_rel ex15 ?_
        refine lv_lstore (lv' := [(6, .long x15), (9, .int x12), (0, .ref (ad 0)), (1, .int a1), (2, .long v2), (8, .int v8)]) S.1 S.2.1 dX6_ends_164 hl (by decide) rfl (fun ls hl => ?_)
        refine lv_aload_n S.1 S.2.1 dX6_ends_166 rfl (lv_at hl 2 rfl) ?_
        refine x_get (v := .ref (ad 1)) S hK hP w_lay_X6 (ci := 6) rfl 0 (by decide) m0 0 (by decide) w_fl_X6_7 rfl rfl dX6_ends_167 ?_
        refine lv_iload S.1 S.2.1 dX6_ends_170 (lv_at hl 1 rfl) ?_
        refine lv_lconst (v := (0 : Int64)) S.1 S.2.1 dX6_ends_172 (by decide) ?_
        refine x_last S hI hK hP hS 1 (by decide) m1 h14 (entM E ad (sL M 1 (ix x12) (0 : Int64))) n1 (fun _ h => entM_sL _ h) dX6_ends_173 (fun H locs hP hS => ?_)
        obtain ⟨M16, eM16, hf⟩ := bnd_some hf
        rw [← eM16] at hP
        refine lv_iinc (v := v8 + (1 : Int32)) (lv' := [(8, .int (v8 + (1 : Int32))), (6, .long x15), (9, .int x12), (0, .ref (ad 0)), (1, .int a1), (2, .long v2)]) S.1 S.2.1 dX6_ends_174 hl (k := 5) rfl rfl (by decide) rfl (fun ls hl => ?_)
        refine lv_goto (tgt := 79) S.1 S.2.1 dX6_ends_177 (by decide) ?_
        exact ih v2 x15 (v8 + (1 : Int32))  M16 hf _ _ _ hP hS (lv_sub hl [3, 4, 5, 1, 0] rfl)
      · replace hf := iff_ h13 hf
        refine lv_aload_n S.1 S.2.1 dX6_ends_107 rfl (lv_at hl 1 rfl) ?_
        refine x_get (v := .ref (ad 1)) S hK hP w_lay_X6 (ci := 6) rfl 0 (by decide) m0 0 (by decide) w_fl_X6_7 rfl rfl dX6_ends_108 ?_
        refine lv_sipush (v := (5664 : Int32)) S.1 S.2.1 dX6_ends_111 (by decide) ?_
        refine lv_dup2_11 S.1 S.2.1 dX6_ends_114 rfl rfl ?_
        refine x_laldc (j := 5664) S hK hP 1 (by decide) m1 (by decide) (by decide) dX6_ends_115 ?_
        refine lv_aload_n S.1 S.2.1 dX6_ends_116 rfl (lv_at hl 1 rfl) ?_
        refine x_get (v := .ref (ad 1)) S hK hP w_lay_X6 (ci := 6) rfl 0 (by decide) m0 0 (by decide) w_fl_X6_7 rfl rfl dX6_ends_117 ?_
        refine lv_iload S.1 S.2.1 dX6_ends_120 (lv_at hl 0 rfl) ?_
        obtain ⟨h17, hf⟩ := gd_some hf
        refine x_lald S hK hP 1 (by decide) m1 h17 dX6_ends_122 ?_
        refine lv_ladd S.1 S.2.1 dX6_ends_123 ?_
        refine x_lastc (j := 5664) S hI hK hP hS 1 (by decide) m1 (by decide) (by decide) (entM E ad (sL M 1 5664 ((gL M 1 5664) + (gL M 1 (ix x12))))) n1 (fun _ h => entM_sL _ h) dX6_ends_124 (fun H locs hP hS => ?_)
        obtain ⟨M18, eM18, hf⟩ := bnd_some hf
        rw [← eM18] at hP
        refine lv_aload_n S.1 S.2.1 dX6_ends_125 rfl (lv_at hl 1 rfl) ?_
        refine x_get (v := .ref (ad 1)) S hK hP w_lay_X6 (ci := 6) rfl 0 (by decide) m0 0 (by decide) w_fl_X6_7 rfl rfl dX6_ends_126 ?_
        refine lv_sipush (v := (863 : Int32)) S.1 S.2.1 dX6_ends_129 (by decide) ?_
        refine lv_bipush (v := (60 : Int32)) S.1 S.2.1 dX6_ends_132 (by decide) ?_
        refine lv_iload_n S.1 S.2.1 dX6_ends_134 rfl (lv_at hl 2 rfl) ?_
        refine lv_imul S.1 S.2.1 dX6_ends_135 ?_
        refine lv_iadd S.1 S.2.1 dX6_ends_136 ?_
        refine lv_iload S.1 S.2.1 dX6_ends_137 (lv_at hl 5 rfl) ?_
        refine lv_iadd S.1 S.2.1 dX6_ends_139 ?_
        refine lv_dup2_11 S.1 S.2.1 dX6_ends_140 rfl rfl ?_
        obtain ⟨h19, hf⟩ := gd_some hf
        refine x_lald S hK hP 1 (by decide) m1 h19 dX6_ends_141 ?_
        refine lv_aload_n S.1 S.2.1 dX6_ends_142 rfl (lv_at hl 1 rfl) ?_
        refine x_get (v := .ref (ad 1)) S hK hP w_lay_X6 (ci := 6) rfl 0 (by decide) m0 0 (by decide) w_fl_X6_7 rfl rfl dX6_ends_143 ?_
        refine lv_iload S.1 S.2.1 dX6_ends_146 (lv_at hl 0 rfl) ?_
        refine x_lald S hK hP 1 (by decide) m1 h17 dX6_ends_148 ?_
        refine lv_lsub S.1 S.2.1 dX6_ends_149 ?_
        refine x_last S hI hK hP hS 1 (by decide) m1 h19 (entM E ad (sL M18 1 (ix (((863 : Int32) + ((60 : Int32) * a1)) + v8)) ((gL M18 1 (ix (((863 : Int32) + ((60 : Int32) * a1)) + v8))) - (gL M18 1 (ix x12))))) n1 (fun _ h => entM_sL _ h) dX6_ends_150 (fun H locs hP hS => ?_)
        obtain ⟨M20, eM20, hf⟩ := bnd_some hf
        rw [← eM20] at hP
        refine lv_goto (tgt := 166) S.1 S.2.1 dX6_ends_151 (by decide) ?_
        refine lv_aload_n S.1 S.2.1 dX6_ends_166 rfl (lv_at hl 1 rfl) ?_
        refine x_get (v := .ref (ad 1)) S hK hP w_lay_X6 (ci := 6) rfl 0 (by decide) m0 0 (by decide) w_fl_X6_7 rfl rfl dX6_ends_167 ?_
        refine lv_iload S.1 S.2.1 dX6_ends_170 (lv_at hl 0 rfl) ?_
        refine lv_lconst (v := (0 : Int64)) S.1 S.2.1 dX6_ends_172 (by decide) ?_
        refine x_last S hI hK hP hS 1 (by decide) m1 h17 (entM E ad (sL M20 1 (ix x12) (0 : Int64))) n1 (fun _ h => entM_sL _ h) dX6_ends_173 (fun H locs hP hS => ?_)
        obtain ⟨M21, eM21, hf⟩ := bnd_some hf
        rw [← eM21] at hP
        refine lv_iinc (v := v8 + (1 : Int32)) (lv' := [(8, .int (v8 + (1 : Int32))), (9, .int x12), (0, .ref (ad 0)), (1, .int a1), (2, .long v2), (6, .long v6)]) S.1 S.2.1 dX6_ends_174 hl (k := 5) rfl rfl (by decide) rfl (fun ls hl => ?_)
        refine lv_goto (tgt := 79) S.1 S.2.1 dX6_ends_177 (by decide) ?_
        exact ih v2 v6 (v8 + (1 : Int32))  M21 hf _ _ _ hP hS (lv_sub hl [2, 3, 4, 5, 0] rfl)
set_option maxHeartbeats 4000000 in
set_option maxRecDepth 100000 in
theorem K_X6_ends (l : Launch) (E : EE) (ad : Nat → Nat) (hI : ad_I ad 7) (sz : Nat) (N : Nat) (a1 : Int32)  (M : MM) (r : Int64) (M' : MM) (hf : F_X6_ends N a1 M = some (r, M')) : CtL l yX6_ends cX6_ends 11 2 53 E (entM E ad M) (entM E ad M') ad 7 sz [.ref (ad 0), .int a1] (r) := by
  unfold CtL
  refine body_of (by decide) "SurvivorPurseModel" rfl (Nat.le_of_ble_eq_true rfl) ?_
  intro p e s m below meth c hsz S hr hlk hP hK hN ls hl
  subst hsz
  have hS : va_S (AA ad 7 s.heap.size) s.heap s.heap [] := va_S.rf
  have hl : lv_has ls 11 [(0, .ref (ad 0)), (1, .int a1)] := hl
  rw [F_X6_ends] at hf
  refine lv_aload_n S.1 S.2.1 dX6_ends_0 rfl (lv_at hl 0 rfl) ?_
  refine x_get (v := .ref (ad 1)) S hK hP w_lay_X6 (ci := 6) rfl 0 (by decide) m0 0 (by decide) w_fl_X6_7 rfl rfl dX6_ends_1 ?_
  refine lv_aload_n S.1 S.2.1 dX6_ends_4 rfl (lv_at hl 0 rfl) ?_
  refine x_get (v := .ref (ad 1)) S hK hP w_lay_X6 (ci := 6) rfl 0 (by decide) m0 0 (by decide) w_fl_X6_7 rfl rfl dX6_ends_5 ?_
  refine lv_iload_n S.1 S.2.1 dX6_ends_8 rfl (lv_at hl 1 rfl) ?_
  refine lv_iconst (v := (1 : Int32)) S.1 S.2.1 dX6_ends_9 (by decide) ?_
  refine y_Si (As := [.int a1, .int (1 : Int32)]) S hK hN hP hS rfl (K_X6_part l E ad hI _ a1 (1 : Int32)  M _ rfl) (cS 2 S w_co_yX6_part w_in_X6 w_ml_X6_89 w_st_yX6_part hd_X6_part ⟨Nat.le_of_ble_eq_true rfl, Nat.le_of_ble_eq_true rfl⟩) hl.1 rfl rfl (Nat.le_of_ble_eq_true rfl) dX6_ends_10 ⟨Nat.zero_le _, Nat.zero_le _⟩ (fun H locs hP hS => ?_)
  obtain ⟨h1, hf⟩ := gd_some hf
  refine x_lald S hK hP 1 (by decide) m1 h1 dX6_ends_13 ?_
  refine lv_l2i (v := (gL M 1 (ix (F_X6_part a1 (1 : Int32)))).toInt32) S.1 S.2.1 dX6_ends_14 rfl ?_
  refine lv_bipush (v := (6 : Int32)) S.1 S.2.1 dX6_ends_15 (by decide) ?_
  refine y_Si (As := [.int ((gL M 1 (ix (F_X6_part a1 (1 : Int32)))).toInt32), .int (6 : Int32)]) S hK hN hP hS rfl (K_X6_cellOf l E ad hI _ ((gL M 1 (ix (F_X6_part a1 (1 : Int32)))).toInt32) (6 : Int32)  M _ rfl) (cS 2 S w_co_yX6_cellOf w_in_X6 w_ml_X6_63 w_st_yX6_cellOf hd_X6_cellOf ⟨Nat.le_of_ble_eq_true rfl, Nat.le_of_ble_eq_true rfl⟩) hl.1 rfl rfl (Nat.le_of_ble_eq_true rfl) dX6_ends_17 ⟨Nat.zero_le _, Nat.zero_le _⟩ (fun H locs hP hS => ?_)
  obtain ⟨h2, hf⟩ := gd_some hf
  refine x_lald S hK hP 1 (by decide) m1 h2 dX6_ends_20 ?_
  obtain ⟨x3, ex3, hf⟩ := bnd_some hf
  refine lv_rel ex3 ?_
  refine lv_lstore_n (lv' := [(2, .long x3), (0, .ref (ad 0)), (1, .int a1)]) S.1 S.2.1 dX6_ends_21 rfl hl (by decide) rfl (fun ls hl => ?_)
  refine lv_aload_n S.1 S.2.1 dX6_ends_22 rfl (lv_at hl 1 rfl) ?_
  refine x_get (v := .ref (ad 1)) S hK hP w_lay_X6 (ci := 6) rfl 0 (by decide) m0 0 (by decide) w_fl_X6_7 rfl rfl dX6_ends_23 ?_
  refine lv_iload_n S.1 S.2.1 dX6_ends_26 rfl (lv_at hl 2 rfl) ?_
  refine lv_iconst (v := (2 : Int32)) S.1 S.2.1 dX6_ends_27 (by decide) ?_
  refine y_Si (As := [.int a1, .int (2 : Int32)]) S hK hN hP hS rfl (K_X6_part l E ad hI _ a1 (2 : Int32)  M _ rfl) (cS 2 S w_co_yX6_part w_in_X6 w_ml_X6_89 w_st_yX6_part hd_X6_part ⟨Nat.le_of_ble_eq_true rfl, Nat.le_of_ble_eq_true rfl⟩) hl.1 rfl rfl (Nat.le_of_ble_eq_true rfl) dX6_ends_28 ⟨Nat.zero_le _, Nat.zero_le _⟩ (fun H locs hP hS => ?_)
  obtain ⟨h4, hf⟩ := gd_some hf
  refine x_lald S hK hP 1 (by decide) m1 h4 dX6_ends_31 ?_
  obtain ⟨x5, ex5, hf⟩ := bnd_some hf
  refine lv_rel ex5 ?_
  refine lv_lstore (lv' := [(4, .long x5), (2, .long x3), (0, .ref (ad 0)), (1, .int a1)]) S.1 S.2.1 dX6_ends_32 hl (by decide) rfl (fun ls hl => ?_)
  refine lv_lload S.1 S.2.1 dX6_ends_34 (lv_at hl 0 rfl) ?_
  refine lv_lconst (v := (0 : Int64)) S.1 S.2.1 dX6_ends_36 (by decide) ?_
  refine ll_lt (tgt := 73) S dX6_ends_37 dX6_ends_38 (by decide) (fun h6 => ?_) (fun h6 => ?_)
  · replace hf := ift h6 hf
    refine lv_lconst (v := (0 : Int64)) S.1 S.2.1 dX6_ends_73 (by decide) ?_
    refine lv_lstore (lv' := [(6, .long (0 : Int64)), (4, .long x5), (2, .long x3), (0, .ref (ad 0)), (1, .int a1)]) S.1 S.2.1 dX6_ends_74 hl (by decide) rfl (fun ls hl => ?_)
    refine lv_iconst (v := (0 : Int32)) S.1 S.2.1 dX6_ends_76 (by decide) ?_
    refine lv_istore (lv' := [(8, .int (0 : Int32)), (6, .long (0 : Int64)), (4, .long x5), (2, .long x3), (0, .ref (ad 0)), (1, .int a1)]) S.1 S.2.1 dX6_ends_77 hl (by decide) rfl (fun ls hl => ?_)
    exact L_X6_ends_79 l E ad hI N a1  S hr hlk hK hN _ _ N x3 (0 : Int64) (0 : Int32)  M hf _ _ _ hP hS (lv_sub hl [4, 5, 3, 1, 0] rfl)
  · replace hf := iff_ h6 hf
    refine lv_aload_n S.1 S.2.1 dX6_ends_41 rfl (lv_at hl 2 rfl) ?_
    refine x_get (v := .ref (ad 1)) S hK hP w_lay_X6 (ci := 6) rfl 0 (by decide) m0 0 (by decide) w_fl_X6_7 rfl rfl dX6_ends_42 ?_
    refine lv_lload S.1 S.2.1 dX6_ends_45 (lv_at hl 0 rfl) ?_
    refine lv_l2i (v := x5.toInt32) S.1 S.2.1 dX6_ends_47 rfl ?_
    refine lv_bipush (v := (6 : Int32)) S.1 S.2.1 dX6_ends_48 (by decide) ?_
    refine y_Si (As := [.int x5.toInt32, .int (6 : Int32)]) S hK hN hP hS rfl (K_X6_cellOf l E ad hI _ x5.toInt32 (6 : Int32)  M _ rfl) (cS 2 S w_co_yX6_cellOf w_in_X6 w_ml_X6_63 w_st_yX6_cellOf hd_X6_cellOf ⟨Nat.le_of_ble_eq_true rfl, Nat.le_of_ble_eq_true rfl⟩) hl.1 rfl rfl (Nat.le_of_ble_eq_true rfl) dX6_ends_50 ⟨Nat.zero_le _, Nat.zero_le _⟩ (fun H locs hP hS => ?_)
    obtain ⟨h7, hf⟩ := gd_some hf
    refine x_lald S hK hP 1 (by decide) m1 h7 dX6_ends_53 ?_
    refine lv_lload_n S.1 S.2.1 dX6_ends_54 rfl (lv_at hl 1 rfl) ?_
    refine ll_le (tgt := 73) S dX6_ends_55 dX6_ends_56 (by decide) (fun h8 => ?_) (fun h8 => ?_)
    · replace hf := ift h8 hf
      refine lv_lconst (v := (0 : Int64)) S.1 S.2.1 dX6_ends_73 (by decide) ?_
      refine lv_lstore (lv' := [(6, .long (0 : Int64)), (4, .long x5), (2, .long x3), (0, .ref (ad 0)), (1, .int a1)]) S.1 S.2.1 dX6_ends_74 hl (by decide) rfl (fun ls hl => ?_)
      refine lv_iconst (v := (0 : Int32)) S.1 S.2.1 dX6_ends_76 (by decide) ?_
      refine lv_istore (lv' := [(8, .int (0 : Int32)), (6, .long (0 : Int64)), (4, .long x5), (2, .long x3), (0, .ref (ad 0)), (1, .int a1)]) S.1 S.2.1 dX6_ends_77 hl (by decide) rfl (fun ls hl => ?_)
      exact L_X6_ends_79 l E ad hI N a1  S hr hlk hK hN _ _ N x3 (0 : Int64) (0 : Int32)  M hf _ _ _ hP hS (lv_sub hl [4, 5, 3, 1, 0] rfl)
    · replace hf := iff_ h8 hf
      refine lv_aload_n S.1 S.2.1 dX6_ends_59 rfl (lv_at hl 2 rfl) ?_
      refine x_get (v := .ref (ad 1)) S hK hP w_lay_X6 (ci := 6) rfl 0 (by decide) m0 0 (by decide) w_fl_X6_7 rfl rfl dX6_ends_60 ?_
      refine lv_lload S.1 S.2.1 dX6_ends_63 (lv_at hl 0 rfl) ?_
      refine lv_l2i (v := x5.toInt32) S.1 S.2.1 dX6_ends_65 rfl ?_
      refine lv_bipush (v := (6 : Int32)) S.1 S.2.1 dX6_ends_66 (by decide) ?_
      refine y_Si (As := [.int x5.toInt32, .int (6 : Int32)]) S hK hN hP hS rfl (K_X6_cellOf l E ad hI _ x5.toInt32 (6 : Int32)  M _ rfl) (cS 2 S w_co_yX6_cellOf w_in_X6 w_ml_X6_63 w_st_yX6_cellOf hd_X6_cellOf ⟨Nat.le_of_ble_eq_true rfl, Nat.le_of_ble_eq_true rfl⟩) hl.1 rfl rfl (Nat.le_of_ble_eq_true rfl) dX6_ends_68 ⟨Nat.zero_le _, Nat.zero_le _⟩ (fun H locs hP hS => ?_)
      refine x_lald S hK hP 1 (by decide) m1 h7 dX6_ends_71 ?_
      obtain ⟨x9, ex9, hf⟩ := bnd_some hf
      refine lv_rel ex9 ?_
      refine lv_lstore_n (lv' := [(2, .long x9), (4, .long x5), (0, .ref (ad 0)), (1, .int a1)]) S.1 S.2.1 dX6_ends_72 rfl hl (by decide) rfl (fun ls hl => ?_)
      refine lv_lconst (v := (0 : Int64)) S.1 S.2.1 dX6_ends_73 (by decide) ?_
      refine lv_lstore (lv' := [(6, .long (0 : Int64)), (2, .long x9), (4, .long x5), (0, .ref (ad 0)), (1, .int a1)]) S.1 S.2.1 dX6_ends_74 hl (by decide) rfl (fun ls hl => ?_)
      refine lv_iconst (v := (0 : Int32)) S.1 S.2.1 dX6_ends_76 (by decide) ?_
      refine lv_istore (lv' := [(8, .int (0 : Int32)), (6, .long (0 : Int64)), (2, .long x9), (4, .long x5), (0, .ref (ad 0)), (1, .int a1)]) S.1 S.2.1 dX6_ends_77 hl (by decide) rfl (fun ls hl => ?_)
      exact L_X6_ends_79 l E ad hI N a1  S hr hlk hK hN _ _ N x9 (0 : Int64) (0 : Int32)  M hf _ _ _ hP hS (lv_sub hl [4, 5, 2, 1, 0] rfl)
theorem hd_X6_backGoes : yX6_backGoes.cls ≠ "java/lang/invoke/MethodHandle" ∧ yX6_backGoes.cls ≠ "java/lang/invoke/VarHandle" ∧ (parseMethodDescriptor yX6_backGoes.desc).map (fun d => d.parameters.length) = some 1 := by decide +kernel
set_option maxHeartbeats 4000000 in
set_option maxRecDepth 100000 in
theorem K_X6_backGoes (l : Launch) (E : EE) (ad : Nat → Nat) (hI : ad_I ad 7) (sz : Nat) (N : Nat) (a1 : Int32)  (M : MM) (M' : MM) (hf : F_X6_backGoes N a1 M = some M') : CtV l yX6_backGoes cX6_backGoes 7 1 21 E (entM E ad M) (entM E ad M') ad 7 sz [.ref (ad 0), .int a1] := by
  unfold CtV
  refine body_of (by decide) "SurvivorPurseModel" rfl (Nat.le_of_ble_eq_true rfl) ?_
  intro p e s m below meth c hsz S hr hlk hP hK hN ls hl
  subst hsz
  have hS : va_S (AA ad 7 s.heap.size) s.heap s.heap [] := va_S.rf
  have hl : lv_has ls 7 [(0, .ref (ad 0)), (1, .int a1)] := hl
  rw [F_X6_backGoes] at hf
  refine lv_aload_n S.1 S.2.1 dX6_backGoes_0 rfl (lv_at hl 0 rfl) ?_
  refine x_get (v := .ref (ad 1)) S hK hP w_lay_X6 (ci := 6) rfl 0 (by decide) m0 0 (by decide) w_fl_X6_7 rfl rfl dX6_backGoes_1 ?_
  refine lv_iload_n S.1 S.2.1 dX6_backGoes_4 rfl (lv_at hl 1 rfl) ?_
  refine lv_bipush (v := (13 : Int32)) S.1 S.2.1 dX6_backGoes_5 (by decide) ?_
  refine y_Si (As := [.int a1, .int (13 : Int32)]) S hK hN hP hS rfl (K_X6_part l E ad hI _ a1 (13 : Int32)  M _ rfl) (cS 2 S w_co_yX6_part w_in_X6 w_ml_X6_89 w_st_yX6_part hd_X6_part ⟨Nat.le_of_ble_eq_true rfl, Nat.le_of_ble_eq_true rfl⟩) hl.1 rfl rfl (Nat.le_of_ble_eq_true rfl) dX6_backGoes_7 ⟨Nat.zero_le _, Nat.zero_le _⟩ (fun H locs hP hS => ?_)
  refine lv_lconst (v := (1 : Int64)) S.1 S.2.1 dX6_backGoes_10 (by decide) ?_
  obtain ⟨h1, hf⟩ := gd_some hf
  refine x_last S hI hK hP hS 1 (by decide) m1 h1 (entM E ad (sL M 1 (ix (F_X6_part a1 (13 : Int32))) (1 : Int64))) n1 (fun _ h => entM_sL _ h) dX6_backGoes_11 (fun H locs hP hS => ?_)
  obtain ⟨M2, eM2, hf⟩ := bnd_some hf
  rw [← eM2] at hP
  refine lv_aload_n S.1 S.2.1 dX6_backGoes_12 rfl (lv_at hl 0 rfl) ?_
  refine x_get (v := .ref (ad 1)) S hK hP w_lay_X6 (ci := 6) rfl 0 (by decide) m0 0 (by decide) w_fl_X6_7 rfl rfl dX6_backGoes_13 ?_
  refine lv_iload_n S.1 S.2.1 dX6_backGoes_16 rfl (lv_at hl 1 rfl) ?_
  refine lv_iconst (v := (4 : Int32)) S.1 S.2.1 dX6_backGoes_17 (by decide) ?_
  refine y_Si (As := [.int a1, .int (4 : Int32)]) S hK hN hP hS rfl (K_X6_part l E ad hI _ a1 (4 : Int32)  M2 _ rfl) (cS 2 S w_co_yX6_part w_in_X6 w_ml_X6_89 w_st_yX6_part hd_X6_part ⟨Nat.le_of_ble_eq_true rfl, Nat.le_of_ble_eq_true rfl⟩) hl.1 rfl rfl (Nat.le_of_ble_eq_true rfl) dX6_backGoes_18 ⟨Nat.zero_le _, Nat.zero_le _⟩ (fun H locs hP hS => ?_)
  obtain ⟨h3, hf⟩ := gd_some hf
  refine x_lald S hK hP 1 (by decide) m1 h3 dX6_backGoes_21 ?_
  refine lv_l2i (v := (gL M2 1 (ix (F_X6_part a1 (4 : Int32)))).toInt32) S.1 S.2.1 dX6_backGoes_22 rfl ?_
  refine lv_iconst (v := (3 : Int32)) S.1 S.2.1 dX6_backGoes_23 (by decide) ?_
  refine y_Si (As := [.int ((gL M2 1 (ix (F_X6_part a1 (4 : Int32)))).toInt32), .int (3 : Int32)]) S hK hN hP hS rfl (K_X6_groupCell l E ad hI _ ((gL M2 1 (ix (F_X6_part a1 (4 : Int32)))).toInt32) (3 : Int32)  M2 _ rfl) (cS 2 S w_co_yX6_groupCell w_in_X6 w_ml_X6_55 w_st_yX6_groupCell hd_X6_groupCell ⟨Nat.le_of_ble_eq_true rfl, Nat.le_of_ble_eq_true rfl⟩) hl.1 rfl rfl (Nat.le_of_ble_eq_true rfl) dX6_backGoes_24 ⟨Nat.zero_le _, Nat.zero_le _⟩ (fun H locs hP hS => ?_)
  obtain ⟨x4, ex4, hf⟩ := bnd_some hf
  refine lv_rei ex4 ?_
  refine lv_istore_n (lv' := [(2, .int x4), (0, .ref (ad 0)), (1, .int a1)]) S.1 S.2.1 dX6_backGoes_27 rfl hl (by decide) rfl (fun ls hl => ?_)
  refine lv_aload_n S.1 S.2.1 dX6_backGoes_28 rfl (lv_at hl 1 rfl) ?_
  refine x_get (v := .ref (ad 1)) S hK hP w_lay_X6 (ci := 6) rfl 0 (by decide) m0 0 (by decide) w_fl_X6_7 rfl rfl dX6_backGoes_29 ?_
  refine lv_iload_n S.1 S.2.1 dX6_backGoes_32 rfl (lv_at hl 2 rfl) ?_
  refine lv_bipush (v := (6 : Int32)) S.1 S.2.1 dX6_backGoes_33 (by decide) ?_
  refine y_Si (As := [.int a1, .int (6 : Int32)]) S hK hN hP hS rfl (K_X6_part l E ad hI _ a1 (6 : Int32)  M2 _ rfl) (cS 2 S w_co_yX6_part w_in_X6 w_ml_X6_89 w_st_yX6_part hd_X6_part ⟨Nat.le_of_ble_eq_true rfl, Nat.le_of_ble_eq_true rfl⟩) hl.1 rfl rfl (Nat.le_of_ble_eq_true rfl) dX6_backGoes_35 ⟨Nat.zero_le _, Nat.zero_le _⟩ (fun H locs hP hS => ?_)
  obtain ⟨h5, hf⟩ := gd_some hf
  refine x_lald S hK hP 1 (by decide) m1 h5 dX6_backGoes_38 ?_
  refine lv_aload_n S.1 S.2.1 dX6_backGoes_39 rfl (lv_at hl 1 rfl) ?_
  refine x_get (v := .ref (ad 1)) S hK hP w_lay_X6 (ci := 6) rfl 0 (by decide) m0 0 (by decide) w_fl_X6_7 rfl rfl dX6_backGoes_40 ?_
  refine lv_iload_n S.1 S.2.1 dX6_backGoes_43 rfl (lv_at hl 2 rfl) ?_
  refine lv_bipush (v := (7 : Int32)) S.1 S.2.1 dX6_backGoes_44 (by decide) ?_
  refine y_Si (As := [.int a1, .int (7 : Int32)]) S hK hN hP hS rfl (K_X6_part l E ad hI _ a1 (7 : Int32)  M2 _ rfl) (cS 2 S w_co_yX6_part w_in_X6 w_ml_X6_89 w_st_yX6_part hd_X6_part ⟨Nat.le_of_ble_eq_true rfl, Nat.le_of_ble_eq_true rfl⟩) hl.1 rfl rfl (Nat.le_of_ble_eq_true rfl) dX6_backGoes_46 ⟨Nat.zero_le _, Nat.zero_le _⟩ (fun H locs hP hS => ?_)
  obtain ⟨h6, hf⟩ := gd_some hf
  refine x_lald S hK hP 1 (by decide) m1 h6 dX6_backGoes_49 ?_
  refine lv_lsub S.1 S.2.1 dX6_backGoes_50 ?_
  obtain ⟨x7, ex7, hf⟩ := bnd_some hf
  refine lv_rel ex7 ?_
  refine lv_lstore_n (lv' := [(3, .long x7), (2, .int x4), (0, .ref (ad 0)), (1, .int a1)]) S.1 S.2.1 dX6_backGoes_51 rfl hl (by decide) rfl (fun ls hl => ?_)
  refine lv_lload_n S.1 S.2.1 dX6_backGoes_52 rfl (lv_at hl 0 rfl) ?_
  refine lv_lconst (v := (0 : Int64)) S.1 S.2.1 dX6_backGoes_53 (by decide) ?_
  refine ll_ge (tgt := 62) S dX6_backGoes_54 dX6_backGoes_55 (by decide) (fun h8 => ?_) (fun h8 => ?_)
  · replace hf := ift h8 hf
    refine lv_lload_n S.1 S.2.1 dX6_backGoes_62 rfl (lv_at hl 0 rfl) ?_
    refine lv_aload_n S.1 S.2.1 dX6_backGoes_63 rfl (lv_at hl 2 rfl) ?_
    refine x_get (v := .ref (ad 1)) S hK hP w_lay_X6 (ci := 6) rfl 0 (by decide) m0 0 (by decide) w_fl_X6_7 rfl rfl dX6_backGoes_64 ?_
    refine lv_iload_n S.1 S.2.1 dX6_backGoes_67 rfl (lv_at hl 1 rfl) ?_
    obtain ⟨h9, hf⟩ := gd_some hf
    refine x_lald S hK hP 1 (by decide) m1 h9 dX6_backGoes_68 ?_
    refine ll_le (tgt := 82) S dX6_backGoes_69 dX6_backGoes_70 (by decide) (fun h10 => ?_) (fun h10 => ?_)
    · replace hf := ift h10 hf
      refine lv_lload_n S.1 S.2.1 dX6_backGoes_82 rfl (lv_at hl 0 rfl) ?_
      refine lv_lstore_n (lv' := [(3, .long x7), (2, .int x4), (0, .ref (ad 0)), (1, .int a1)]) S.1 S.2.1 dX6_backGoes_83 rfl hl (by decide) rfl (fun ls hl => ?_)
      refine lv_aload_n S.1 S.2.1 dX6_backGoes_84 rfl (lv_at hl 2 rfl) ?_
      refine x_get (v := .ref (ad 1)) S hK hP w_lay_X6 (ci := 6) rfl 0 (by decide) m0 0 (by decide) w_fl_X6_7 rfl rfl dX6_backGoes_85 ?_
      refine lv_aload_n S.1 S.2.1 dX6_backGoes_88 rfl (lv_at hl 2 rfl) ?_
      refine x_get (v := .ref (ad 1)) S hK hP w_lay_X6 (ci := 6) rfl 0 (by decide) m0 0 (by decide) w_fl_X6_7 rfl rfl dX6_backGoes_89 ?_
      refine lv_iload_n S.1 S.2.1 dX6_backGoes_92 rfl (lv_at hl 3 rfl) ?_
      refine lv_iconst (v := (1 : Int32)) S.1 S.2.1 dX6_backGoes_93 (by decide) ?_
      refine y_Si (As := [.int a1, .int (1 : Int32)]) S hK hN hP hS rfl (K_X6_part l E ad hI _ a1 (1 : Int32)  M2 _ rfl) (cS 2 S w_co_yX6_part w_in_X6 w_ml_X6_89 w_st_yX6_part hd_X6_part ⟨Nat.le_of_ble_eq_true rfl, Nat.le_of_ble_eq_true rfl⟩) hl.1 rfl rfl (Nat.le_of_ble_eq_true rfl) dX6_backGoes_94 ⟨Nat.zero_le _, Nat.zero_le _⟩ (fun H locs hP hS => ?_)
      obtain ⟨h11, hf⟩ := gd_some hf
      refine x_lald S hK hP 1 (by decide) m1 h11 dX6_backGoes_97 ?_
      refine lv_l2i (v := (gL M2 1 (ix (F_X6_part a1 (1 : Int32)))).toInt32) S.1 S.2.1 dX6_backGoes_98 rfl ?_
      refine lv_iconst (v := (3 : Int32)) S.1 S.2.1 dX6_backGoes_99 (by decide) ?_
      refine y_Si (As := [.int ((gL M2 1 (ix (F_X6_part a1 (1 : Int32)))).toInt32), .int (3 : Int32)]) S hK hN hP hS rfl (K_X6_cellOf l E ad hI _ ((gL M2 1 (ix (F_X6_part a1 (1 : Int32)))).toInt32) (3 : Int32)  M2 _ rfl) (cS 2 S w_co_yX6_cellOf w_in_X6 w_ml_X6_63 w_st_yX6_cellOf hd_X6_cellOf ⟨Nat.le_of_ble_eq_true rfl, Nat.le_of_ble_eq_true rfl⟩) hl.1 rfl rfl (Nat.le_of_ble_eq_true rfl) dX6_backGoes_100 ⟨Nat.zero_le _, Nat.zero_le _⟩ (fun H locs hP hS => ?_)
      obtain ⟨h12, hf⟩ := gd_some hf
      refine x_lald S hK hP 1 (by decide) m1 h12 dX6_backGoes_103 ?_
      obtain ⟨x13, ex13, hf⟩ := bnd_some hf
      refine lv_rel ex13 ?_
      refine lv_lstore (lv' := [(5, .long x13), (3, .long x7), (2, .int x4), (0, .ref (ad 0)), (1, .int a1)]) S.1 S.2.1 dX6_backGoes_104 hl (by decide) rfl (fun ls hl => ?_)
      refine lv_aload_n S.1 S.2.1 dX6_backGoes_106 rfl (lv_at hl 3 rfl) ?_
      refine x_get (v := .ref (ad 1)) S hK hP w_lay_X6 (ci := 6) rfl 0 (by decide) m0 0 (by decide) w_fl_X6_7 rfl rfl dX6_backGoes_107 ?_
      refine lv_iload_n S.1 S.2.1 dX6_backGoes_110 rfl (lv_at hl 2 rfl) ?_
      refine lv_dup2_11 S.1 S.2.1 dX6_backGoes_111 rfl rfl ?_
      refine x_lald S hK hP 1 (by decide) m1 h9 dX6_backGoes_112 ?_
      refine lv_lload_n S.1 S.2.1 dX6_backGoes_113 rfl (lv_at hl 1 rfl) ?_
      refine lv_lsub S.1 S.2.1 dX6_backGoes_114 ?_
      refine x_last S hI hK hP hS 1 (by decide) m1 h9 (entM E ad (sL M2 1 (ix x4) ((gL M2 1 (ix x4)) - x7))) n1 (fun _ h => entM_sL _ h) dX6_backGoes_115 (fun H locs hP hS => ?_)
      obtain ⟨M14, eM14, hf⟩ := bnd_some hf
      rw [← eM14] at hP
      refine lv_aload_n S.1 S.2.1 dX6_backGoes_116 rfl (lv_at hl 3 rfl) ?_
      refine x_get (v := .ref (ad 1)) S hK hP w_lay_X6 (ci := 6) rfl 0 (by decide) m0 0 (by decide) w_fl_X6_7 rfl rfl dX6_backGoes_117 ?_
      refine lv_lload S.1 S.2.1 dX6_backGoes_120 (lv_at hl 0 rfl) ?_
      refine lv_lconst (v := (0 : Int64)) S.1 S.2.1 dX6_backGoes_122 (by decide) ?_
      refine ll_ge (tgt := 140) S dX6_backGoes_123 dX6_backGoes_124 (by decide) (fun h15 => ?_) (fun h15 => ?_)
      · replace hf := ift h15 hf
        refine lv_lload S.1 S.2.1 dX6_backGoes_140 (lv_at hl 0 rfl) ?_
        refine lv_l2i (v := x13.toInt32) S.1 S.2.1 dX6_backGoes_142 rfl ?_
        refine lv_iconst (v := (1 : Int32)) S.1 S.2.1 dX6_backGoes_143 (by decide) ?_
        refine y_Si (As := [.int x13.toInt32, .int (1 : Int32)]) S hK hN hP hS rfl (K_X6_cellOf l E ad hI _ x13.toInt32 (1 : Int32)  M14 _ rfl) (cS 2 S w_co_yX6_cellOf w_in_X6 w_ml_X6_63 w_st_yX6_cellOf hd_X6_cellOf ⟨Nat.le_of_ble_eq_true rfl, Nat.le_of_ble_eq_true rfl⟩) hl.1 rfl rfl (Nat.le_of_ble_eq_true rfl) dX6_backGoes_144 ⟨Nat.zero_le _, Nat.zero_le _⟩ (fun H locs hP hS => ?_)
        refine lv_dup2_11 S.1 S.2.1 dX6_backGoes_147 rfl rfl ?_
        obtain ⟨h16, hf⟩ := gd_some hf
        refine x_lald S hK hP 1 (by decide) m1 h16 dX6_backGoes_148 ?_
        refine lv_lload_n S.1 S.2.1 dX6_backGoes_149 rfl (lv_at hl 1 rfl) ?_
        refine lv_ladd S.1 S.2.1 dX6_backGoes_150 ?_
        refine x_last S hI hK hP hS 1 (by decide) m1 h16 (entM E ad (sL M14 1 (ix (F_X6_cellOf x13.toInt32 (1 : Int32))) ((gL M14 1 (ix (F_X6_cellOf x13.toInt32 (1 : Int32)))) + x7))) n1 (fun _ h => entM_sL _ h) dX6_backGoes_151 (fun H locs hP hS => ?_)
        obtain ⟨M17, eM17, hf⟩ := bnd_some hf
        rw [← eM17] at hP
        cases hf
        exact r_v S hr hlk hP hS dX6_backGoes_152
      · replace hf := iff_ h15 hf
        refine lv_aload_n S.1 S.2.1 dX6_backGoes_127 rfl (lv_at hl 3 rfl) ?_
        refine x_get (v := .ref (ad 1)) S hK hP w_lay_X6 (ci := 6) rfl 0 (by decide) m0 0 (by decide) w_fl_X6_7 rfl rfl dX6_backGoes_128 ?_
        refine lv_iload_n S.1 S.2.1 dX6_backGoes_131 rfl (lv_at hl 4 rfl) ?_
        refine lv_iconst (v := (0 : Int32)) S.1 S.2.1 dX6_backGoes_132 (by decide) ?_
        refine y_Si (As := [.int a1, .int (0 : Int32)]) S hK hN hP hS rfl (K_X6_part l E ad hI _ a1 (0 : Int32)  M14 _ rfl) (cS 2 S w_co_yX6_part w_in_X6 w_ml_X6_89 w_st_yX6_part hd_X6_part ⟨Nat.le_of_ble_eq_true rfl, Nat.le_of_ble_eq_true rfl⟩) hl.1 rfl rfl (Nat.le_of_ble_eq_true rfl) dX6_backGoes_133 ⟨Nat.zero_le _, Nat.zero_le _⟩ (fun H locs hP hS => ?_)
        obtain ⟨h18, hf⟩ := gd_some hf
        refine x_lald S hK hP 1 (by decide) m1 h18 dX6_backGoes_136 ?_
        refine lv_goto (tgt := 142) S.1 S.2.1 dX6_backGoes_137 (by decide) ?_
        refine lv_l2i (v := (gL M14 1 (ix (F_X6_part a1 (0 : Int32)))).toInt32) S.1 S.2.1 dX6_backGoes_142 rfl ?_
        refine lv_iconst (v := (1 : Int32)) S.1 S.2.1 dX6_backGoes_143 (by decide) ?_
        refine y_Si (As := [.int ((gL M14 1 (ix (F_X6_part a1 (0 : Int32)))).toInt32), .int (1 : Int32)]) S hK hN hP hS rfl (K_X6_cellOf l E ad hI _ ((gL M14 1 (ix (F_X6_part a1 (0 : Int32)))).toInt32) (1 : Int32)  M14 _ rfl) (cS 2 S w_co_yX6_cellOf w_in_X6 w_ml_X6_63 w_st_yX6_cellOf hd_X6_cellOf ⟨Nat.le_of_ble_eq_true rfl, Nat.le_of_ble_eq_true rfl⟩) hl.1 rfl rfl (Nat.le_of_ble_eq_true rfl) dX6_backGoes_144 ⟨Nat.zero_le _, Nat.zero_le _⟩ (fun H locs hP hS => ?_)
        refine lv_dup2_11 S.1 S.2.1 dX6_backGoes_147 rfl rfl ?_
        obtain ⟨h19, hf⟩ := gd_some hf
        refine x_lald S hK hP 1 (by decide) m1 h19 dX6_backGoes_148 ?_
        refine lv_lload_n S.1 S.2.1 dX6_backGoes_149 rfl (lv_at hl 1 rfl) ?_
        refine lv_ladd S.1 S.2.1 dX6_backGoes_150 ?_
        refine x_last S hI hK hP hS 1 (by decide) m1 h19 (entM E ad (sL M14 1 (ix (F_X6_cellOf ((gL M14 1 (ix (F_X6_part a1 (0 : Int32)))).toInt32) (1 : Int32))) ((gL M14 1 (ix (F_X6_cellOf ((gL M14 1 (ix (F_X6_part a1 (0 : Int32)))).toInt32) (1 : Int32)))) + x7))) n1 (fun _ h => entM_sL _ h) dX6_backGoes_151 (fun H locs hP hS => ?_)
        obtain ⟨M20, eM20, hf⟩ := bnd_some hf
        rw [← eM20] at hP
        cases hf
        exact r_v S hr hlk hP hS dX6_backGoes_152
    · replace hf := iff_ h10 hf
      refine lv_aload_n S.1 S.2.1 dX6_backGoes_73 rfl (lv_at hl 2 rfl) ?_
      refine x_get (v := .ref (ad 1)) S hK hP w_lay_X6 (ci := 6) rfl 0 (by decide) m0 0 (by decide) w_fl_X6_7 rfl rfl dX6_backGoes_74 ?_
      refine lv_iload_n S.1 S.2.1 dX6_backGoes_77 rfl (lv_at hl 1 rfl) ?_
      refine x_lald S hK hP 1 (by decide) m1 h9 dX6_backGoes_78 ?_
      refine lv_goto (tgt := 83) S.1 S.2.1 dX6_backGoes_79 (by decide) ?_
      obtain ⟨x21, ex21, hf⟩ := bnd_some hf
      refine lv_rel ex21 ?_
      refine lv_lstore_n (lv' := [(3, .long x21), (2, .int x4), (0, .ref (ad 0)), (1, .int a1)]) S.1 S.2.1 dX6_backGoes_83 rfl hl (by decide) rfl (fun ls hl => ?_)
      refine lv_aload_n S.1 S.2.1 dX6_backGoes_84 rfl (lv_at hl 2 rfl) ?_
      refine x_get (v := .ref (ad 1)) S hK hP w_lay_X6 (ci := 6) rfl 0 (by decide) m0 0 (by decide) w_fl_X6_7 rfl rfl dX6_backGoes_85 ?_
      refine lv_aload_n S.1 S.2.1 dX6_backGoes_88 rfl (lv_at hl 2 rfl) ?_
      refine x_get (v := .ref (ad 1)) S hK hP w_lay_X6 (ci := 6) rfl 0 (by decide) m0 0 (by decide) w_fl_X6_7 rfl rfl dX6_backGoes_89 ?_
      refine lv_iload_n S.1 S.2.1 dX6_backGoes_92 rfl (lv_at hl 3 rfl) ?_
      refine lv_iconst (v := (1 : Int32)) S.1 S.2.1 dX6_backGoes_93 (by decide) ?_
      refine y_Si (As := [.int a1, .int (1 : Int32)]) S hK hN hP hS rfl (K_X6_part l E ad hI _ a1 (1 : Int32)  M2 _ rfl) (cS 2 S w_co_yX6_part w_in_X6 w_ml_X6_89 w_st_yX6_part hd_X6_part ⟨Nat.le_of_ble_eq_true rfl, Nat.le_of_ble_eq_true rfl⟩) hl.1 rfl rfl (Nat.le_of_ble_eq_true rfl) dX6_backGoes_94 ⟨Nat.zero_le _, Nat.zero_le _⟩ (fun H locs hP hS => ?_)
      obtain ⟨h22, hf⟩ := gd_some hf
      refine x_lald S hK hP 1 (by decide) m1 h22 dX6_backGoes_97 ?_
      refine lv_l2i (v := (gL M2 1 (ix (F_X6_part a1 (1 : Int32)))).toInt32) S.1 S.2.1 dX6_backGoes_98 rfl ?_
      refine lv_iconst (v := (3 : Int32)) S.1 S.2.1 dX6_backGoes_99 (by decide) ?_
      refine y_Si (As := [.int ((gL M2 1 (ix (F_X6_part a1 (1 : Int32)))).toInt32), .int (3 : Int32)]) S hK hN hP hS rfl (K_X6_cellOf l E ad hI _ ((gL M2 1 (ix (F_X6_part a1 (1 : Int32)))).toInt32) (3 : Int32)  M2 _ rfl) (cS 2 S w_co_yX6_cellOf w_in_X6 w_ml_X6_63 w_st_yX6_cellOf hd_X6_cellOf ⟨Nat.le_of_ble_eq_true rfl, Nat.le_of_ble_eq_true rfl⟩) hl.1 rfl rfl (Nat.le_of_ble_eq_true rfl) dX6_backGoes_100 ⟨Nat.zero_le _, Nat.zero_le _⟩ (fun H locs hP hS => ?_)
      obtain ⟨h23, hf⟩ := gd_some hf
      refine x_lald S hK hP 1 (by decide) m1 h23 dX6_backGoes_103 ?_
      obtain ⟨x24, ex24, hf⟩ := bnd_some hf
      refine lv_rel ex24 ?_
      refine lv_lstore (lv' := [(5, .long x24), (3, .long x21), (2, .int x4), (0, .ref (ad 0)), (1, .int a1)]) S.1 S.2.1 dX6_backGoes_104 hl (by decide) rfl (fun ls hl => ?_)
      refine lv_aload_n S.1 S.2.1 dX6_backGoes_106 rfl (lv_at hl 3 rfl) ?_
      refine x_get (v := .ref (ad 1)) S hK hP w_lay_X6 (ci := 6) rfl 0 (by decide) m0 0 (by decide) w_fl_X6_7 rfl rfl dX6_backGoes_107 ?_
      refine lv_iload_n S.1 S.2.1 dX6_backGoes_110 rfl (lv_at hl 2 rfl) ?_
      refine lv_dup2_11 S.1 S.2.1 dX6_backGoes_111 rfl rfl ?_
      refine x_lald S hK hP 1 (by decide) m1 h9 dX6_backGoes_112 ?_
      refine lv_lload_n S.1 S.2.1 dX6_backGoes_113 rfl (lv_at hl 1 rfl) ?_
      refine lv_lsub S.1 S.2.1 dX6_backGoes_114 ?_
      refine x_last S hI hK hP hS 1 (by decide) m1 h9 (entM E ad (sL M2 1 (ix x4) ((gL M2 1 (ix x4)) - x21))) n1 (fun _ h => entM_sL _ h) dX6_backGoes_115 (fun H locs hP hS => ?_)
      obtain ⟨M25, eM25, hf⟩ := bnd_some hf
      rw [← eM25] at hP
      refine lv_aload_n S.1 S.2.1 dX6_backGoes_116 rfl (lv_at hl 3 rfl) ?_
      refine x_get (v := .ref (ad 1)) S hK hP w_lay_X6 (ci := 6) rfl 0 (by decide) m0 0 (by decide) w_fl_X6_7 rfl rfl dX6_backGoes_117 ?_
      refine lv_lload S.1 S.2.1 dX6_backGoes_120 (lv_at hl 0 rfl) ?_
      refine lv_lconst (v := (0 : Int64)) S.1 S.2.1 dX6_backGoes_122 (by decide) ?_
      refine ll_ge (tgt := 140) S dX6_backGoes_123 dX6_backGoes_124 (by decide) (fun h26 => ?_) (fun h26 => ?_)
      · replace hf := ift h26 hf
        refine lv_lload S.1 S.2.1 dX6_backGoes_140 (lv_at hl 0 rfl) ?_
        refine lv_l2i (v := x24.toInt32) S.1 S.2.1 dX6_backGoes_142 rfl ?_
        refine lv_iconst (v := (1 : Int32)) S.1 S.2.1 dX6_backGoes_143 (by decide) ?_
        refine y_Si (As := [.int x24.toInt32, .int (1 : Int32)]) S hK hN hP hS rfl (K_X6_cellOf l E ad hI _ x24.toInt32 (1 : Int32)  M25 _ rfl) (cS 2 S w_co_yX6_cellOf w_in_X6 w_ml_X6_63 w_st_yX6_cellOf hd_X6_cellOf ⟨Nat.le_of_ble_eq_true rfl, Nat.le_of_ble_eq_true rfl⟩) hl.1 rfl rfl (Nat.le_of_ble_eq_true rfl) dX6_backGoes_144 ⟨Nat.zero_le _, Nat.zero_le _⟩ (fun H locs hP hS => ?_)
        refine lv_dup2_11 S.1 S.2.1 dX6_backGoes_147 rfl rfl ?_
        obtain ⟨h27, hf⟩ := gd_some hf
        refine x_lald S hK hP 1 (by decide) m1 h27 dX6_backGoes_148 ?_
        refine lv_lload_n S.1 S.2.1 dX6_backGoes_149 rfl (lv_at hl 1 rfl) ?_
        refine lv_ladd S.1 S.2.1 dX6_backGoes_150 ?_
        refine x_last S hI hK hP hS 1 (by decide) m1 h27 (entM E ad (sL M25 1 (ix (F_X6_cellOf x24.toInt32 (1 : Int32))) ((gL M25 1 (ix (F_X6_cellOf x24.toInt32 (1 : Int32)))) + x21))) n1 (fun _ h => entM_sL _ h) dX6_backGoes_151 (fun H locs hP hS => ?_)
        obtain ⟨M28, eM28, hf⟩ := bnd_some hf
        rw [← eM28] at hP
        cases hf
        exact r_v S hr hlk hP hS dX6_backGoes_152
      · replace hf := iff_ h26 hf
        refine lv_aload_n S.1 S.2.1 dX6_backGoes_127 rfl (lv_at hl 3 rfl) ?_
        refine x_get (v := .ref (ad 1)) S hK hP w_lay_X6 (ci := 6) rfl 0 (by decide) m0 0 (by decide) w_fl_X6_7 rfl rfl dX6_backGoes_128 ?_
        refine lv_iload_n S.1 S.2.1 dX6_backGoes_131 rfl (lv_at hl 4 rfl) ?_
        refine lv_iconst (v := (0 : Int32)) S.1 S.2.1 dX6_backGoes_132 (by decide) ?_
        refine y_Si (As := [.int a1, .int (0 : Int32)]) S hK hN hP hS rfl (K_X6_part l E ad hI _ a1 (0 : Int32)  M25 _ rfl) (cS 2 S w_co_yX6_part w_in_X6 w_ml_X6_89 w_st_yX6_part hd_X6_part ⟨Nat.le_of_ble_eq_true rfl, Nat.le_of_ble_eq_true rfl⟩) hl.1 rfl rfl (Nat.le_of_ble_eq_true rfl) dX6_backGoes_133 ⟨Nat.zero_le _, Nat.zero_le _⟩ (fun H locs hP hS => ?_)
        obtain ⟨h29, hf⟩ := gd_some hf
        refine x_lald S hK hP 1 (by decide) m1 h29 dX6_backGoes_136 ?_
        refine lv_goto (tgt := 142) S.1 S.2.1 dX6_backGoes_137 (by decide) ?_
        refine lv_l2i (v := (gL M25 1 (ix (F_X6_part a1 (0 : Int32)))).toInt32) S.1 S.2.1 dX6_backGoes_142 rfl ?_
        refine lv_iconst (v := (1 : Int32)) S.1 S.2.1 dX6_backGoes_143 (by decide) ?_
        refine y_Si (As := [.int ((gL M25 1 (ix (F_X6_part a1 (0 : Int32)))).toInt32), .int (1 : Int32)]) S hK hN hP hS rfl (K_X6_cellOf l E ad hI _ ((gL M25 1 (ix (F_X6_part a1 (0 : Int32)))).toInt32) (1 : Int32)  M25 _ rfl) (cS 2 S w_co_yX6_cellOf w_in_X6 w_ml_X6_63 w_st_yX6_cellOf hd_X6_cellOf ⟨Nat.le_of_ble_eq_true rfl, Nat.le_of_ble_eq_true rfl⟩) hl.1 rfl rfl (Nat.le_of_ble_eq_true rfl) dX6_backGoes_144 ⟨Nat.zero_le _, Nat.zero_le _⟩ (fun H locs hP hS => ?_)
        refine lv_dup2_11 S.1 S.2.1 dX6_backGoes_147 rfl rfl ?_
        obtain ⟨h30, hf⟩ := gd_some hf
        refine x_lald S hK hP 1 (by decide) m1 h30 dX6_backGoes_148 ?_
        refine lv_lload_n S.1 S.2.1 dX6_backGoes_149 rfl (lv_at hl 1 rfl) ?_
        refine lv_ladd S.1 S.2.1 dX6_backGoes_150 ?_
        refine x_last S hI hK hP hS 1 (by decide) m1 h30 (entM E ad (sL M25 1 (ix (F_X6_cellOf ((gL M25 1 (ix (F_X6_part a1 (0 : Int32)))).toInt32) (1 : Int32))) ((gL M25 1 (ix (F_X6_cellOf ((gL M25 1 (ix (F_X6_part a1 (0 : Int32)))).toInt32) (1 : Int32)))) + x21))) n1 (fun _ h => entM_sL _ h) dX6_backGoes_151 (fun H locs hP hS => ?_)
        obtain ⟨M31, eM31, hf⟩ := bnd_some hf
        rw [← eM31] at hP
        cases hf
        exact r_v S hr hlk hP hS dX6_backGoes_152
  · replace hf := iff_ h8 hf
    refine lv_lconst (v := (0 : Int64)) S.1 S.2.1 dX6_backGoes_58 (by decide) ?_
    refine lv_goto (tgt := 83) S.1 S.2.1 dX6_backGoes_59 (by decide) ?_
    refine lv_lstore_n (lv' := [(3, .long (0 : Int64)), (2, .int x4), (0, .ref (ad 0)), (1, .int a1)]) S.1 S.2.1 dX6_backGoes_83 rfl hl (by decide) rfl (fun ls hl => ?_)
    refine lv_aload_n S.1 S.2.1 dX6_backGoes_84 rfl (lv_at hl 2 rfl) ?_
    refine x_get (v := .ref (ad 1)) S hK hP w_lay_X6 (ci := 6) rfl 0 (by decide) m0 0 (by decide) w_fl_X6_7 rfl rfl dX6_backGoes_85 ?_
    refine lv_aload_n S.1 S.2.1 dX6_backGoes_88 rfl (lv_at hl 2 rfl) ?_
    refine x_get (v := .ref (ad 1)) S hK hP w_lay_X6 (ci := 6) rfl 0 (by decide) m0 0 (by decide) w_fl_X6_7 rfl rfl dX6_backGoes_89 ?_
    refine lv_iload_n S.1 S.2.1 dX6_backGoes_92 rfl (lv_at hl 3 rfl) ?_
    refine lv_iconst (v := (1 : Int32)) S.1 S.2.1 dX6_backGoes_93 (by decide) ?_
    refine y_Si (As := [.int a1, .int (1 : Int32)]) S hK hN hP hS rfl (K_X6_part l E ad hI _ a1 (1 : Int32)  M2 _ rfl) (cS 2 S w_co_yX6_part w_in_X6 w_ml_X6_89 w_st_yX6_part hd_X6_part ⟨Nat.le_of_ble_eq_true rfl, Nat.le_of_ble_eq_true rfl⟩) hl.1 rfl rfl (Nat.le_of_ble_eq_true rfl) dX6_backGoes_94 ⟨Nat.zero_le _, Nat.zero_le _⟩ (fun H locs hP hS => ?_)
    obtain ⟨h32, hf⟩ := gd_some hf
    refine x_lald S hK hP 1 (by decide) m1 h32 dX6_backGoes_97 ?_
    refine lv_l2i (v := (gL M2 1 (ix (F_X6_part a1 (1 : Int32)))).toInt32) S.1 S.2.1 dX6_backGoes_98 rfl ?_
    refine lv_iconst (v := (3 : Int32)) S.1 S.2.1 dX6_backGoes_99 (by decide) ?_
    refine y_Si (As := [.int ((gL M2 1 (ix (F_X6_part a1 (1 : Int32)))).toInt32), .int (3 : Int32)]) S hK hN hP hS rfl (K_X6_cellOf l E ad hI _ ((gL M2 1 (ix (F_X6_part a1 (1 : Int32)))).toInt32) (3 : Int32)  M2 _ rfl) (cS 2 S w_co_yX6_cellOf w_in_X6 w_ml_X6_63 w_st_yX6_cellOf hd_X6_cellOf ⟨Nat.le_of_ble_eq_true rfl, Nat.le_of_ble_eq_true rfl⟩) hl.1 rfl rfl (Nat.le_of_ble_eq_true rfl) dX6_backGoes_100 ⟨Nat.zero_le _, Nat.zero_le _⟩ (fun H locs hP hS => ?_)
    obtain ⟨h33, hf⟩ := gd_some hf
    refine x_lald S hK hP 1 (by decide) m1 h33 dX6_backGoes_103 ?_
    obtain ⟨x34, ex34, hf⟩ := bnd_some hf
    refine lv_rel ex34 ?_
    refine lv_lstore (lv' := [(5, .long x34), (3, .long (0 : Int64)), (2, .int x4), (0, .ref (ad 0)), (1, .int a1)]) S.1 S.2.1 dX6_backGoes_104 hl (by decide) rfl (fun ls hl => ?_)
    refine lv_aload_n S.1 S.2.1 dX6_backGoes_106 rfl (lv_at hl 3 rfl) ?_
    refine x_get (v := .ref (ad 1)) S hK hP w_lay_X6 (ci := 6) rfl 0 (by decide) m0 0 (by decide) w_fl_X6_7 rfl rfl dX6_backGoes_107 ?_
    refine lv_iload_n S.1 S.2.1 dX6_backGoes_110 rfl (lv_at hl 2 rfl) ?_
    refine lv_dup2_11 S.1 S.2.1 dX6_backGoes_111 rfl rfl ?_
    obtain ⟨h35, hf⟩ := gd_some hf
    refine x_lald S hK hP 1 (by decide) m1 h35 dX6_backGoes_112 ?_
    refine lv_lload_n S.1 S.2.1 dX6_backGoes_113 rfl (lv_at hl 1 rfl) ?_
    refine lv_lsub S.1 S.2.1 dX6_backGoes_114 ?_
    refine x_last S hI hK hP hS 1 (by decide) m1 h35 (entM E ad (sL M2 1 (ix x4) ((gL M2 1 (ix x4)) - (0 : Int64)))) n1 (fun _ h => entM_sL _ h) dX6_backGoes_115 (fun H locs hP hS => ?_)
    obtain ⟨M36, eM36, hf⟩ := bnd_some hf
    rw [← eM36] at hP
    refine lv_aload_n S.1 S.2.1 dX6_backGoes_116 rfl (lv_at hl 3 rfl) ?_
    refine x_get (v := .ref (ad 1)) S hK hP w_lay_X6 (ci := 6) rfl 0 (by decide) m0 0 (by decide) w_fl_X6_7 rfl rfl dX6_backGoes_117 ?_
    refine lv_lload S.1 S.2.1 dX6_backGoes_120 (lv_at hl 0 rfl) ?_
    refine lv_lconst (v := (0 : Int64)) S.1 S.2.1 dX6_backGoes_122 (by decide) ?_
    refine ll_ge (tgt := 140) S dX6_backGoes_123 dX6_backGoes_124 (by decide) (fun h37 => ?_) (fun h37 => ?_)
    · replace hf := ift h37 hf
      refine lv_lload S.1 S.2.1 dX6_backGoes_140 (lv_at hl 0 rfl) ?_
      refine lv_l2i (v := x34.toInt32) S.1 S.2.1 dX6_backGoes_142 rfl ?_
      refine lv_iconst (v := (1 : Int32)) S.1 S.2.1 dX6_backGoes_143 (by decide) ?_
      refine y_Si (As := [.int x34.toInt32, .int (1 : Int32)]) S hK hN hP hS rfl (K_X6_cellOf l E ad hI _ x34.toInt32 (1 : Int32)  M36 _ rfl) (cS 2 S w_co_yX6_cellOf w_in_X6 w_ml_X6_63 w_st_yX6_cellOf hd_X6_cellOf ⟨Nat.le_of_ble_eq_true rfl, Nat.le_of_ble_eq_true rfl⟩) hl.1 rfl rfl (Nat.le_of_ble_eq_true rfl) dX6_backGoes_144 ⟨Nat.zero_le _, Nat.zero_le _⟩ (fun H locs hP hS => ?_)
      refine lv_dup2_11 S.1 S.2.1 dX6_backGoes_147 rfl rfl ?_
      obtain ⟨h38, hf⟩ := gd_some hf
      refine x_lald S hK hP 1 (by decide) m1 h38 dX6_backGoes_148 ?_
      refine lv_lload_n S.1 S.2.1 dX6_backGoes_149 rfl (lv_at hl 1 rfl) ?_
      refine lv_ladd S.1 S.2.1 dX6_backGoes_150 ?_
      refine x_last S hI hK hP hS 1 (by decide) m1 h38 (entM E ad (sL M36 1 (ix (F_X6_cellOf x34.toInt32 (1 : Int32))) ((gL M36 1 (ix (F_X6_cellOf x34.toInt32 (1 : Int32)))) + (0 : Int64)))) n1 (fun _ h => entM_sL _ h) dX6_backGoes_151 (fun H locs hP hS => ?_)
      obtain ⟨M39, eM39, hf⟩ := bnd_some hf
      rw [← eM39] at hP
      cases hf
      exact r_v S hr hlk hP hS dX6_backGoes_152
    · replace hf := iff_ h37 hf
      refine lv_aload_n S.1 S.2.1 dX6_backGoes_127 rfl (lv_at hl 3 rfl) ?_
      refine x_get (v := .ref (ad 1)) S hK hP w_lay_X6 (ci := 6) rfl 0 (by decide) m0 0 (by decide) w_fl_X6_7 rfl rfl dX6_backGoes_128 ?_
      refine lv_iload_n S.1 S.2.1 dX6_backGoes_131 rfl (lv_at hl 4 rfl) ?_
      refine lv_iconst (v := (0 : Int32)) S.1 S.2.1 dX6_backGoes_132 (by decide) ?_
      refine y_Si (As := [.int a1, .int (0 : Int32)]) S hK hN hP hS rfl (K_X6_part l E ad hI _ a1 (0 : Int32)  M36 _ rfl) (cS 2 S w_co_yX6_part w_in_X6 w_ml_X6_89 w_st_yX6_part hd_X6_part ⟨Nat.le_of_ble_eq_true rfl, Nat.le_of_ble_eq_true rfl⟩) hl.1 rfl rfl (Nat.le_of_ble_eq_true rfl) dX6_backGoes_133 ⟨Nat.zero_le _, Nat.zero_le _⟩ (fun H locs hP hS => ?_)
      obtain ⟨h40, hf⟩ := gd_some hf
      refine x_lald S hK hP 1 (by decide) m1 h40 dX6_backGoes_136 ?_
      refine lv_goto (tgt := 142) S.1 S.2.1 dX6_backGoes_137 (by decide) ?_
      refine lv_l2i (v := (gL M36 1 (ix (F_X6_part a1 (0 : Int32)))).toInt32) S.1 S.2.1 dX6_backGoes_142 rfl ?_
      refine lv_iconst (v := (1 : Int32)) S.1 S.2.1 dX6_backGoes_143 (by decide) ?_
      refine y_Si (As := [.int ((gL M36 1 (ix (F_X6_part a1 (0 : Int32)))).toInt32), .int (1 : Int32)]) S hK hN hP hS rfl (K_X6_cellOf l E ad hI _ ((gL M36 1 (ix (F_X6_part a1 (0 : Int32)))).toInt32) (1 : Int32)  M36 _ rfl) (cS 2 S w_co_yX6_cellOf w_in_X6 w_ml_X6_63 w_st_yX6_cellOf hd_X6_cellOf ⟨Nat.le_of_ble_eq_true rfl, Nat.le_of_ble_eq_true rfl⟩) hl.1 rfl rfl (Nat.le_of_ble_eq_true rfl) dX6_backGoes_144 ⟨Nat.zero_le _, Nat.zero_le _⟩ (fun H locs hP hS => ?_)
      refine lv_dup2_11 S.1 S.2.1 dX6_backGoes_147 rfl rfl ?_
      obtain ⟨h41, hf⟩ := gd_some hf
      refine x_lald S hK hP 1 (by decide) m1 h41 dX6_backGoes_148 ?_
      refine lv_lload_n S.1 S.2.1 dX6_backGoes_149 rfl (lv_at hl 1 rfl) ?_
      refine lv_ladd S.1 S.2.1 dX6_backGoes_150 ?_
      refine x_last S hI hK hP hS 1 (by decide) m1 h41 (entM E ad (sL M36 1 (ix (F_X6_cellOf ((gL M36 1 (ix (F_X6_part a1 (0 : Int32)))).toInt32) (1 : Int32))) ((gL M36 1 (ix (F_X6_cellOf ((gL M36 1 (ix (F_X6_part a1 (0 : Int32)))).toInt32) (1 : Int32)))) + (0 : Int64)))) n1 (fun _ h => entM_sL _ h) dX6_backGoes_151 (fun H locs hP hS => ?_)
      obtain ⟨M42, eM42, hf⟩ := bnd_some hf
      rw [← eM42] at hP
      cases hf
      exact r_v S hr hlk hP hS dX6_backGoes_152
theorem hd_X6_of : yX6_of.cls ≠ "java/lang/invoke/MethodHandle" ∧ yX6_of.cls ≠ "java/lang/invoke/VarHandle" ∧ (parseMethodDescriptor yX6_of.desc).map (fun d => d.parameters.length) = some 2 := by decide +kernel
set_option maxHeartbeats 4000000 in
set_option maxRecDepth 100000 in
theorem K_X6_of (l : Launch) (E : EE) (ad : Nat → Nat) (hI : ad_I ad 7) (sz : Nat) (N : Nat) (a1 : Int32) (a2 : Int32)  (M : MM) (r : Int64) (hf : F_X6_of N a1 a2 M = some r) : CtL l yX6_of cX6_of 3 2 46 E (entM E ad M) (entM E ad M) ad 7 sz [.ref (ad 0), .int a1, .int a2] (r) := by
  unfold CtL
  refine body_of (by decide) "SurvivorPurseModel" rfl (Nat.le_of_ble_eq_true rfl) ?_
  intro p e s m below meth c hsz S hr hlk hP hK hN ls hl
  subst hsz
  have hS : va_S (AA ad 7 s.heap.size) s.heap s.heap [] := va_S.rf
  have hl : lv_has ls 3 [(0, .ref (ad 0)), (1, .int a1), (2, .int a2)] := hl
  rw [F_X6_of] at hf
  refine lv_aload_n S.1 S.2.1 dX6_of_0 rfl (lv_at hl 0 rfl) ?_
  refine lv_iload_n S.1 S.2.1 dX6_of_1 rfl (lv_at hl 1 rfl) ?_
  refine y_Vi (As := [.int a1]) S hK hN hP hS rfl (by decide) m0 rfl (K_X6_isMember l E ad hI _ a1  M _ rfl) (cV 1 S w_co_yX6_isMember w_in_X6 w_ml_X6_66 w_im_yX6_isMember w_se_yX6_isMember hd_X6_isMember ⟨Nat.le_of_ble_eq_true rfl, Nat.le_of_ble_eq_true rfl⟩) hl.1 rfl rfl (Nat.le_of_ble_eq_true rfl) dX6_of_2 ⟨Nat.zero_le _, Nat.zero_le _⟩ (fun H locs hP hS => ?_)
  refine lv_if_eq (tgt := 20) S.1 S.2.1 dX6_of_5 (by decide) (fun h1 => ?_) (fun h1 => ?_)
  · replace hf := ift h1 hf
    refine lv_ldc2 (own := "SurvivorPurseModel") (v := (-1000000000000000 : Int64)) S.1 S.2.1 S.2.2.2.1 (S.2.2.2.2 _ w_kl_X6_41) dX6_of_20 ?_
    cases hf
    exact r_l S hr hlk hP hS dX6_of_23
  · replace hf := iff_ h1 hf
    refine lv_iload_n S.1 S.2.1 dX6_of_8 rfl (lv_at hl 2 rfl) ?_
    refine lv_i2l (v := a2.toInt64) S.1 S.2.1 dX6_of_9 rfl ?_
    refine lv_lconst (v := (0 : Int64)) S.1 S.2.1 dX6_of_10 (by decide) ?_
    refine lv_ldc2 (own := "SurvivorPurseModel") (v := (5 : Int64)) S.1 S.2.1 S.2.2.2.1 (S.2.2.2.2 _ w_kl_X6_73) dX6_of_11 ?_
    refine y_Si (As := [.long a2.toInt64, .long (0 : Int64), .long (5 : Int64)]) S hK hN hP hS rfl (K_X6_in l E ad hI _ a2.toInt64 (0 : Int64) (5 : Int64)  M _ rfl) (cS 3 S w_co_yX6_in w_in_X6 w_ml_X6_35 w_st_yX6_in hd_X6_in ⟨Nat.le_of_ble_eq_true rfl, Nat.le_of_ble_eq_true rfl⟩) hl.1 rfl rfl (Nat.le_of_ble_eq_true rfl) dX6_of_14 ⟨Nat.zero_le _, Nat.zero_le _⟩ (fun H locs hP hS => ?_)
    refine lv_if_ne (tgt := 24) S.1 S.2.1 dX6_of_17 (by decide) (fun h2 => ?_) (fun h2 => ?_)
    · replace hf := iff_ h2 hf
      refine lv_iload_n S.1 S.2.1 dX6_of_24 rfl (lv_at hl 2 rfl) ?_
      by_cases h3 : a2 = (0 : Int32)
      · replace hf := ift h3 hf
        refine lv_tableIn (tgt := 60) (off := 35) S.1 S.2.1 dX6_of_25 (by rw [h3]; decide) (by rw [h3]; decide) (by rw [h3]; rfl) (by decide) ?_
        refine lv_aload_n S.1 S.2.1 dX6_of_60 rfl (lv_at hl 0 rfl) ?_
        refine x_get (v := .ref (ad 1)) S hK hP w_lay_X6 (ci := 6) rfl 0 (by decide) m0 0 (by decide) w_fl_X6_7 rfl rfl dX6_of_61 ?_
        refine lv_iload_n S.1 S.2.1 dX6_of_64 rfl (lv_at hl 1 rfl) ?_
        refine lv_iconst (v := (1 : Int32)) S.1 S.2.1 dX6_of_65 (by decide) ?_
        refine y_Si (As := [.int a1, .int (1 : Int32)]) S hK hN hP hS rfl (K_X6_cellOf l E ad hI _ a1 (1 : Int32)  M _ rfl) (cS 2 S w_co_yX6_cellOf w_in_X6 w_ml_X6_63 w_st_yX6_cellOf hd_X6_cellOf ⟨Nat.le_of_ble_eq_true rfl, Nat.le_of_ble_eq_true rfl⟩) hl.1 rfl rfl (Nat.le_of_ble_eq_true rfl) dX6_of_66 ⟨Nat.zero_le _, Nat.zero_le _⟩ (fun H locs hP hS => ?_)
        obtain ⟨h4, hf⟩ := gd_some hf
        refine x_lald S hK hP 1 (by decide) m1 h4 dX6_of_69 ?_
        cases hf
        exact r_l S hr hlk hP hS dX6_of_70
      · replace hf := iff_ h3 hf
        by_cases h5 : a2 = (1 : Int32)
        · replace hf := ift h5 hf
          refine lv_tableIn (tgt := 71) (off := 46) S.1 S.2.1 dX6_of_25 (by rw [h5]; decide) (by rw [h5]; decide) (by rw [h5]; rfl) (by decide) ?_
          refine lv_aload_n S.1 S.2.1 dX6_of_71 rfl (lv_at hl 0 rfl) ?_
          refine x_get (v := .ref (ad 1)) S hK hP w_lay_X6 (ci := 6) rfl 0 (by decide) m0 0 (by decide) w_fl_X6_7 rfl rfl dX6_of_72 ?_
          refine lv_iload_n S.1 S.2.1 dX6_of_75 rfl (lv_at hl 1 rfl) ?_
          refine lv_iconst (v := (2 : Int32)) S.1 S.2.1 dX6_of_76 (by decide) ?_
          refine y_Si (As := [.int a1, .int (2 : Int32)]) S hK hN hP hS rfl (K_X6_cellOf l E ad hI _ a1 (2 : Int32)  M _ rfl) (cS 2 S w_co_yX6_cellOf w_in_X6 w_ml_X6_63 w_st_yX6_cellOf hd_X6_cellOf ⟨Nat.le_of_ble_eq_true rfl, Nat.le_of_ble_eq_true rfl⟩) hl.1 rfl rfl (Nat.le_of_ble_eq_true rfl) dX6_of_77 ⟨Nat.zero_le _, Nat.zero_le _⟩ (fun H locs hP hS => ?_)
          obtain ⟨h6, hf⟩ := gd_some hf
          refine x_lald S hK hP 1 (by decide) m1 h6 dX6_of_80 ?_
          cases hf
          exact r_l S hr hlk hP hS dX6_of_81
        · replace hf := iff_ h5 hf
          by_cases h7 : a2 = (2 : Int32)
          · replace hf := ift h7 hf
            refine lv_tableIn (tgt := 82) (off := 57) S.1 S.2.1 dX6_of_25 (by rw [h7]; decide) (by rw [h7]; decide) (by rw [h7]; rfl) (by decide) ?_
            refine lv_aload_n S.1 S.2.1 dX6_of_82 rfl (lv_at hl 0 rfl) ?_
            refine x_get (v := .ref (ad 1)) S hK hP w_lay_X6 (ci := 6) rfl 0 (by decide) m0 0 (by decide) w_fl_X6_7 rfl rfl dX6_of_83 ?_
            refine lv_iload_n S.1 S.2.1 dX6_of_86 rfl (lv_at hl 1 rfl) ?_
            refine lv_iconst (v := (0 : Int32)) S.1 S.2.1 dX6_of_87 (by decide) ?_
            refine y_Si (As := [.int a1, .int (0 : Int32)]) S hK hN hP hS rfl (K_X6_cellOf l E ad hI _ a1 (0 : Int32)  M _ rfl) (cS 2 S w_co_yX6_cellOf w_in_X6 w_ml_X6_63 w_st_yX6_cellOf hd_X6_cellOf ⟨Nat.le_of_ble_eq_true rfl, Nat.le_of_ble_eq_true rfl⟩) hl.1 rfl rfl (Nat.le_of_ble_eq_true rfl) dX6_of_88 ⟨Nat.zero_le _, Nat.zero_le _⟩ (fun H locs hP hS => ?_)
            obtain ⟨h8, hf⟩ := gd_some hf
            refine x_lald S hK hP 1 (by decide) m1 h8 dX6_of_91 ?_
            cases hf
            exact r_l S hr hlk hP hS dX6_of_92
          · replace hf := iff_ h7 hf
            by_cases h9 : a2 = (3 : Int32)
            · replace hf := ift h9 hf
              refine lv_tableIn (tgt := 93) (off := 68) S.1 S.2.1 dX6_of_25 (by rw [h9]; decide) (by rw [h9]; decide) (by rw [h9]; rfl) (by decide) ?_
              refine lv_aload_n S.1 S.2.1 dX6_of_93 rfl (lv_at hl 0 rfl) ?_
              refine x_get (v := .ref (ad 1)) S hK hP w_lay_X6 (ci := 6) rfl 0 (by decide) m0 0 (by decide) w_fl_X6_7 rfl rfl dX6_of_94 ?_
              refine lv_iload_n S.1 S.2.1 dX6_of_97 rfl (lv_at hl 1 rfl) ?_
              refine lv_iconst (v := (4 : Int32)) S.1 S.2.1 dX6_of_98 (by decide) ?_
              refine y_Si (As := [.int a1, .int (4 : Int32)]) S hK hN hP hS rfl (K_X6_cellOf l E ad hI _ a1 (4 : Int32)  M _ rfl) (cS 2 S w_co_yX6_cellOf w_in_X6 w_ml_X6_63 w_st_yX6_cellOf hd_X6_cellOf ⟨Nat.le_of_ble_eq_true rfl, Nat.le_of_ble_eq_true rfl⟩) hl.1 rfl rfl (Nat.le_of_ble_eq_true rfl) dX6_of_99 ⟨Nat.zero_le _, Nat.zero_le _⟩ (fun H locs hP hS => ?_)
              obtain ⟨h10, hf⟩ := gd_some hf
              refine x_lald S hK hP 1 (by decide) m1 h10 dX6_of_102 ?_
              cases hf
              exact r_l S hr hlk hP hS dX6_of_103
            · replace hf := iff_ h9 hf
              by_cases h11 : a2 = (4 : Int32)
              · replace hf := ift h11 hf
                refine lv_tableIn (tgt := 104) (off := 79) S.1 S.2.1 dX6_of_25 (by rw [h11]; decide) (by rw [h11]; decide) (by rw [h11]; rfl) (by decide) ?_
                refine lv_aload_n S.1 S.2.1 dX6_of_104 rfl (lv_at hl 0 rfl) ?_
                refine lv_iload_n S.1 S.2.1 dX6_of_105 rfl (lv_at hl 1 rfl) ?_
                refine lv_i2l (v := a1.toInt64) S.1 S.2.1 dX6_of_106 rfl ?_
                obtain ⟨x12, gx12, hf⟩ := bn1_some hf
                refine y_Vi (As := [.long a1.toInt64]) S hK hN hP hS rfl (by decide) m0 rfl (K_X6_isDead l E ad hI _ N a1.toInt64  M x12 gx12) (cV 1 S w_co_yX6_isDead w_in_X6 w_ml_X6_75 w_im_yX6_isDead w_se_yX6_isDead hd_X6_isDead ⟨Nat.le_of_ble_eq_true rfl, Nat.le_of_ble_eq_true rfl⟩) hl.1 rfl rfl (Nat.le_of_ble_eq_true rfl) dX6_of_107 ⟨Nat.zero_le _, Nat.zero_le _⟩ (fun H locs hP hS => ?_)
                refine lv_if_eq (tgt := 127) S.1 S.2.1 dX6_of_110 (by decide) (fun h13 => ?_) (fun h13 => ?_)
                · replace hf := ift h13 hf
                  refine lv_ldc2 (own := "SurvivorPurseModel") (v := (-1000000000000000 : Int64)) S.1 S.2.1 S.2.2.2.1 (S.2.2.2.2 _ w_kl_X6_41) dX6_of_127 ?_
                  cases hf
                  exact r_l S hr hlk hP hS dX6_of_130
                · replace hf := iff_ h13 hf
                  refine lv_aload_n S.1 S.2.1 dX6_of_113 rfl (lv_at hl 0 rfl) ?_
                  refine x_get (v := .ref (ad 1)) S hK hP w_lay_X6 (ci := 6) rfl 0 (by decide) m0 0 (by decide) w_fl_X6_7 rfl rfl dX6_of_114 ?_
                  refine lv_iload_n S.1 S.2.1 dX6_of_117 rfl (lv_at hl 1 rfl) ?_
                  refine lv_bipush (v := (6 : Int32)) S.1 S.2.1 dX6_of_118 (by decide) ?_
                  refine y_Si (As := [.int a1, .int (6 : Int32)]) S hK hN hP hS rfl (K_X6_cellOf l E ad hI _ a1 (6 : Int32)  M _ rfl) (cS 2 S w_co_yX6_cellOf w_in_X6 w_ml_X6_63 w_st_yX6_cellOf hd_X6_cellOf ⟨Nat.le_of_ble_eq_true rfl, Nat.le_of_ble_eq_true rfl⟩) hl.1 rfl rfl (Nat.le_of_ble_eq_true rfl) dX6_of_120 ⟨Nat.zero_le _, Nat.zero_le _⟩ (fun H locs hP hS => ?_)
                  obtain ⟨h14, hf⟩ := gd_some hf
                  refine x_lald S hK hP 1 (by decide) m1 h14 dX6_of_123 ?_
                  refine lv_goto (tgt := 130) S.1 S.2.1 dX6_of_124 (by decide) ?_
                  cases hf
                  exact r_l S hr hlk hP hS dX6_of_130
              · replace hf := iff_ h11 hf
                refine lv_tableOut (tgt := 131) S.1 S.2.1 dX6_of_25 (by have q0 := swn h3 (show ((0 : Int32) : Int32).toInt = 0 from rfl); have q1 := swn h5 (show ((1 : Int32) : Int32).toInt = 1 from rfl); have q2 := swn h7 (show ((2 : Int32) : Int32).toInt = 2 from rfl); have q3 := swn h9 (show ((3 : Int32) : Int32).toInt = 3 from rfl); have q4 := swn h11 (show ((4 : Int32) : Int32).toInt = 4 from rfl); omega) (by decide) ?_
                refine lv_aload_n S.1 S.2.1 dX6_of_131 rfl (lv_at hl 0 rfl) ?_
                refine x_get (v := .ref (ad 1)) S hK hP w_lay_X6 (ci := 6) rfl 0 (by decide) m0 0 (by decide) w_fl_X6_7 rfl rfl dX6_of_132 ?_
                refine lv_iload_n S.1 S.2.1 dX6_of_135 rfl (lv_at hl 1 rfl) ?_
                refine lv_iconst (v := (3 : Int32)) S.1 S.2.1 dX6_of_136 (by decide) ?_
                refine y_Si (As := [.int a1, .int (3 : Int32)]) S hK hN hP hS rfl (K_X6_cellOf l E ad hI _ a1 (3 : Int32)  M _ rfl) (cS 2 S w_co_yX6_cellOf w_in_X6 w_ml_X6_63 w_st_yX6_cellOf hd_X6_cellOf ⟨Nat.le_of_ble_eq_true rfl, Nat.le_of_ble_eq_true rfl⟩) hl.1 rfl rfl (Nat.le_of_ble_eq_true rfl) dX6_of_137 ⟨Nat.zero_le _, Nat.zero_le _⟩ (fun H locs hP hS => ?_)
                obtain ⟨h15, hf⟩ := gd_some hf
                refine x_lald S hK hP 1 (by decide) m1 h15 dX6_of_140 ?_
                cases hf
                exact r_l S hr hlk hP hS dX6_of_141
    · replace hf := ift h2 hf
      refine lv_ldc2 (own := "SurvivorPurseModel") (v := (-1000000000000000 : Int64)) S.1 S.2.1 S.2.2.2.1 (S.2.2.2.2 _ w_kl_X6_41) dX6_of_20 ?_
      cases hf
      exact r_l S hr hlk hP hS dX6_of_23
theorem hd_X6_about : yX6_about.cls ≠ "java/lang/invoke/MethodHandle" ∧ yX6_about.cls ≠ "java/lang/invoke/VarHandle" ∧ (parseMethodDescriptor yX6_about.desc).map (fun d => d.parameters.length) = some 2 := by decide +kernel
set_option maxHeartbeats 4000000 in
set_option maxRecDepth 100000 in
theorem L_X6_about_45 (l : Launch) (E : EE) (ad : Nat → Nat) (hI : ad_I ad 7) (N : Nat) (a1 : Int32) (a2 : Int32)  {p : Program} {e : Env} {s : State} {m : MethodId} {below : List Frame} {meth : Method} {c : Code} (S : CallFix p m c cX6_about 6 s [.ref (ad 0), .int a1, .int a2].toArray bg_B "SurvivorPurseModel") (hr : meth.sig.returnType = (some .long)) (hlk : meth.locks = false) (hK : va_K E.1 vwCl (tysE E) s) (hN : NW s) (r : Int64) : ∀ (fu : Nat) (v3 : Int64) (v5 : Int32)  (M : MM), F_X6_about_45 N a1 a2 fu v3 v5 M = some r → ∀ (H : Heap) (locs : List Loc) (ls : Array Slot), va_P E.1 vwCl (mw (entM E ad M) ad 7) H → va_S (AA ad 7 s.heap.size) s.heap H locs → lv_has ls 6 [(0, .ref (ad 0)), (1, .int a1), (2, .int a2), (3, .long v3), (5, .int v5)] → W p l e { frames := 4, cells := 0, slots := 0, locals := 89 } s m [.ref (ad 0), .int a1, .int a2].toArray below meth c H locs 0 0 (MQ below (va_Ql (fun r0 (_ : Unit) => r0 = r) (fun _ t => QB E (entM E ad M) ad 7 t) (AA ad 7 s.heap.size)) [.ref (ad 0), .int a1, .int a2].toArray s 0 0 (AA ad 7 s.heap.size)) (F0 m 45 ls []) := by
  intro fu
  induction fu with
  | zero =>
    intro v3 v5 M hf
    rw [F_X6_about_45] at hf
    cases hf
  | succ fu ih =>
    intro v3 v5 M hf H locs ls hP hS hl
    rw [F_X6_about_45] at hf
    refine lv_iload S.1 S.2.1 dX6_about_45 (lv_at hl 4 rfl) ?_
    refine lv_i2l (v := v5.toInt64) S.1 S.2.1 dX6_about_47 rfl ?_
    refine lv_aload_n S.1 S.2.1 dX6_about_48 rfl (lv_at hl 0 rfl) ?_
    refine x_get (v := .ref (ad 1)) S hK hP w_lay_X6 (ci := 6) rfl 0 (by decide) m0 0 (by decide) w_fl_X6_7 rfl rfl dX6_about_49 ?_
    refine lv_sipush (v := (5670 : Int32)) S.1 S.2.1 dX6_about_52 (by decide) ?_
    refine x_laldc (j := 5670) S hK hP 1 (by decide) m1 (by decide) (by decide) dX6_about_55 ?_
    refine ll_ge (tgt := 123) S dX6_about_56 dX6_about_57 (by decide) (fun h5 => ?_) (fun h5 => ?_)
    · replace hf := ift h5 hf
      refine lv_lload_n S.1 S.2.1 dX6_about_123 rfl (lv_at hl 3 rfl) ?_
      cases hf
      exact r_l S hr hlk hP hS dX6_about_124
    · replace hf := iff_ h5 hf
      refine lv_aload_n S.1 S.2.1 dX6_about_60 rfl (lv_at hl 0 rfl) ?_
      refine x_get (v := .ref (ad 1)) S hK hP w_lay_X6 (ci := 6) rfl 0 (by decide) m0 0 (by decide) w_fl_X6_7 rfl rfl dX6_about_61 ?_
      refine lv_iload S.1 S.2.1 dX6_about_64 (lv_at hl 4 rfl) ?_
      refine lv_iconst (v := (4 : Int32)) S.1 S.2.1 dX6_about_66 (by decide) ?_
      refine y_Si (As := [.int v5, .int (4 : Int32)]) S hK hN hP hS rfl (K_X6_part l E ad hI _ v5 (4 : Int32)  M _ rfl) (cS 2 S w_co_yX6_part w_in_X6 w_ml_X6_89 w_st_yX6_part hd_X6_part ⟨Nat.le_of_ble_eq_true rfl, Nat.le_of_ble_eq_true rfl⟩) hl.1 rfl rfl (Nat.le_of_ble_eq_true rfl) dX6_about_67 ⟨Nat.zero_le _, Nat.zero_le _⟩ (fun H locs hP hS => ?_)
      obtain ⟨h6, hf⟩ := gd_some hf
      refine x_lald S hK hP 1 (by decide) m1 h6 dX6_about_70 ?_
      refine lv_iload_n S.1 S.2.1 dX6_about_71 rfl (lv_at hl 1 rfl) ?_
      refine lv_i2l (v := a1.toInt64) S.1 S.2.1 dX6_about_72 rfl ?_
      refine ll_eq (tgt := 80) S dX6_about_73 dX6_about_74 (by decide) (fun h7 => ?_) (fun h7 => ?_)
      · replace hf := ift h7 hf
        refine lv_lload_n S.1 S.2.1 dX6_about_80 rfl (lv_at hl 3 rfl) ?_
        refine lv_iload_n S.1 S.2.1 dX6_about_81 rfl (lv_at hl 2 rfl) ?_
        refine lv_iconst (v := (5 : Int32)) S.1 S.2.1 dX6_about_82 (by decide) ?_
        refine lv_icmp_ne (tgt := 90) S.1 S.2.1 dX6_about_83 (by decide) (fun h8 => ?_) (fun h8 => ?_)
        · replace hf := iff_ h8 hf
          refine lv_aload_n S.1 S.2.1 dX6_about_90 rfl (lv_at hl 0 rfl) ?_
          refine lv_iload S.1 S.2.1 dX6_about_91 (lv_at hl 4 rfl) ?_
          obtain ⟨x10, gx10, hf⟩ := bn1_some hf
          refine y_Vi (As := [.int v5]) S hK hN hP hS rfl (by decide) m0 rfl (K_X6_stands l E ad hI _ N v5  M x10 gx10) (cV 1 S w_co_yX6_stands w_in_X6 w_ml_X6_117 w_im_yX6_stands w_se_yX6_stands hd_X6_stands ⟨Nat.le_of_ble_eq_true rfl, Nat.le_of_ble_eq_true rfl⟩) hl.1 rfl rfl (Nat.le_of_ble_eq_true rfl) dX6_about_93 ⟨Nat.zero_le _, Nat.zero_le _⟩ (fun H locs hP hS => ?_)
          refine lv_iconst (v := (2 : Int32)) S.1 S.2.1 dX6_about_96 (by decide) ?_
          refine lv_icmp_ge (tgt := 114) S.1 S.2.1 dX6_about_97 (by decide) (fun h11 => ?_) (fun h11 => ?_)
          · replace hf := ift h11 hf
            refine lv_lconst (v := (0 : Int64)) S.1 S.2.1 dX6_about_114 (by decide) ?_
            refine lv_ladd S.1 S.2.1 dX6_about_115 ?_
            obtain ⟨x12, ex12, hf⟩ := bnd_some hf
            refine lv_rel ex12 ?_
            refine lv_lstore_n (lv' := [(3, .long x12), (0, .ref (ad 0)), (1, .int a1), (2, .int a2), (5, .int v5)]) S.1 S.2.1 dX6_about_116 rfl hl (by decide) rfl (fun ls hl => ?_)
            refine lv_iinc (v := v5 + (1 : Int32)) (lv' := [(5, .int (v5 + (1 : Int32))), (3, .long x12), (0, .ref (ad 0)), (1, .int a1), (2, .int a2)]) S.1 S.2.1 dX6_about_117 hl (k := 4) rfl rfl (by decide) rfl (fun ls hl => ?_)
            refine lv_goto (tgt := 45) S.1 S.2.1 dX6_about_120 (by decide) ?_
            exact ih x12 (v5 + (1 : Int32))  M hf _ _ _ hP hS (lv_sub hl [2, 3, 4, 1, 0] rfl)
          · replace hf := iff_ h11 hf
            refine lv_aload_n S.1 S.2.1 dX6_about_100 rfl (lv_at hl 0 rfl) ?_
            refine x_get (v := .ref (ad 1)) S hK hP w_lay_X6 (ci := 6) rfl 0 (by decide) m0 0 (by decide) w_fl_X6_7 rfl rfl dX6_about_101 ?_
            refine lv_iload S.1 S.2.1 dX6_about_104 (lv_at hl 4 rfl) ?_
            refine lv_iconst (v := (3 : Int32)) S.1 S.2.1 dX6_about_106 (by decide) ?_
            refine y_Si (As := [.int v5, .int (3 : Int32)]) S hK hN hP hS rfl (K_X6_part l E ad hI _ v5 (3 : Int32)  M _ rfl) (cS 2 S w_co_yX6_part w_in_X6 w_ml_X6_89 w_st_yX6_part hd_X6_part ⟨Nat.le_of_ble_eq_true rfl, Nat.le_of_ble_eq_true rfl⟩) hl.1 rfl rfl (Nat.le_of_ble_eq_true rfl) dX6_about_107 ⟨Nat.zero_le _, Nat.zero_le _⟩ (fun H locs hP hS => ?_)
            obtain ⟨h13, hf⟩ := gd_some hf
            refine x_lald S hK hP 1 (by decide) m1 h13 dX6_about_110 ?_
            refine lv_goto (tgt := 115) S.1 S.2.1 dX6_about_111 (by decide) ?_
            refine lv_ladd S.1 S.2.1 dX6_about_115 ?_
            obtain ⟨x14, ex14, hf⟩ := bnd_some hf
            refine lv_rel ex14 ?_
            refine lv_lstore_n (lv' := [(3, .long x14), (0, .ref (ad 0)), (1, .int a1), (2, .int a2), (5, .int v5)]) S.1 S.2.1 dX6_about_116 rfl hl (by decide) rfl (fun ls hl => ?_)
            refine lv_iinc (v := v5 + (1 : Int32)) (lv' := [(5, .int (v5 + (1 : Int32))), (3, .long x14), (0, .ref (ad 0)), (1, .int a1), (2, .int a2)]) S.1 S.2.1 dX6_about_117 hl (k := 4) rfl rfl (by decide) rfl (fun ls hl => ?_)
            refine lv_goto (tgt := 45) S.1 S.2.1 dX6_about_120 (by decide) ?_
            exact ih x14 (v5 + (1 : Int32))  M hf _ _ _ hP hS (lv_sub hl [2, 3, 4, 1, 0] rfl)
        · replace hf := ift h8 hf
          refine lv_lconst (v := (1 : Int64)) S.1 S.2.1 dX6_about_86 (by decide) ?_
          refine lv_goto (tgt := 115) S.1 S.2.1 dX6_about_87 (by decide) ?_
          refine lv_ladd S.1 S.2.1 dX6_about_115 ?_
          obtain ⟨x9, ex9, hf⟩ := bnd_some hf
          refine lv_rel ex9 ?_
          refine lv_lstore_n (lv' := [(3, .long x9), (0, .ref (ad 0)), (1, .int a1), (2, .int a2), (5, .int v5)]) S.1 S.2.1 dX6_about_116 rfl hl (by decide) rfl (fun ls hl => ?_)
          refine lv_iinc (v := v5 + (1 : Int32)) (lv' := [(5, .int (v5 + (1 : Int32))), (3, .long x9), (0, .ref (ad 0)), (1, .int a1), (2, .int a2)]) S.1 S.2.1 dX6_about_117 hl (k := 4) rfl rfl (by decide) rfl (fun ls hl => ?_)
          refine lv_goto (tgt := 45) S.1 S.2.1 dX6_about_120 (by decide) ?_
          exact ih x9 (v5 + (1 : Int32))  M hf _ _ _ hP hS (lv_sub hl [2, 3, 4, 1, 0] rfl)
      · replace hf := iff_ h7 hf
        refine lv_goto (tgt := 117) S.1 S.2.1 dX6_about_77 (by decide) ?_
        refine lv_iinc (v := v5 + (1 : Int32)) (lv' := [(5, .int (v5 + (1 : Int32))), (0, .ref (ad 0)), (1, .int a1), (2, .int a2), (3, .long v3)]) S.1 S.2.1 dX6_about_117 hl (k := 4) rfl rfl (by decide) rfl (fun ls hl => ?_)
        refine lv_goto (tgt := 45) S.1 S.2.1 dX6_about_120 (by decide) ?_
        exact ih v3 (v5 + (1 : Int32))  M hf _ _ _ hP hS (lv_sub hl [1, 2, 3, 4, 0] rfl)
set_option maxHeartbeats 4000000 in
set_option maxRecDepth 100000 in
theorem K_X6_about (l : Launch) (E : EE) (ad : Nat → Nat) (hI : ad_I ad 7) (sz : Nat) (N : Nat) (a1 : Int32) (a2 : Int32)  (M : MM) (r : Int64) (hf : F_X6_about N a1 a2 M = some r) : CtL l yX6_about cX6_about 6 4 89 E (entM E ad M) (entM E ad M) ad 7 sz [.ref (ad 0), .int a1, .int a2] (r) := by
  unfold CtL
  refine body_of (by decide) "SurvivorPurseModel" rfl (Nat.le_of_ble_eq_true rfl) ?_
  intro p e s m below meth c hsz S hr hlk hP hK hN ls hl
  subst hsz
  have hS : va_S (AA ad 7 s.heap.size) s.heap s.heap [] := va_S.rf
  have hl : lv_has ls 6 [(0, .ref (ad 0)), (1, .int a1), (2, .int a2)] := hl
  rw [F_X6_about] at hf
  refine lv_aload_n S.1 S.2.1 dX6_about_0 rfl (lv_at hl 0 rfl) ?_
  refine lv_iload_n S.1 S.2.1 dX6_about_1 rfl (lv_at hl 1 rfl) ?_
  refine y_Vi (As := [.int a1]) S hK hN hP hS rfl (by decide) m0 rfl (K_X6_isClass l E ad hI _ a1  M _ rfl) (cV 1 S w_co_yX6_isClass w_in_X6 w_ml_X6_51 w_im_yX6_isClass w_se_yX6_isClass hd_X6_isClass ⟨Nat.le_of_ble_eq_true rfl, Nat.le_of_ble_eq_true rfl⟩) hl.1 rfl rfl (Nat.le_of_ble_eq_true rfl) dX6_about_2 ⟨Nat.zero_le _, Nat.zero_le _⟩ (fun H locs hP hS => ?_)
  refine lv_if_eq (tgt := 20) S.1 S.2.1 dX6_about_5 (by decide) (fun h1 => ?_) (fun h1 => ?_)
  · replace hf := ift h1 hf
    refine lv_ldc2 (own := "SurvivorPurseModel") (v := (-1000000000000000 : Int64)) S.1 S.2.1 S.2.2.2.1 (S.2.2.2.2 _ w_kl_X6_41) dX6_about_20 ?_
    cases hf
    exact r_l S hr hlk hP hS dX6_about_23
  · replace hf := iff_ h1 hf
    refine lv_iload_n S.1 S.2.1 dX6_about_8 rfl (lv_at hl 2 rfl) ?_
    refine lv_i2l (v := a2.toInt64) S.1 S.2.1 dX6_about_9 rfl ?_
    refine lv_lconst (v := (0 : Int64)) S.1 S.2.1 dX6_about_10 (by decide) ?_
    refine lv_ldc2 (own := "SurvivorPurseModel") (v := (5 : Int64)) S.1 S.2.1 S.2.2.2.1 (S.2.2.2.2 _ w_kl_X6_73) dX6_about_11 ?_
    refine y_Si (As := [.long a2.toInt64, .long (0 : Int64), .long (5 : Int64)]) S hK hN hP hS rfl (K_X6_in l E ad hI _ a2.toInt64 (0 : Int64) (5 : Int64)  M _ rfl) (cS 3 S w_co_yX6_in w_in_X6 w_ml_X6_35 w_st_yX6_in hd_X6_in ⟨Nat.le_of_ble_eq_true rfl, Nat.le_of_ble_eq_true rfl⟩) hl.1 rfl rfl (Nat.le_of_ble_eq_true rfl) dX6_about_14 ⟨Nat.zero_le _, Nat.zero_le _⟩ (fun H locs hP hS => ?_)
    refine lv_if_ne (tgt := 24) S.1 S.2.1 dX6_about_17 (by decide) (fun h2 => ?_) (fun h2 => ?_)
    · replace hf := iff_ h2 hf
      refine lv_iload_n S.1 S.2.1 dX6_about_24 rfl (lv_at hl 2 rfl) ?_
      refine lv_iconst (v := (4 : Int32)) S.1 S.2.1 dX6_about_25 (by decide) ?_
      refine lv_icmp_ge (tgt := 40) S.1 S.2.1 dX6_about_26 (by decide) (fun h3 => ?_) (fun h3 => ?_)
      · replace hf := ift h3 hf
        refine lv_lconst (v := (0 : Int64)) S.1 S.2.1 dX6_about_40 (by decide) ?_
        refine lv_lstore_n (lv' := [(3, .long (0 : Int64)), (0, .ref (ad 0)), (1, .int a1), (2, .int a2)]) S.1 S.2.1 dX6_about_41 rfl hl (by decide) rfl (fun ls hl => ?_)
        refine lv_iconst (v := (0 : Int32)) S.1 S.2.1 dX6_about_42 (by decide) ?_
        refine lv_istore (lv' := [(5, .int (0 : Int32)), (3, .long (0 : Int64)), (0, .ref (ad 0)), (1, .int a1), (2, .int a2)]) S.1 S.2.1 dX6_about_43 hl (by decide) rfl (fun ls hl => ?_)
        exact L_X6_about_45 l E ad hI N a1 a2  S hr hlk hK hN _ N (0 : Int64) (0 : Int32)  M hf _ _ _ hP hS (lv_sub hl [2, 3, 4, 1, 0] rfl)
      · replace hf := iff_ h3 hf
        refine lv_aload_n S.1 S.2.1 dX6_about_29 rfl (lv_at hl 0 rfl) ?_
        refine x_get (v := .ref (ad 1)) S hK hP w_lay_X6 (ci := 6) rfl 0 (by decide) m0 0 (by decide) w_fl_X6_7 rfl rfl dX6_about_30 ?_
        refine lv_iload_n S.1 S.2.1 dX6_about_33 rfl (lv_at hl 1 rfl) ?_
        refine lv_iload_n S.1 S.2.1 dX6_about_34 rfl (lv_at hl 2 rfl) ?_
        refine y_Si (As := [.int a1, .int a2]) S hK hN hP hS rfl (K_X6_groupCell l E ad hI _ a1 a2  M _ rfl) (cS 2 S w_co_yX6_groupCell w_in_X6 w_ml_X6_55 w_st_yX6_groupCell hd_X6_groupCell ⟨Nat.le_of_ble_eq_true rfl, Nat.le_of_ble_eq_true rfl⟩) hl.1 rfl rfl (Nat.le_of_ble_eq_true rfl) dX6_about_35 ⟨Nat.zero_le _, Nat.zero_le _⟩ (fun H locs hP hS => ?_)
        obtain ⟨h4, hf⟩ := gd_some hf
        refine x_lald S hK hP 1 (by decide) m1 h4 dX6_about_38 ?_
        cases hf
        exact r_l S hr hlk hP hS dX6_about_39
    · replace hf := ift h2 hf
      refine lv_ldc2 (own := "SurvivorPurseModel") (v := (-1000000000000000 : Int64)) S.1 S.2.1 S.2.2.2.1 (S.2.2.2.2 _ w_kl_X6_41) dX6_about_20 ?_
      cases hf
      exact r_l S hr hlk hP hS dX6_about_23
theorem hd_X6_told : yX6_told.cls ≠ "java/lang/invoke/MethodHandle" ∧ yX6_told.cls ≠ "java/lang/invoke/VarHandle" ∧ (parseMethodDescriptor yX6_told.desc).map (fun d => d.parameters.length) = some 1 := by decide +kernel
set_option maxHeartbeats 4000000 in
set_option maxRecDepth 100000 in
theorem L_X6_told_205 (l : Launch) (E : EE) (ad : Nat → Nat) (hI : ad_I ad 7) (N : Nat) (a1 : Int32)  {p : Program} {e : Env} {s : State} {m : MethodId} {below : List Frame} {meth : Method} {c : Code} (S : CallFix p m c cX6_told 5 s [.ref (ad 0), .int a1].toArray bg_B "SurvivorPurseModel") (hr : meth.sig.returnType = (some .long)) (hlk : meth.locks = false) (hK : va_K E.1 vwCl (tysE E) s) (hN : NW s) (r : Int64) : ∀ (fu : Nat) (v2 : Int64) (v4 : Int32)  (M : MM), F_X6_told_205 N a1 fu v2 v4 M = some r → ∀ (H : Heap) (locs : List Loc) (ls : Array Slot), va_P E.1 vwCl (mw (entM E ad M) ad 7) H → va_S (AA ad 7 s.heap.size) s.heap H locs → lv_has ls 5 [(0, .ref (ad 0)), (2, .long v2), (4, .int v4)] → W p l e { frames := 1, cells := 0, slots := 0, locals := 24 } s m [.ref (ad 0), .int a1].toArray below meth c H locs 0 0 (MQ below (va_Ql (fun r0 (_ : Unit) => r0 = r) (fun _ t => QB E (entM E ad M) ad 7 t) (AA ad 7 s.heap.size)) [.ref (ad 0), .int a1].toArray s 0 0 (AA ad 7 s.heap.size)) (F0 m 205 ls []) := by
  intro fu
  induction fu with
  | zero =>
    intro v2 v4 M hf
    rw [F_X6_told_205] at hf
    cases hf
  | succ fu ih =>
    intro v2 v4 M hf H locs ls hP hS hl
    rw [F_X6_told_205] at hf
    refine lv_iload S.1 S.2.1 dX6_told_205 (lv_at hl 2 rfl) ?_
    refine lv_i2l (v := v4.toInt64) S.1 S.2.1 dX6_told_207 rfl ?_
    refine lv_aload_n S.1 S.2.1 dX6_told_208 rfl (lv_at hl 0 rfl) ?_
    refine x_get (v := .ref (ad 1)) S hK hP w_lay_X6 (ci := 6) rfl 0 (by decide) m0 0 (by decide) w_fl_X6_7 rfl rfl dX6_told_209 ?_
    refine lv_sipush (v := (5668 : Int32)) S.1 S.2.1 dX6_told_212 (by decide) ?_
    refine x_laldc (j := 5668) S hK hP 1 (by decide) m1 (by decide) (by decide) dX6_told_215 ?_
    refine ll_ge (tgt := 240) S dX6_told_216 dX6_told_217 (by decide) (fun h21 => ?_) (fun h21 => ?_)
    · replace hf := ift h21 hf
      refine lv_lload_n S.1 S.2.1 dX6_told_240 rfl (lv_at hl 1 rfl) ?_
      cases hf
      exact r_l S hr hlk hP hS dX6_told_241
    · replace hf := iff_ h21 hf
      refine lv_lload_n S.1 S.2.1 dX6_told_220 rfl (lv_at hl 1 rfl) ?_
      refine lv_aload_n S.1 S.2.1 dX6_told_221 rfl (lv_at hl 0 rfl) ?_
      refine x_get (v := .ref (ad 1)) S hK hP w_lay_X6 (ci := 6) rfl 0 (by decide) m0 0 (by decide) w_fl_X6_7 rfl rfl dX6_told_222 ?_
      refine lv_iload S.1 S.2.1 dX6_told_225 (lv_at hl 2 rfl) ?_
      refine lv_iconst (v := (2 : Int32)) S.1 S.2.1 dX6_told_227 (by decide) ?_
      refine y_Si (As := [.int v4, .int (2 : Int32)]) S hK hN hP hS rfl (K_X6_cellOf l E ad hI _ v4 (2 : Int32)  M _ rfl) (cS 2 S w_co_yX6_cellOf w_in_X6 w_ml_X6_63 w_st_yX6_cellOf hd_X6_cellOf ⟨Nat.le_of_ble_eq_true rfl, Nat.le_of_ble_eq_true rfl⟩) hl.1 rfl rfl (Nat.le_of_ble_eq_true rfl) dX6_told_228 ⟨Nat.zero_le _, Nat.zero_le _⟩ (fun H locs hP hS => ?_)
      obtain ⟨h22, hf⟩ := gd_some hf
      refine x_lald S hK hP 1 (by decide) m1 h22 dX6_told_231 ?_
      refine lv_ladd S.1 S.2.1 dX6_told_232 ?_
      obtain ⟨x23, ex23, hf⟩ := bnd_some hf
      refine lv_rel ex23 ?_
      refine lv_lstore_n (lv' := [(2, .long x23), (0, .ref (ad 0)), (4, .int v4)]) S.1 S.2.1 dX6_told_233 rfl hl (by decide) rfl (fun ls hl => ?_)
      refine lv_iinc (v := v4 + (1 : Int32)) (lv' := [(4, .int (v4 + (1 : Int32))), (2, .long x23), (0, .ref (ad 0))]) S.1 S.2.1 dX6_told_234 hl (k := 2) rfl rfl (by decide) rfl (fun ls hl => ?_)
      refine lv_goto (tgt := 205) S.1 S.2.1 dX6_told_237 (by decide) ?_
      exact ih x23 (v4 + (1 : Int32))  M hf _ _ _ hP hS (lv_sub hl [2, 1, 0] rfl)
set_option maxHeartbeats 4000000 in
set_option maxRecDepth 100000 in
theorem L_X6_told_165 (l : Launch) (E : EE) (ad : Nat → Nat) (hI : ad_I ad 7) (N : Nat) (a1 : Int32)  {p : Program} {e : Env} {s : State} {m : MethodId} {below : List Frame} {meth : Method} {c : Code} (S : CallFix p m c cX6_told 5 s [.ref (ad 0), .int a1].toArray bg_B "SurvivorPurseModel") (hr : meth.sig.returnType = (some .long)) (hlk : meth.locks = false) (hK : va_K E.1 vwCl (tysE E) s) (hN : NW s) (r : Int64) : ∀ (fu : Nat) (v2 : Int64) (v4 : Int32)  (M : MM), F_X6_told_165 N a1 fu v2 v4 M = some r → ∀ (H : Heap) (locs : List Loc) (ls : Array Slot), va_P E.1 vwCl (mw (entM E ad M) ad 7) H → va_S (AA ad 7 s.heap.size) s.heap H locs → lv_has ls 5 [(0, .ref (ad 0)), (2, .long v2), (4, .int v4)] → W p l e { frames := 1, cells := 0, slots := 0, locals := 24 } s m [.ref (ad 0), .int a1].toArray below meth c H locs 0 0 (MQ below (va_Ql (fun r0 (_ : Unit) => r0 = r) (fun _ t => QB E (entM E ad M) ad 7 t) (AA ad 7 s.heap.size)) [.ref (ad 0), .int a1].toArray s 0 0 (AA ad 7 s.heap.size)) (F0 m 165 ls []) := by
  intro fu
  induction fu with
  | zero =>
    intro v2 v4 M hf
    rw [F_X6_told_165] at hf
    cases hf
  | succ fu ih =>
    intro v2 v4 M hf H locs ls hP hS hl
    rw [F_X6_told_165] at hf
    refine lv_iload S.1 S.2.1 dX6_told_165 (lv_at hl 2 rfl) ?_
    refine lv_i2l (v := v4.toInt64) S.1 S.2.1 dX6_told_167 rfl ?_
    refine lv_aload_n S.1 S.2.1 dX6_told_168 rfl (lv_at hl 0 rfl) ?_
    refine x_get (v := .ref (ad 1)) S hK hP w_lay_X6 (ci := 6) rfl 0 (by decide) m0 0 (by decide) w_fl_X6_7 rfl rfl dX6_told_169 ?_
    refine lv_sipush (v := (5669 : Int32)) S.1 S.2.1 dX6_told_172 (by decide) ?_
    refine x_laldc (j := 5669) S hK hP 1 (by decide) m1 (by decide) (by decide) dX6_told_175 ?_
    refine ll_ge (tgt := 200) S dX6_told_176 dX6_told_177 (by decide) (fun h18 => ?_) (fun h18 => ?_)
    · replace hf := ift h18 hf
      refine lv_lload_n S.1 S.2.1 dX6_told_200 rfl (lv_at hl 1 rfl) ?_
      cases hf
      exact r_l S hr hlk hP hS dX6_told_201
    · replace hf := iff_ h18 hf
      refine lv_lload_n S.1 S.2.1 dX6_told_180 rfl (lv_at hl 1 rfl) ?_
      refine lv_aload_n S.1 S.2.1 dX6_told_181 rfl (lv_at hl 0 rfl) ?_
      refine x_get (v := .ref (ad 1)) S hK hP w_lay_X6 (ci := 6) rfl 0 (by decide) m0 0 (by decide) w_fl_X6_7 rfl rfl dX6_told_182 ?_
      refine lv_iload S.1 S.2.1 dX6_told_185 (lv_at hl 2 rfl) ?_
      refine lv_iconst (v := (3 : Int32)) S.1 S.2.1 dX6_told_187 (by decide) ?_
      refine y_Si (As := [.int v4, .int (3 : Int32)]) S hK hN hP hS rfl (K_X6_groupCell l E ad hI _ v4 (3 : Int32)  M _ rfl) (cS 2 S w_co_yX6_groupCell w_in_X6 w_ml_X6_55 w_st_yX6_groupCell hd_X6_groupCell ⟨Nat.le_of_ble_eq_true rfl, Nat.le_of_ble_eq_true rfl⟩) hl.1 rfl rfl (Nat.le_of_ble_eq_true rfl) dX6_told_188 ⟨Nat.zero_le _, Nat.zero_le _⟩ (fun H locs hP hS => ?_)
      obtain ⟨h19, hf⟩ := gd_some hf
      refine x_lald S hK hP 1 (by decide) m1 h19 dX6_told_191 ?_
      refine lv_ladd S.1 S.2.1 dX6_told_192 ?_
      obtain ⟨x20, ex20, hf⟩ := bnd_some hf
      refine lv_rel ex20 ?_
      refine lv_lstore_n (lv' := [(2, .long x20), (0, .ref (ad 0)), (4, .int v4)]) S.1 S.2.1 dX6_told_193 rfl hl (by decide) rfl (fun ls hl => ?_)
      refine lv_iinc (v := v4 + (1 : Int32)) (lv' := [(4, .int (v4 + (1 : Int32))), (2, .long x20), (0, .ref (ad 0))]) S.1 S.2.1 dX6_told_194 hl (k := 2) rfl rfl (by decide) rfl (fun ls hl => ?_)
      refine lv_goto (tgt := 165) S.1 S.2.1 dX6_told_197 (by decide) ?_
      exact ih x20 (v4 + (1 : Int32))  M hf _ _ _ hP hS (lv_sub hl [2, 1, 0] rfl)
set_option maxHeartbeats 4000000 in
set_option maxRecDepth 100000 in
theorem L_X6_told_125 (l : Launch) (E : EE) (ad : Nat → Nat) (hI : ad_I ad 7) (N : Nat) (a1 : Int32)  {p : Program} {e : Env} {s : State} {m : MethodId} {below : List Frame} {meth : Method} {c : Code} (S : CallFix p m c cX6_told 5 s [.ref (ad 0), .int a1].toArray bg_B "SurvivorPurseModel") (hr : meth.sig.returnType = (some .long)) (hlk : meth.locks = false) (hK : va_K E.1 vwCl (tysE E) s) (hN : NW s) (r : Int64) : ∀ (fu : Nat) (v2 : Int64) (v4 : Int32)  (M : MM), F_X6_told_125 N a1 fu v2 v4 M = some r → ∀ (H : Heap) (locs : List Loc) (ls : Array Slot), va_P E.1 vwCl (mw (entM E ad M) ad 7) H → va_S (AA ad 7 s.heap.size) s.heap H locs → lv_has ls 5 [(0, .ref (ad 0)), (2, .long v2), (4, .int v4)] → W p l e { frames := 1, cells := 0, slots := 0, locals := 24 } s m [.ref (ad 0), .int a1].toArray below meth c H locs 0 0 (MQ below (va_Ql (fun r0 (_ : Unit) => r0 = r) (fun _ t => QB E (entM E ad M) ad 7 t) (AA ad 7 s.heap.size)) [.ref (ad 0), .int a1].toArray s 0 0 (AA ad 7 s.heap.size)) (F0 m 125 ls []) := by
  intro fu
  induction fu with
  | zero =>
    intro v2 v4 M hf
    rw [F_X6_told_125] at hf
    cases hf
  | succ fu ih =>
    intro v2 v4 M hf H locs ls hP hS hl
    rw [F_X6_told_125] at hf
    refine lv_iload S.1 S.2.1 dX6_told_125 (lv_at hl 2 rfl) ?_
    refine lv_i2l (v := v4.toInt64) S.1 S.2.1 dX6_told_127 rfl ?_
    refine lv_aload_n S.1 S.2.1 dX6_told_128 rfl (lv_at hl 0 rfl) ?_
    refine x_get (v := .ref (ad 1)) S hK hP w_lay_X6 (ci := 6) rfl 0 (by decide) m0 0 (by decide) w_fl_X6_7 rfl rfl dX6_told_129 ?_
    refine lv_sipush (v := (5668 : Int32)) S.1 S.2.1 dX6_told_132 (by decide) ?_
    refine x_laldc (j := 5668) S hK hP 1 (by decide) m1 (by decide) (by decide) dX6_told_135 ?_
    refine ll_ge (tgt := 160) S dX6_told_136 dX6_told_137 (by decide) (fun h15 => ?_) (fun h15 => ?_)
    · replace hf := ift h15 hf
      refine lv_lload_n S.1 S.2.1 dX6_told_160 rfl (lv_at hl 1 rfl) ?_
      cases hf
      exact r_l S hr hlk hP hS dX6_told_161
    · replace hf := iff_ h15 hf
      refine lv_lload_n S.1 S.2.1 dX6_told_140 rfl (lv_at hl 1 rfl) ?_
      refine lv_aload_n S.1 S.2.1 dX6_told_141 rfl (lv_at hl 0 rfl) ?_
      refine x_get (v := .ref (ad 1)) S hK hP w_lay_X6 (ci := 6) rfl 0 (by decide) m0 0 (by decide) w_fl_X6_7 rfl rfl dX6_told_142 ?_
      refine lv_iload S.1 S.2.1 dX6_told_145 (lv_at hl 2 rfl) ?_
      refine lv_iconst (v := (1 : Int32)) S.1 S.2.1 dX6_told_147 (by decide) ?_
      refine y_Si (As := [.int v4, .int (1 : Int32)]) S hK hN hP hS rfl (K_X6_cellOf l E ad hI _ v4 (1 : Int32)  M _ rfl) (cS 2 S w_co_yX6_cellOf w_in_X6 w_ml_X6_63 w_st_yX6_cellOf hd_X6_cellOf ⟨Nat.le_of_ble_eq_true rfl, Nat.le_of_ble_eq_true rfl⟩) hl.1 rfl rfl (Nat.le_of_ble_eq_true rfl) dX6_told_148 ⟨Nat.zero_le _, Nat.zero_le _⟩ (fun H locs hP hS => ?_)
      obtain ⟨h16, hf⟩ := gd_some hf
      refine x_lald S hK hP 1 (by decide) m1 h16 dX6_told_151 ?_
      refine lv_ladd S.1 S.2.1 dX6_told_152 ?_
      obtain ⟨x17, ex17, hf⟩ := bnd_some hf
      refine lv_rel ex17 ?_
      refine lv_lstore_n (lv' := [(2, .long x17), (0, .ref (ad 0)), (4, .int v4)]) S.1 S.2.1 dX6_told_153 rfl hl (by decide) rfl (fun ls hl => ?_)
      refine lv_iinc (v := v4 + (1 : Int32)) (lv' := [(4, .int (v4 + (1 : Int32))), (2, .long x17), (0, .ref (ad 0))]) S.1 S.2.1 dX6_told_154 hl (k := 2) rfl rfl (by decide) rfl (fun ls hl => ?_)
      refine lv_goto (tgt := 125) S.1 S.2.1 dX6_told_157 (by decide) ?_
      exact ih x17 (v4 + (1 : Int32))  M hf _ _ _ hP hS (lv_sub hl [2, 1, 0] rfl)
set_option maxHeartbeats 4000000 in
set_option maxRecDepth 100000 in
theorem L_X6_told_90 (l : Launch) (E : EE) (ad : Nat → Nat) (hI : ad_I ad 7) (N : Nat) (a1 : Int32)  {p : Program} {e : Env} {s : State} {m : MethodId} {below : List Frame} {meth : Method} {c : Code} (S : CallFix p m c cX6_told 5 s [.ref (ad 0), .int a1].toArray bg_B "SurvivorPurseModel") (hr : meth.sig.returnType = (some .long)) (hlk : meth.locks = false) (hK : va_K E.1 vwCl (tysE E) s) (hN : NW s) (r : Int64) : ∀ (fu : Nat) (v2 : Int64) (v4 : Int32)  (M : MM), F_X6_told_90 N a1 fu v2 v4 M = some r → ∀ (H : Heap) (locs : List Loc) (ls : Array Slot), va_P E.1 vwCl (mw (entM E ad M) ad 7) H → va_S (AA ad 7 s.heap.size) s.heap H locs → lv_has ls 5 [(0, .ref (ad 0)), (2, .long v2), (4, .int v4)] → W p l e { frames := 1, cells := 0, slots := 0, locals := 24 } s m [.ref (ad 0), .int a1].toArray below meth c H locs 0 0 (MQ below (va_Ql (fun r0 (_ : Unit) => r0 = r) (fun _ t => QB E (entM E ad M) ad 7 t) (AA ad 7 s.heap.size)) [.ref (ad 0), .int a1].toArray s 0 0 (AA ad 7 s.heap.size)) (F0 m 90 ls []) := by
  intro fu
  induction fu with
  | zero =>
    intro v2 v4 M hf
    rw [F_X6_told_90] at hf
    cases hf
  | succ fu ih =>
    intro v2 v4 M hf H locs ls hP hS hl
    rw [F_X6_told_90] at hf
    refine lv_iload S.1 S.2.1 dX6_told_90 (lv_at hl 2 rfl) ?_
    refine lv_i2l (v := v4.toInt64) S.1 S.2.1 dX6_told_92 rfl ?_
    refine lv_aload_n S.1 S.2.1 dX6_told_93 rfl (lv_at hl 0 rfl) ?_
    refine x_get (v := .ref (ad 1)) S hK hP w_lay_X6 (ci := 6) rfl 0 (by decide) m0 0 (by decide) w_fl_X6_7 rfl rfl dX6_told_94 ?_
    refine lv_sipush (v := (5670 : Int32)) S.1 S.2.1 dX6_told_97 (by decide) ?_
    refine x_laldc (j := 5670) S hK hP 1 (by decide) m1 (by decide) (by decide) dX6_told_100 ?_
    refine ll_ge (tgt := 120) S dX6_told_101 dX6_told_102 (by decide) (fun h12 => ?_) (fun h12 => ?_)
    · replace hf := ift h12 hf
      refine lv_lload_n S.1 S.2.1 dX6_told_120 rfl (lv_at hl 1 rfl) ?_
      cases hf
      exact r_l S hr hlk hP hS dX6_told_121
    · replace hf := iff_ h12 hf
      refine lv_lload_n S.1 S.2.1 dX6_told_105 rfl (lv_at hl 1 rfl) ?_
      refine lv_aload_n S.1 S.2.1 dX6_told_106 rfl (lv_at hl 0 rfl) ?_
      refine lv_iload S.1 S.2.1 dX6_told_107 (lv_at hl 2 rfl) ?_
      obtain ⟨x13, gx13, hf⟩ := bn1_some hf
      refine y_Vl (As := [.int v4]) S hK hN hP hS rfl (by decide) m0 rfl (K_X6_heldBy l E ad hI _ N v4  M x13 gx13) (cV 1 S w_co_yX6_heldBy w_in_X6 w_ml_X6_114 w_im_yX6_heldBy w_se_yX6_heldBy hd_X6_heldBy ⟨Nat.le_of_ble_eq_true rfl, Nat.le_of_ble_eq_true rfl⟩) hl.1 rfl rfl (Nat.le_of_ble_eq_true rfl) dX6_told_109 ⟨Nat.zero_le _, Nat.zero_le _⟩ (fun H locs hP hS => ?_)
      refine lv_ladd S.1 S.2.1 dX6_told_112 ?_
      obtain ⟨x14, ex14, hf⟩ := bnd_some hf
      refine lv_rel ex14 ?_
      refine lv_lstore_n (lv' := [(2, .long x14), (0, .ref (ad 0)), (4, .int v4)]) S.1 S.2.1 dX6_told_113 rfl hl (by decide) rfl (fun ls hl => ?_)
      refine lv_iinc (v := v4 + (1 : Int32)) (lv' := [(4, .int (v4 + (1 : Int32))), (2, .long x14), (0, .ref (ad 0))]) S.1 S.2.1 dX6_told_114 hl (k := 2) rfl rfl (by decide) rfl (fun ls hl => ?_)
      refine lv_goto (tgt := 90) S.1 S.2.1 dX6_told_117 (by decide) ?_
      exact ih x14 (v4 + (1 : Int32))  M hf _ _ _ hP hS (lv_sub hl [2, 1, 0] rfl)
set_option maxHeartbeats 4000000 in
set_option maxRecDepth 100000 in
theorem K_X6_told (l : Launch) (E : EE) (ad : Nat → Nat) (hI : ad_I ad 7) (sz : Nat) (N : Nat) (a1 : Int32)  (M : MM) (r : Int64) (hf : F_X6_told N a1 M = some r) : CtL l yX6_told cX6_told 5 1 24 E (entM E ad M) (entM E ad M) ad 7 sz [.ref (ad 0), .int a1] (r) := by
  unfold CtL
  refine body_of (by decide) "SurvivorPurseModel" rfl (Nat.le_of_ble_eq_true rfl) ?_
  intro p e s m below meth c hsz S hr hlk hP hK hN ls hl
  subst hsz
  have hS : va_S (AA ad 7 s.heap.size) s.heap s.heap [] := va_S.rf
  have hl : lv_has ls 5 [(0, .ref (ad 0)), (1, .int a1)] := hl
  rw [F_X6_told] at hf
  refine lv_lconst (v := (0 : Int64)) S.1 S.2.1 dX6_told_0 (by decide) ?_
  refine lv_lstore_n (lv' := [(2, .long (0 : Int64)), (0, .ref (ad 0)), (1, .int a1)]) S.1 S.2.1 dX6_told_1 rfl hl (by decide) rfl (fun ls hl => ?_)
  refine lv_iload_n S.1 S.2.1 dX6_told_2 rfl (lv_at hl 2 rfl) ?_
  by_cases h1 : a1 = (0 : Int32)
  · replace hf := ift h1 hf
    refine lv_tableIn (tgt := 60) (off := 57) S.1 S.2.1 dX6_told_3 (by rw [h1]; decide) (by rw [h1]; decide) (by rw [h1]; rfl) (by decide) ?_
    refine lv_aload_n S.1 S.2.1 dX6_told_60 rfl (lv_at hl 1 rfl) ?_
    refine x_get (v := .ref (ad 1)) S hK hP w_lay_X6 (ci := 6) rfl 0 (by decide) m0 0 (by decide) w_fl_X6_7 rfl rfl dX6_told_61 ?_
    refine lv_sipush (v := (5663 : Int32)) S.1 S.2.1 dX6_told_64 (by decide) ?_
    refine x_laldc (j := 5663) S hK hP 1 (by decide) m1 (by decide) (by decide) dX6_told_67 ?_
    cases hf
    exact r_l S hr hlk hP hS dX6_told_68
  · replace hf := iff_ h1 hf
    by_cases h2 : a1 = (1 : Int32)
    · replace hf := ift h2 hf
      refine lv_tableIn (tgt := 69) (off := 66) S.1 S.2.1 dX6_told_3 (by rw [h2]; decide) (by rw [h2]; decide) (by rw [h2]; rfl) (by decide) ?_
      refine lv_aload_n S.1 S.2.1 dX6_told_69 rfl (lv_at hl 1 rfl) ?_
      refine x_get (v := .ref (ad 1)) S hK hP w_lay_X6 (ci := 6) rfl 0 (by decide) m0 0 (by decide) w_fl_X6_7 rfl rfl dX6_told_70 ?_
      refine lv_sipush (v := (5664 : Int32)) S.1 S.2.1 dX6_told_73 (by decide) ?_
      refine x_laldc (j := 5664) S hK hP 1 (by decide) m1 (by decide) (by decide) dX6_told_76 ?_
      cases hf
      exact r_l S hr hlk hP hS dX6_told_77
    · replace hf := iff_ h2 hf
      by_cases h3 : a1 = (2 : Int32)
      · replace hf := ift h3 hf
        refine lv_tableIn (tgt := 78) (off := 75) S.1 S.2.1 dX6_told_3 (by rw [h3]; decide) (by rw [h3]; decide) (by rw [h3]; rfl) (by decide) ?_
        refine lv_aload_n S.1 S.2.1 dX6_told_78 rfl (lv_at hl 1 rfl) ?_
        refine x_get (v := .ref (ad 1)) S hK hP w_lay_X6 (ci := 6) rfl 0 (by decide) m0 0 (by decide) w_fl_X6_7 rfl rfl dX6_told_79 ?_
        refine lv_sipush (v := (5665 : Int32)) S.1 S.2.1 dX6_told_82 (by decide) ?_
        refine x_laldc (j := 5665) S hK hP 1 (by decide) m1 (by decide) (by decide) dX6_told_85 ?_
        cases hf
        exact r_l S hr hlk hP hS dX6_told_86
      · replace hf := iff_ h3 hf
        by_cases h4 : a1 = (3 : Int32)
        · replace hf := ift h4 hf
          refine lv_tableIn (tgt := 87) (off := 84) S.1 S.2.1 dX6_told_3 (by rw [h4]; decide) (by rw [h4]; decide) (by rw [h4]; rfl) (by decide) ?_
          refine lv_iconst (v := (0 : Int32)) S.1 S.2.1 dX6_told_87 (by decide) ?_
          refine lv_istore (lv' := [(4, .int (0 : Int32)), (2, .long (0 : Int64)), (0, .ref (ad 0)), (1, .int a1)]) S.1 S.2.1 dX6_told_88 hl (by decide) rfl (fun ls hl => ?_)
          exact L_X6_told_90 l E ad hI N a1  S hr hlk hK hN _ N (0 : Int64) (0 : Int32)  M hf _ _ _ hP hS (lv_sub hl [2, 1, 0] rfl)
        · replace hf := iff_ h4 hf
          by_cases h5 : a1 = (4 : Int32)
          · replace hf := ift h5 hf
            refine lv_tableIn (tgt := 122) (off := 119) S.1 S.2.1 dX6_told_3 (by rw [h5]; decide) (by rw [h5]; decide) (by rw [h5]; rfl) (by decide) ?_
            refine lv_iconst (v := (0 : Int32)) S.1 S.2.1 dX6_told_122 (by decide) ?_
            refine lv_istore (lv' := [(4, .int (0 : Int32)), (2, .long (0 : Int64)), (0, .ref (ad 0)), (1, .int a1)]) S.1 S.2.1 dX6_told_123 hl (by decide) rfl (fun ls hl => ?_)
            exact L_X6_told_125 l E ad hI N a1  S hr hlk hK hN _ N (0 : Int64) (0 : Int32)  M hf _ _ _ hP hS (lv_sub hl [2, 1, 0] rfl)
          · replace hf := iff_ h5 hf
            by_cases h6 : a1 = (5 : Int32)
            · replace hf := ift h6 hf
              refine lv_tableIn (tgt := 162) (off := 159) S.1 S.2.1 dX6_told_3 (by rw [h6]; decide) (by rw [h6]; decide) (by rw [h6]; rfl) (by decide) ?_
              refine lv_iconst (v := (0 : Int32)) S.1 S.2.1 dX6_told_162 (by decide) ?_
              refine lv_istore (lv' := [(4, .int (0 : Int32)), (2, .long (0 : Int64)), (0, .ref (ad 0)), (1, .int a1)]) S.1 S.2.1 dX6_told_163 hl (by decide) rfl (fun ls hl => ?_)
              exact L_X6_told_165 l E ad hI N a1  S hr hlk hK hN _ N (0 : Int64) (0 : Int32)  M hf _ _ _ hP hS (lv_sub hl [2, 1, 0] rfl)
            · replace hf := iff_ h6 hf
              by_cases h7 : a1 = (6 : Int32)
              · replace hf := ift h7 hf
                refine lv_tableIn (tgt := 202) (off := 199) S.1 S.2.1 dX6_told_3 (by rw [h7]; decide) (by rw [h7]; decide) (by rw [h7]; rfl) (by decide) ?_
                refine lv_iconst (v := (0 : Int32)) S.1 S.2.1 dX6_told_202 (by decide) ?_
                refine lv_istore (lv' := [(4, .int (0 : Int32)), (2, .long (0 : Int64)), (0, .ref (ad 0)), (1, .int a1)]) S.1 S.2.1 dX6_told_203 hl (by decide) rfl (fun ls hl => ?_)
                exact L_X6_told_205 l E ad hI N a1  S hr hlk hK hN _ N (0 : Int64) (0 : Int32)  M hf _ _ _ hP hS (lv_sub hl [2, 1, 0] rfl)
              · replace hf := iff_ h7 hf
                by_cases h8 : a1 = (7 : Int32)
                · replace hf := ift h8 hf
                  refine lv_tableIn (tgt := 242) (off := 239) S.1 S.2.1 dX6_told_3 (by rw [h8]; decide) (by rw [h8]; decide) (by rw [h8]; rfl) (by decide) ?_
                  refine lv_aload_n S.1 S.2.1 dX6_told_242 rfl (lv_at hl 1 rfl) ?_
                  refine x_get (v := .ref (ad 1)) S hK hP w_lay_X6 (ci := 6) rfl 0 (by decide) m0 0 (by decide) w_fl_X6_7 rfl rfl dX6_told_243 ?_
                  refine lv_sipush (v := (5671 : Int32)) S.1 S.2.1 dX6_told_246 (by decide) ?_
                  refine x_laldc (j := 5671) S hK hP 1 (by decide) m1 (by decide) (by decide) dX6_told_249 ?_
                  cases hf
                  exact r_l S hr hlk hP hS dX6_told_250
                · replace hf := iff_ h8 hf
                  by_cases h9 : a1 = (8 : Int32)
                  · replace hf := ift h9 hf
                    refine lv_tableIn (tgt := 251) (off := 248) S.1 S.2.1 dX6_told_3 (by rw [h9]; decide) (by rw [h9]; decide) (by rw [h9]; rfl) (by decide) ?_
                    refine lv_aload_n S.1 S.2.1 dX6_told_251 rfl (lv_at hl 1 rfl) ?_
                    refine x_get (v := .ref (ad 1)) S hK hP w_lay_X6 (ci := 6) rfl 0 (by decide) m0 0 (by decide) w_fl_X6_7 rfl rfl dX6_told_252 ?_
                    refine lv_sipush (v := (5668 : Int32)) S.1 S.2.1 dX6_told_255 (by decide) ?_
                    refine x_laldc (j := 5668) S hK hP 1 (by decide) m1 (by decide) (by decide) dX6_told_258 ?_
                    cases hf
                    exact r_l S hr hlk hP hS dX6_told_259
                  · replace hf := iff_ h9 hf
                    by_cases h10 : a1 = (9 : Int32)
                    · replace hf := ift h10 hf
                      refine lv_tableIn (tgt := 260) (off := 257) S.1 S.2.1 dX6_told_3 (by rw [h10]; decide) (by rw [h10]; decide) (by rw [h10]; rfl) (by decide) ?_
                      refine lv_aload_n S.1 S.2.1 dX6_told_260 rfl (lv_at hl 1 rfl) ?_
                      refine x_get (v := .ref (ad 1)) S hK hP w_lay_X6 (ci := 6) rfl 0 (by decide) m0 0 (by decide) w_fl_X6_7 rfl rfl dX6_told_261 ?_
                      refine lv_sipush (v := (5669 : Int32)) S.1 S.2.1 dX6_told_264 (by decide) ?_
                      refine x_laldc (j := 5669) S hK hP 1 (by decide) m1 (by decide) (by decide) dX6_told_267 ?_
                      cases hf
                      exact r_l S hr hlk hP hS dX6_told_268
                    · replace hf := iff_ h10 hf
                      by_cases h11 : a1 = (10 : Int32)
                      · replace hf := ift h11 hf
                        refine lv_tableIn (tgt := 269) (off := 266) S.1 S.2.1 dX6_told_3 (by rw [h11]; decide) (by rw [h11]; decide) (by rw [h11]; rfl) (by decide) ?_
                        refine lv_aload_n S.1 S.2.1 dX6_told_269 rfl (lv_at hl 1 rfl) ?_
                        refine x_get (v := .ref (ad 1)) S hK hP w_lay_X6 (ci := 6) rfl 0 (by decide) m0 0 (by decide) w_fl_X6_7 rfl rfl dX6_told_270 ?_
                        refine lv_sipush (v := (5670 : Int32)) S.1 S.2.1 dX6_told_273 (by decide) ?_
                        refine x_laldc (j := 5670) S hK hP 1 (by decide) m1 (by decide) (by decide) dX6_told_276 ?_
                        cases hf
                        exact r_l S hr hlk hP hS dX6_told_277
                      · replace hf := iff_ h11 hf
                        refine lv_tableOut (tgt := 278) S.1 S.2.1 dX6_told_3 (by have q0 := swn h1 (show ((0 : Int32) : Int32).toInt = 0 from rfl); have q1 := swn h2 (show ((1 : Int32) : Int32).toInt = 1 from rfl); have q2 := swn h3 (show ((2 : Int32) : Int32).toInt = 2 from rfl); have q3 := swn h4 (show ((3 : Int32) : Int32).toInt = 3 from rfl); have q4 := swn h5 (show ((4 : Int32) : Int32).toInt = 4 from rfl); have q5 := swn h6 (show ((5 : Int32) : Int32).toInt = 5 from rfl); have q6 := swn h7 (show ((6 : Int32) : Int32).toInt = 6 from rfl); have q7 := swn h8 (show ((7 : Int32) : Int32).toInt = 7 from rfl); have q8 := swn h9 (show ((8 : Int32) : Int32).toInt = 8 from rfl); have q9 := swn h10 (show ((9 : Int32) : Int32).toInt = 9 from rfl); have q10 := swn h11 (show ((10 : Int32) : Int32).toInt = 10 from rfl); omega) (by decide) ?_
                        refine lv_ldc2 (own := "SurvivorPurseModel") (v := (-1000000000000000 : Int64)) S.1 S.2.1 S.2.2.2.1 (S.2.2.2.2 _ w_kl_X6_41) dX6_told_278 ?_
                        cases hf
                        exact r_l S hr hlk hP hS dX6_told_281

def F_X6_set_33 (N : Nat) (a1 : Int32) (a2 : Int32)  (M : MM) : Option (Int64 × MM) :=
    if a1 = (0 : Int32) then
      bnd (gL M 1 5666) (fun x8 =>
      bnd (sL M 1 5666 a2.toInt64) (fun M9 =>
      some (x8, M9)
      ))
    else
      bnd (gL M 1 5667) (fun x10 =>
      bnd (sL M 1 5667 a2.toInt64) (fun M11 =>
      some (x10, M11)
      ))
def F_X6_set (N : Nat) (a1 : Int32) (a2 : Int32) (M : MM) : Option (Int64 × MM) :=
  if a1 = (0 : Int32) then
    if bI (F_X6_in a2.toInt64 (1 : Int64) (5 : Int64)) = (0 : Int32) then
      if a1 = (1 : Int32) then
        if bI (F_X6_in a2.toInt64 (0 : Int64) (1000 : Int64)) = (0 : Int32) then
          some ((-1000000000000000 : Int64), M)
        else
          F_X6_set_33 N a1 a2   M
      else
        some ((-1000000000000000 : Int64), M)
    else
      F_X6_set_33 N a1 a2   M
  else
    if a1 = (1 : Int32) then
      if bI (F_X6_in a2.toInt64 (0 : Int64) (1000 : Int64)) = (0 : Int32) then
        some ((-1000000000000000 : Int64), M)
      else
        F_X6_set_33 N a1 a2   M
    else
      some ((-1000000000000000 : Int64), M)
def F_X6_isDead (N : Nat) (a1 : Int64) (M : MM) : Option Bool :=
  gd (ib (F_X6_cellOf a1.toInt32 (5 : Int32)) 5672) (
  if gL M 1 (ix (F_X6_cellOf a1.toInt32 (5 : Int32))) = (1 : Int64) then
    some true
  else
    some false
  )
def F_X6_classFor_2 (N : Nat) (a1 : Int64) : Nat → Int32 → MM → Option Int32
  | 0, _, _ => none
  | fu + 1, v3, M =>
    if gL M 1 5669 ≤ v3.toInt64 then
      some (-1 : Int32)
    else
      gd (ib (F_X6_groupCell v3 (0 : Int32)) 5672) (
      gd (ib (F_X6_groupCell v3 (1 : Int32)) 5672) (
      if bI (F_X6_in a1 (gL M 1 (ix (F_X6_groupCell v3 (0 : Int32)))) (gL M 1 (ix (F_X6_groupCell v3 (1 : Int32))))) = (0 : Int32) then
        F_X6_classFor_2 N a1 fu (v3 + (1 : Int32)) M
      else
        some v3
      ))
def F_X6_classFor (N : Nat) (a1 : Int64) (M : MM) : Option Int32 :=
  F_X6_classFor_2 N a1 N (0 : Int32) M
def F_X6_buy_236 (N : Nat) (a1 : Int32) (a2 : Int32) (a3 : Int32) (a4 : Int32) (a5 : Int32) (a6 : Int32) : Nat → Int32 → Int32 → Int32 → MM → Option (Int64 × MM)
  | 0, _, _, _, _ => none
  | fu + 1, v9, v10, v11, M =>
    if (60 : Int32) ≤ v11 then
      gd (ib (F_X6_groupCell v9 (2 : Int32)) 5672) (
      bnd (a4.toInt64 * (gL M 1 (ix (F_X6_groupCell v9 (2 : Int32))))) (fun x31 =>
      gd (ib (F_X6_part v10 (0 : Int32)) 5672) (
      bnd (sL M 1 (ix (F_X6_part v10 (0 : Int32))) a1.toInt64) (fun M33 =>
      gd (ib (F_X6_part v10 (1 : Int32)) 5672) (
      bnd (sL M33 1 (ix (F_X6_part v10 (1 : Int32))) a2.toInt64) (fun M35 =>
      if a5 = (1 : Int32) then
        gd (ib (F_X6_part v10 (2 : Int32)) 5672) (
        bnd (sL M35 1 (ix (F_X6_part v10 (2 : Int32))) a3.toInt64) (fun M38 =>
        gd (ib (F_X6_part v10 (3 : Int32)) 5672) (
        bnd (sL M38 1 (ix (F_X6_part v10 (3 : Int32))) a4.toInt64) (fun M40 =>
        gd (ib (F_X6_part v10 (4 : Int32)) 5672) (
        bnd (sL M40 1 (ix (F_X6_part v10 (4 : Int32))) v9.toInt64) (fun M42 =>
        gd (ib (F_X6_part v10 (5 : Int32)) 5672) (
        bnd (sL M42 1 (ix (F_X6_part v10 (5 : Int32))) a5.toInt64) (fun M44 =>
        gd (ib (F_X6_part v10 (6 : Int32)) 5672) (
        bnd (sL M44 1 (ix (F_X6_part v10 (6 : Int32))) x31) (fun M46 =>
        gd (ib (F_X6_part v10 (8 : Int32)) 5672) (
        bnd (sL M46 1 (ix (F_X6_part v10 (8 : Int32))) (gL M46 1 5663)) (fun M48 =>
        if a5 ≤ (1 : Int32) then
          gd (ib (F_X6_part v10 (9 : Int32)) 5672) (
          bnd (sL M48 1 (ix (F_X6_part v10 (9 : Int32))) (0 : Int64)) (fun M51 =>
          gd (ib (F_X6_groupCell v9 (3 : Int32)) 5672) (
          bnd (sL M51 1 (ix (F_X6_groupCell v9 (3 : Int32))) ((gL M51 1 (ix (F_X6_groupCell v9 (3 : Int32)))) + x31)) (fun M53 =>
          bnd (sL M53 1 5671 ((gL M53 1 5671) + x31)) (fun M54 =>
          bnd (sL M54 1 5670 ((gL M54 1 5670) + (1 : Int64))) (fun M55 =>
          some (v10.toInt64, M55)
          ))))))
        else
          gd (ib (F_X6_part v10 (9 : Int32)) 5672) (
          bnd (sL M48 1 (ix (F_X6_part v10 (9 : Int32))) a6.toInt64) (fun M57 =>
          gd (ib (F_X6_groupCell v9 (3 : Int32)) 5672) (
          bnd (sL M57 1 (ix (F_X6_groupCell v9 (3 : Int32))) ((gL M57 1 (ix (F_X6_groupCell v9 (3 : Int32)))) + x31)) (fun M59 =>
          bnd (sL M59 1 5671 ((gL M59 1 5671) + x31)) (fun M60 =>
          bnd (sL M60 1 5670 ((gL M60 1 5670) + (1 : Int64))) (fun M61 =>
          some (v10.toInt64, M61)
          ))))))
        ))))))))))))
      else
        gd (ib (F_X6_part v10 (2 : Int32)) 5672) (
        bnd (sL M35 1 (ix (F_X6_part v10 (2 : Int32))) (-1 : Int64)) (fun M63 =>
        gd (ib (F_X6_part v10 (3 : Int32)) 5672) (
        bnd (sL M63 1 (ix (F_X6_part v10 (3 : Int32))) a4.toInt64) (fun M65 =>
        gd (ib (F_X6_part v10 (4 : Int32)) 5672) (
        bnd (sL M65 1 (ix (F_X6_part v10 (4 : Int32))) v9.toInt64) (fun M67 =>
        gd (ib (F_X6_part v10 (5 : Int32)) 5672) (
        bnd (sL M67 1 (ix (F_X6_part v10 (5 : Int32))) a5.toInt64) (fun M69 =>
        gd (ib (F_X6_part v10 (6 : Int32)) 5672) (
        bnd (sL M69 1 (ix (F_X6_part v10 (6 : Int32))) x31) (fun M71 =>
        gd (ib (F_X6_part v10 (8 : Int32)) 5672) (
        bnd (sL M71 1 (ix (F_X6_part v10 (8 : Int32))) (gL M71 1 5663)) (fun M73 =>
        if a5 ≤ (1 : Int32) then
          gd (ib (F_X6_part v10 (9 : Int32)) 5672) (
          bnd (sL M73 1 (ix (F_X6_part v10 (9 : Int32))) (0 : Int64)) (fun M76 =>
          gd (ib (F_X6_groupCell v9 (3 : Int32)) 5672) (
          bnd (sL M76 1 (ix (F_X6_groupCell v9 (3 : Int32))) ((gL M76 1 (ix (F_X6_groupCell v9 (3 : Int32)))) + x31)) (fun M78 =>
          bnd (sL M78 1 5671 ((gL M78 1 5671) + x31)) (fun M79 =>
          bnd (sL M79 1 5670 ((gL M79 1 5670) + (1 : Int64))) (fun M80 =>
          some (v10.toInt64, M80)
          ))))))
        else
          gd (ib (F_X6_part v10 (9 : Int32)) 5672) (
          bnd (sL M73 1 (ix (F_X6_part v10 (9 : Int32))) a6.toInt64) (fun M82 =>
          gd (ib (F_X6_groupCell v9 (3 : Int32)) 5672) (
          bnd (sL M82 1 (ix (F_X6_groupCell v9 (3 : Int32))) ((gL M82 1 (ix (F_X6_groupCell v9 (3 : Int32)))) + x31)) (fun M84 =>
          bnd (sL M84 1 5671 ((gL M84 1 5671) + x31)) (fun M85 =>
          bnd (sL M85 1 5670 ((gL M85 1 5670) + (1 : Int64))) (fun M86 =>
          some (v10.toInt64, M86)
          ))))))
        ))))))))))))
      ))))))
    else
      gd (ib (((863 : Int32) + ((60 : Int32) * v10)) + v11) 5672) (
      bnd (sL M 1 (ix (((863 : Int32) + ((60 : Int32) * v10)) + v11)) (0 : Int64)) (fun M88 =>
      gd (ib (((3263 : Int32) + ((60 : Int32) * v10)) + v11) 5672) (
      bnd (sL M88 1 (ix (((3263 : Int32) + ((60 : Int32) * v10)) + v11)) (0 : Int64)) (fun M90 =>
      F_X6_buy_236 N a1 a2 a3 a4 a5 a6 fu v9 v10 (v11 + (1 : Int32)) M90
      ))))
def F_X6_buy_207 (N : Nat) (a1 : Int32) (a2 : Int32) (a3 : Int32) (a4 : Int32) (a5 : Int32) (a6 : Int32) : Nat → Int32 → Int32 → Int32 → MM → Option (Int64 × MM)
  | 0, _, _, _, _ => none
  | fu + 1, v9, v10, v11, M =>
    if (14 : Int32) ≤ v11 then
      F_X6_buy_236 N a1 a2 a3 a4 a5 a6 N v9 v10 (0 : Int32) M
    else
      gd (ib (F_X6_part v10 v11) 5672) (
      bnd (sL M 1 (ix (F_X6_part v10 v11)) (0 : Int64)) (fun M28 =>
      F_X6_buy_207 N a1 a2 a3 a4 a5 a6 fu v9 v10 (v11 + (1 : Int32)) M28
      ))
def F_X6_buy_152 (N : Nat) (a1 : Int32) (a2 : Int32) (a3 : Int32) (a4 : Int32) (a5 : Int32) (a6 : Int32) (v7 : Int64) (M : MM) : Option (Int64 × MM) :=
    bn1 (F_X6_classFor N ((gL M 1 5663) - v7) M) (fun x22 =>
    if x22 < (0 : Int32) then
      some ((-1000000000000000 : Int64), M)
    else
      if gL M 1 5670 = (40 : Int64) then
        some ((-1000000000000000 : Int64), M)
      else
        bnd ((gL M 1 5670).toInt32) (fun x25 =>
        F_X6_buy_207 N a1 a2 a3 a4 a5 a6 N x22 x25 (0 : Int32) M
        )
    )
def F_X6_buy_106 (N : Nat) (a1 : Int32) (a2 : Int32) (a3 : Int32) (a4 : Int32) (a5 : Int32) (a6 : Int32)  (M : MM) : Option (Int64 × MM) :=
    gd (ib (F_X6_cellOf a2 (0 : Int32)) 5672) (
    bnd (gL M 1 (ix (F_X6_cellOf a2 (0 : Int32)))) (fun x17 =>
    if a5 = (1 : Int32) then
      gd (ib (F_X6_cellOf a3 (0 : Int32)) 5672) (
      if gL M 1 (ix (F_X6_cellOf a3 (0 : Int32))) ≤ x17 then
        F_X6_buy_152 N a1 a2 a3 a4 a5 a6  x17 M
      else
        bnd (gL M 1 (ix (F_X6_cellOf a3 (0 : Int32)))) (fun x21 =>
        F_X6_buy_152 N a1 a2 a3 a4 a5 a6  x21 M
        )
      )
    else
      F_X6_buy_152 N a1 a2 a3 a4 a5 a6  x17 M
    ))
def F_X6_buy (N : Nat) (a1 : Int32) (a2 : Int32) (a3 : Int32) (a4 : Int32) (a5 : Int32) (a6 : Int32) (M : MM) : Option (Int64 × MM) :=
  if bI (F_X6_isMember a1 M) = (0 : Int32) then
    some ((-1000000000000000 : Int64), M)
  else
    if bI (F_X6_isMember a2 M) = (0 : Int32) then
      some ((-1000000000000000 : Int64), M)
    else
      bn1 (F_X6_isDead N a2.toInt64 M) (fun x3 =>
      if bI x3 = (0 : Int32) then
        if bI (F_X6_in a5.toInt64 (0 : Int64) (3 : Int64)) = (0 : Int32) then
          some ((-1000000000000000 : Int64), M)
        else
          if bI (F_X6_in a4.toInt64 (1 : Int64) (1000 : Int64)) = (0 : Int32) then
            some ((-1000000000000000 : Int64), M)
          else
            if a5 = (1 : Int32) then
              if bI (F_X6_isMember a3 M) = (0 : Int32) then
                some ((-1000000000000000 : Int64), M)
              else
                if a3 = a2 then
                  some ((-1000000000000000 : Int64), M)
                else
                  bn1 (F_X6_isDead N a3.toInt64 M) (fun x10 =>
                  if bI x10 = (0 : Int32) then
                    if a5 ≤ (1 : Int32) then
                      F_X6_buy_106 N a1 a2 a3 a4 a5 a6   M
                    else
                      if bI (F_X6_in a6.toInt64 (1 : Int64) (30 : Int64)) = (0 : Int32) then
                        some ((-1000000000000000 : Int64), M)
                      else
                        F_X6_buy_106 N a1 a2 a3 a4 a5 a6   M
                  else
                    some ((-1000000000000000 : Int64), M)
                  )
            else
              if a5 ≤ (1 : Int32) then
                F_X6_buy_106 N a1 a2 a3 a4 a5 a6   M
              else
                if bI (F_X6_in a6.toInt64 (1 : Int64) (30 : Int64)) = (0 : Int32) then
                  some ((-1000000000000000 : Int64), M)
                else
                  F_X6_buy_106 N a1 a2 a3 a4 a5 a6   M
      else
        some ((-1000000000000000 : Int64), M)
      )
def F_X6_sell (N : Nat) (a1 : Int32) (a2 : Int32) (M : MM) : Option (Int64 × MM) :=
  if bI (F_X6_isShare a1 M) = (0 : Int32) then
    some ((-1000000000000000 : Int64), M)
  else
    if bI (F_X6_isMember a2 M) = (0 : Int32) then
      some ((-1000000000000000 : Int64), M)
    else
      gd (ib (F_X6_part a1 (0 : Int32)) 5672) (
      bnd (gL M 1 (ix (F_X6_part a1 (0 : Int32)))) (fun x4 =>
      bnd (sL M 1 (ix (F_X6_part a1 (0 : Int32))) a2.toInt64) (fun M5 =>
      some (x4, M5)
      )))
def F_X6_parts (N : Nat) (a1 : Int32) (a2 : Int32) (a3 : Int64) (a4 : Int64) (M : MM) : Option MM :=
  gd (ib a1 5672) (
  gd (nz a4) (
  bnd (((gL M 1 (ix a1)) * a3) / a4) (fun x3 =>
  gd (ib a2 5672) (
  bnd (sL M 1 (ix a2) x3) (fun M5 =>
  bnd (sL M5 1 (ix a1) ((gL M5 1 (ix a1)) - x3)) (fun M6 =>
  some M6
  ))))))
def F_X6_split_171 (N : Nat) (a1 : Int32) (a2 : Int32) : Nat → Int32 → Int64 → Int32 → MM → Option (Int64 × MM)
  | 0, _, _, _, _ => none
  | fu + 1, v3, v4, v6, M =>
    if (60 : Int32) ≤ v6 then
      gd (ib (F_X6_part v3 (3 : Int32)) 5672) (
      bnd (sL M 1 (ix (F_X6_part v3 (3 : Int32))) a2.toInt64) (fun M16 =>
      gd (ib (F_X6_part a1 (3 : Int32)) 5672) (
      bnd (sL M16 1 (ix (F_X6_part a1 (3 : Int32))) (v4 - a2.toInt64)) (fun M18 =>
      bnd (sL M18 1 5670 ((gL M18 1 5670) + (1 : Int64))) (fun M19 =>
      some (v3.toInt64, M19)
      )))))
    else
      bn1 (F_X6_parts N (((863 : Int32) + ((60 : Int32) * a1)) + v6) (((863 : Int32) + ((60 : Int32) * v3)) + v6) a2.toInt64 v4 M) (fun M20 =>
      bn1 (F_X6_parts N (((3263 : Int32) + ((60 : Int32) * a1)) + v6) (((3263 : Int32) + ((60 : Int32) * v3)) + v6) a2.toInt64 v4 M20) (fun M21 =>
      F_X6_split_171 N a1 a2 fu v3 v4 (v6 + (1 : Int32)) M21
      ))
def F_X6_split_73 (N : Nat) (a1 : Int32) (a2 : Int32) : Nat → Int32 → Int64 → Int32 → MM → Option (Int64 × MM)
  | 0, _, _, _, _ => none
  | fu + 1, v3, v4, v6, M =>
    if (14 : Int32) ≤ v6 then
      bn1 (F_X6_parts N (F_X6_part a1 (6 : Int32)) (F_X6_part v3 (6 : Int32)) a2.toInt64 v4 M) (fun M8 =>
      bn1 (F_X6_parts N (F_X6_part a1 (7 : Int32)) (F_X6_part v3 (7 : Int32)) a2.toInt64 v4 M8) (fun M9 =>
      bn1 (F_X6_parts N (F_X6_part a1 (12 : Int32)) (F_X6_part v3 (12 : Int32)) a2.toInt64 v4 M9) (fun M10 =>
      F_X6_split_171 N a1 a2 N v3 v4 (0 : Int32) M10
      )))
    else
      gd (ib (F_X6_part a1 v6) 5672) (
      gd (ib (F_X6_part v3 v6) 5672) (
      bnd (sL M 1 (ix (F_X6_part v3 v6)) (gL M 1 (ix (F_X6_part a1 v6)))) (fun M13 =>
      F_X6_split_73 N a1 a2 fu v3 v4 (v6 + (1 : Int32)) M13
      )))
def F_X6_split (N : Nat) (a1 : Int32) (a2 : Int32) (M : MM) : Option (Int64 × MM) :=
  if bI (F_X6_isShare a1 M) = (0 : Int32) then
    some ((-1000000000000000 : Int64), M)
  else
    gd (ib (F_X6_part a1 (3 : Int32)) 5672) (
    if bI (F_X6_in a2.toInt64 (1 : Int64) ((gL M 1 (ix (F_X6_part a1 (3 : Int32)))) - (1 : Int64))) = (0 : Int32) then
      some ((-1000000000000000 : Int64), M)
    else
      if gL M 1 5670 = (40 : Int64) then
        some ((-1000000000000000 : Int64), M)
      else
        bnd ((gL M 1 5670).toInt32) (fun x5 =>
        bnd (gL M 1 (ix (F_X6_part a1 (3 : Int32)))) (fun x6 =>
        F_X6_split_73 N a1 a2 N x5 x6 (0 : Int32) M
        ))
    )
theorem hd_X6_set : yX6_set.cls ≠ "java/lang/invoke/MethodHandle" ∧ yX6_set.cls ≠ "java/lang/invoke/VarHandle" ∧ (parseMethodDescriptor yX6_set.desc).map (fun d => d.parameters.length) = some 2 := by decide +kernel
set_option maxHeartbeats 4000000 in
set_option maxRecDepth 100000 in
theorem L_X6_set_33 (l : Launch) (E : EE) (ad : Nat → Nat) (hI : ad_I ad 7) (N : Nat) (a1 : Int32) (a2 : Int32)  {p : Program} {e : Env} {s : State} {m : MethodId} {below : List Frame} {meth : Method} {c : Code} (S : CallFix p m c cX6_set 6 s [.ref (ad 0), .int a1, .int a2].toArray bg_B "SurvivorPurseModel") (hr : meth.sig.returnType = (some .long)) (hlk : meth.locks = false) (hK : va_K E.1 vwCl (tysE E) s) (hN : NW s) (r : Int64) (M' : MM) : ∀   (M : MM), F_X6_set_33 N a1 a2  M = some (r, M') → ∀ (H : Heap) (locs : List Loc) (ls : Array Slot), va_P E.1 vwCl (mw (entM E ad M) ad 7) H → va_S (AA ad 7 s.heap.size) s.heap H locs → lv_has ls 6 [(0, .ref (ad 0)), (1, .int a1), (2, .int a2)] → W p l e { frames := 1, cells := 0, slots := 0, locals := 25 } s m [.ref (ad 0), .int a1, .int a2].toArray below meth c H locs 0 0 (MQ below (va_Ql (fun r0 (_ : Unit) => r0 = r) (fun _ t => QB E (entM E ad M') ad 7 t) (AA ad 7 s.heap.size)) [.ref (ad 0), .int a1, .int a2].toArray s 0 0 (AA ad 7 s.heap.size)) (F0 m 33 ls []) := by
  intro M hf H locs ls hP hS hl
  rw [F_X6_set_33] at hf
  refine lv_iload_n S.1 S.2.1 dX6_set_33 rfl (lv_at hl 1 rfl) ?_
  refine lv_if_ne (tgt := 43) S.1 S.2.1 dX6_set_34 (by decide) (fun h7 => ?_) (fun h7 => ?_)
  · replace hf := iff_ h7 hf
    refine lv_sipush (v := (5667 : Int32)) S.1 S.2.1 dX6_set_43 (by decide) ?_
    refine lv_istore_n (lv' := [(3, .int (5667 : Int32)), (0, .ref (ad 0)), (1, .int a1), (2, .int a2)]) S.1 S.2.1 dX6_set_46 rfl hl (by decide) rfl (fun ls hl => ?_)
    refine lv_aload_n S.1 S.2.1 dX6_set_47 rfl (lv_at hl 1 rfl) ?_
    refine x_get (v := .ref (ad 1)) S hK hP w_lay_X6 (ci := 6) rfl 0 (by decide) m0 0 (by decide) w_fl_X6_7 rfl rfl dX6_set_48 ?_
    refine lv_iload_n S.1 S.2.1 dX6_set_51 rfl (lv_at hl 0 rfl) ?_
    refine x_laldc (j := 5667) S hK hP 1 (by decide) m1 (by decide) (by decide) dX6_set_52 ?_
    obtain ⟨x10, ex10, hf⟩ := bnd_some hf
    refine lv_rel ex10 ?_
    refine lv_lstore (lv' := [(4, .long x10), (3, .int (5667 : Int32)), (0, .ref (ad 0)), (1, .int a1), (2, .int a2)]) S.1 S.2.1 dX6_set_53 hl (by decide) rfl (fun ls hl => ?_)
    refine lv_aload_n S.1 S.2.1 dX6_set_55 rfl (lv_at hl 2 rfl) ?_
    refine x_get (v := .ref (ad 1)) S hK hP w_lay_X6 (ci := 6) rfl 0 (by decide) m0 0 (by decide) w_fl_X6_7 rfl rfl dX6_set_56 ?_
    refine lv_iload_n S.1 S.2.1 dX6_set_59 rfl (lv_at hl 1 rfl) ?_
    refine lv_iload_n S.1 S.2.1 dX6_set_60 rfl (lv_at hl 4 rfl) ?_
    refine lv_i2l (v := a2.toInt64) S.1 S.2.1 dX6_set_61 rfl ?_
    refine x_lastc (j := 5667) S hI hK hP hS 1 (by decide) m1 (by decide) (by decide) (entM E ad (sL M 1 5667 a2.toInt64)) n1 (fun _ h => entM_sL _ h) dX6_set_62 (fun H locs hP hS => ?_)
    obtain ⟨M11, eM11, hf⟩ := bnd_some hf
    rw [← eM11] at hP
    refine lv_lload S.1 S.2.1 dX6_set_63 (lv_at hl 0 rfl) ?_
    cases hf
    exact r_l S hr hlk hP hS dX6_set_65
  · replace hf := ift h7 hf
    refine lv_sipush (v := (5666 : Int32)) S.1 S.2.1 dX6_set_37 (by decide) ?_
    refine lv_goto (tgt := 46) S.1 S.2.1 dX6_set_40 (by decide) ?_
    refine lv_istore_n (lv' := [(3, .int (5666 : Int32)), (0, .ref (ad 0)), (1, .int a1), (2, .int a2)]) S.1 S.2.1 dX6_set_46 rfl hl (by decide) rfl (fun ls hl => ?_)
    refine lv_aload_n S.1 S.2.1 dX6_set_47 rfl (lv_at hl 1 rfl) ?_
    refine x_get (v := .ref (ad 1)) S hK hP w_lay_X6 (ci := 6) rfl 0 (by decide) m0 0 (by decide) w_fl_X6_7 rfl rfl dX6_set_48 ?_
    refine lv_iload_n S.1 S.2.1 dX6_set_51 rfl (lv_at hl 0 rfl) ?_
    refine x_laldc (j := 5666) S hK hP 1 (by decide) m1 (by decide) (by decide) dX6_set_52 ?_
    obtain ⟨x8, ex8, hf⟩ := bnd_some hf
    refine lv_rel ex8 ?_
    refine lv_lstore (lv' := [(4, .long x8), (3, .int (5666 : Int32)), (0, .ref (ad 0)), (1, .int a1), (2, .int a2)]) S.1 S.2.1 dX6_set_53 hl (by decide) rfl (fun ls hl => ?_)
    refine lv_aload_n S.1 S.2.1 dX6_set_55 rfl (lv_at hl 2 rfl) ?_
    refine x_get (v := .ref (ad 1)) S hK hP w_lay_X6 (ci := 6) rfl 0 (by decide) m0 0 (by decide) w_fl_X6_7 rfl rfl dX6_set_56 ?_
    refine lv_iload_n S.1 S.2.1 dX6_set_59 rfl (lv_at hl 1 rfl) ?_
    refine lv_iload_n S.1 S.2.1 dX6_set_60 rfl (lv_at hl 4 rfl) ?_
    refine lv_i2l (v := a2.toInt64) S.1 S.2.1 dX6_set_61 rfl ?_
    refine x_lastc (j := 5666) S hI hK hP hS 1 (by decide) m1 (by decide) (by decide) (entM E ad (sL M 1 5666 a2.toInt64)) n1 (fun _ h => entM_sL _ h) dX6_set_62 (fun H locs hP hS => ?_)
    obtain ⟨M9, eM9, hf⟩ := bnd_some hf
    rw [← eM9] at hP
    refine lv_lload S.1 S.2.1 dX6_set_63 (lv_at hl 0 rfl) ?_
    cases hf
    exact r_l S hr hlk hP hS dX6_set_65
set_option maxHeartbeats 4000000 in
set_option maxRecDepth 100000 in
theorem K_X6_set (l : Launch) (E : EE) (ad : Nat → Nat) (hI : ad_I ad 7) (sz : Nat) (N : Nat) (a1 : Int32) (a2 : Int32)  (M : MM) (r : Int64) (M' : MM) (hf : F_X6_set N a1 a2 M = some (r, M')) : CtL l yX6_set cX6_set 6 1 25 E (entM E ad M) (entM E ad M') ad 7 sz [.ref (ad 0), .int a1, .int a2] (r) := by
  unfold CtL
  refine body_of (by decide) "SurvivorPurseModel" rfl (Nat.le_of_ble_eq_true rfl) ?_
  intro p e s m below meth c hsz S hr hlk hP hK hN ls hl
  subst hsz
  have hS : va_S (AA ad 7 s.heap.size) s.heap s.heap [] := va_S.rf
  have hl : lv_has ls 6 [(0, .ref (ad 0)), (1, .int a1), (2, .int a2)] := hl
  rw [F_X6_set] at hf
  refine lv_iload_n S.1 S.2.1 dX6_set_0 rfl (lv_at hl 1 rfl) ?_
  refine lv_if_ne (tgt := 16) S.1 S.2.1 dX6_set_1 (by decide) (fun h1 => ?_) (fun h1 => ?_)
  · replace hf := iff_ h1 hf
    refine lv_iload_n S.1 S.2.1 dX6_set_16 rfl (lv_at hl 1 rfl) ?_
    refine lv_iconst (v := (1 : Int32)) S.1 S.2.1 dX6_set_17 (by decide) ?_
    refine lv_icmp_ne (tgt := 66) S.1 S.2.1 dX6_set_18 (by decide) (fun h5 => ?_) (fun h5 => ?_)
    · replace hf := iff_ h5 hf
      refine lv_ldc2 (own := "SurvivorPurseModel") (v := (-1000000000000000 : Int64)) S.1 S.2.1 S.2.2.2.1 (S.2.2.2.2 _ w_kl_X6_41) dX6_set_66 ?_
      cases hf
      exact r_l S hr hlk hP hS dX6_set_69
    · replace hf := ift h5 hf
      refine lv_iload_n S.1 S.2.1 dX6_set_21 rfl (lv_at hl 2 rfl) ?_
      refine lv_i2l (v := a2.toInt64) S.1 S.2.1 dX6_set_22 rfl ?_
      refine lv_lconst (v := (0 : Int64)) S.1 S.2.1 dX6_set_23 (by decide) ?_
      refine lv_ldc2 (own := "SurvivorPurseModel") (v := (1000 : Int64)) S.1 S.2.1 S.2.2.2.1 (S.2.2.2.2 _ w_kl_X6_45) dX6_set_24 ?_
      refine y_Si (As := [.long a2.toInt64, .long (0 : Int64), .long (1000 : Int64)]) S hK hN hP hS rfl (K_X6_in l E ad hI _ a2.toInt64 (0 : Int64) (1000 : Int64)  M _ rfl) (cS 3 S w_co_yX6_in w_in_X6 w_ml_X6_35 w_st_yX6_in hd_X6_in ⟨Nat.le_of_ble_eq_true rfl, Nat.le_of_ble_eq_true rfl⟩) hl.1 rfl rfl (Nat.le_of_ble_eq_true rfl) dX6_set_27 ⟨Nat.zero_le _, Nat.zero_le _⟩ (fun H locs hP hS => ?_)
      refine lv_if_eq (tgt := 66) S.1 S.2.1 dX6_set_30 (by decide) (fun h6 => ?_) (fun h6 => ?_)
      · replace hf := ift h6 hf
        refine lv_ldc2 (own := "SurvivorPurseModel") (v := (-1000000000000000 : Int64)) S.1 S.2.1 S.2.2.2.1 (S.2.2.2.2 _ w_kl_X6_41) dX6_set_66 ?_
        cases hf
        exact r_l S hr hlk hP hS dX6_set_69
      · replace hf := iff_ h6 hf
        exact L_X6_set_33 l E ad hI N a1 a2  S hr hlk hK hN _ _    M hf _ _ _ hP hS (lv_sub hl [0, 1, 2] rfl)
  · replace hf := ift h1 hf
    refine lv_iload_n S.1 S.2.1 dX6_set_4 rfl (lv_at hl 2 rfl) ?_
    refine lv_i2l (v := a2.toInt64) S.1 S.2.1 dX6_set_5 rfl ?_
    refine lv_lconst (v := (1 : Int64)) S.1 S.2.1 dX6_set_6 (by decide) ?_
    refine lv_ldc2 (own := "SurvivorPurseModel") (v := (5 : Int64)) S.1 S.2.1 S.2.2.2.1 (S.2.2.2.2 _ w_kl_X6_73) dX6_set_7 ?_
    refine y_Si (As := [.long a2.toInt64, .long (1 : Int64), .long (5 : Int64)]) S hK hN hP hS rfl (K_X6_in l E ad hI _ a2.toInt64 (1 : Int64) (5 : Int64)  M _ rfl) (cS 3 S w_co_yX6_in w_in_X6 w_ml_X6_35 w_st_yX6_in hd_X6_in ⟨Nat.le_of_ble_eq_true rfl, Nat.le_of_ble_eq_true rfl⟩) hl.1 rfl rfl (Nat.le_of_ble_eq_true rfl) dX6_set_10 ⟨Nat.zero_le _, Nat.zero_le _⟩ (fun H locs hP hS => ?_)
    refine lv_if_ne (tgt := 33) S.1 S.2.1 dX6_set_13 (by decide) (fun h2 => ?_) (fun h2 => ?_)
    · replace hf := iff_ h2 hf
      exact L_X6_set_33 l E ad hI N a1 a2  S hr hlk hK hN _ _    M hf _ _ _ hP hS (lv_sub hl [0, 1, 2] rfl)
    · replace hf := ift h2 hf
      refine lv_iload_n S.1 S.2.1 dX6_set_16 rfl (lv_at hl 1 rfl) ?_
      refine lv_iconst (v := (1 : Int32)) S.1 S.2.1 dX6_set_17 (by decide) ?_
      refine lv_icmp_ne (tgt := 66) S.1 S.2.1 dX6_set_18 (by decide) (fun h3 => ?_) (fun h3 => ?_)
      · replace hf := iff_ h3 hf
        refine lv_ldc2 (own := "SurvivorPurseModel") (v := (-1000000000000000 : Int64)) S.1 S.2.1 S.2.2.2.1 (S.2.2.2.2 _ w_kl_X6_41) dX6_set_66 ?_
        cases hf
        exact r_l S hr hlk hP hS dX6_set_69
      · replace hf := ift h3 hf
        refine lv_iload_n S.1 S.2.1 dX6_set_21 rfl (lv_at hl 2 rfl) ?_
        refine lv_i2l (v := a2.toInt64) S.1 S.2.1 dX6_set_22 rfl ?_
        refine lv_lconst (v := (0 : Int64)) S.1 S.2.1 dX6_set_23 (by decide) ?_
        refine lv_ldc2 (own := "SurvivorPurseModel") (v := (1000 : Int64)) S.1 S.2.1 S.2.2.2.1 (S.2.2.2.2 _ w_kl_X6_45) dX6_set_24 ?_
        refine y_Si (As := [.long a2.toInt64, .long (0 : Int64), .long (1000 : Int64)]) S hK hN hP hS rfl (K_X6_in l E ad hI _ a2.toInt64 (0 : Int64) (1000 : Int64)  M _ rfl) (cS 3 S w_co_yX6_in w_in_X6 w_ml_X6_35 w_st_yX6_in hd_X6_in ⟨Nat.le_of_ble_eq_true rfl, Nat.le_of_ble_eq_true rfl⟩) hl.1 rfl rfl (Nat.le_of_ble_eq_true rfl) dX6_set_27 ⟨Nat.zero_le _, Nat.zero_le _⟩ (fun H locs hP hS => ?_)
        refine lv_if_eq (tgt := 66) S.1 S.2.1 dX6_set_30 (by decide) (fun h4 => ?_) (fun h4 => ?_)
        · replace hf := ift h4 hf
          refine lv_ldc2 (own := "SurvivorPurseModel") (v := (-1000000000000000 : Int64)) S.1 S.2.1 S.2.2.2.1 (S.2.2.2.2 _ w_kl_X6_41) dX6_set_66 ?_
          cases hf
          exact r_l S hr hlk hP hS dX6_set_69
        · replace hf := iff_ h4 hf
          exact L_X6_set_33 l E ad hI N a1 a2  S hr hlk hK hN _ _    M hf _ _ _ hP hS (lv_sub hl [0, 1, 2] rfl)
theorem hd_X6_isDead : yX6_isDead.cls ≠ "java/lang/invoke/MethodHandle" ∧ yX6_isDead.cls ≠ "java/lang/invoke/VarHandle" ∧ (parseMethodDescriptor yX6_isDead.desc).map (fun d => d.parameters.length) = some 1 := by decide +kernel
set_option maxHeartbeats 4000000 in
set_option maxRecDepth 100000 in
theorem K_X6_isDead (l : Launch) (E : EE) (ad : Nat → Nat) (hI : ad_I ad 7) (sz : Nat) (N : Nat) (a1 : Int64)  (M : MM) (r : Bool) (hf : F_X6_isDead N a1 M = some r) : CtI l yX6_isDead cX6_isDead 3 1 21 .boolean E (entM E ad M) (entM E ad M) ad 7 sz [.ref (ad 0), .long a1] (bI r) := by
  unfold CtI
  refine body_of (by decide) "SurvivorPurseModel" rfl (Nat.le_of_ble_eq_true rfl) ?_
  intro p e s m below meth c hsz S hr hlk hP hK hN ls hl
  subst hsz
  have hS : va_S (AA ad 7 s.heap.size) s.heap s.heap [] := va_S.rf
  have hl : lv_has ls 3 [(0, .ref (ad 0)), (1, .long a1)] := hl
  rw [F_X6_isDead] at hf
  refine lv_aload_n S.1 S.2.1 dX6_isDead_0 rfl (lv_at hl 0 rfl) ?_
  refine x_get (v := .ref (ad 1)) S hK hP w_lay_X6 (ci := 6) rfl 0 (by decide) m0 0 (by decide) w_fl_X6_7 rfl rfl dX6_isDead_1 ?_
  refine lv_lload_n S.1 S.2.1 dX6_isDead_4 rfl (lv_at hl 1 rfl) ?_
  refine lv_l2i (v := a1.toInt32) S.1 S.2.1 dX6_isDead_5 rfl ?_
  refine lv_iconst (v := (5 : Int32)) S.1 S.2.1 dX6_isDead_6 (by decide) ?_
  refine y_Si (As := [.int a1.toInt32, .int (5 : Int32)]) S hK hN hP hS rfl (K_X6_cellOf l E ad hI _ a1.toInt32 (5 : Int32)  M _ rfl) (cS 2 S w_co_yX6_cellOf w_in_X6 w_ml_X6_63 w_st_yX6_cellOf hd_X6_cellOf ⟨Nat.le_of_ble_eq_true rfl, Nat.le_of_ble_eq_true rfl⟩) hl.1 rfl rfl (Nat.le_of_ble_eq_true rfl) dX6_isDead_7 ⟨Nat.zero_le _, Nat.zero_le _⟩ (fun H locs hP hS => ?_)
  obtain ⟨h1, hf⟩ := gd_some hf
  refine x_lald S hK hP 1 (by decide) m1 h1 dX6_isDead_10 ?_
  refine lv_lconst (v := (1 : Int64)) S.1 S.2.1 dX6_isDead_11 (by decide) ?_
  refine ll_ne (tgt := 20) S dX6_isDead_12 dX6_isDead_13 (by decide) (fun h2 => ?_) (fun h2 => ?_)
  · replace hf := iff_ h2 hf
    refine lv_iconst (v := (0 : Int32)) S.1 S.2.1 dX6_isDead_20 (by decide) ?_
    cases hf
    exact r_z S hr hlk hP hS dX6_isDead_21
  · replace hf := ift h2 hf
    refine lv_iconst (v := (1 : Int32)) S.1 S.2.1 dX6_isDead_16 (by decide) ?_
    refine lv_goto (tgt := 21) S.1 S.2.1 dX6_isDead_17 (by decide) ?_
    cases hf
    exact r_z S hr hlk hP hS dX6_isDead_21
theorem hd_X6_classFor : yX6_classFor.cls ≠ "java/lang/invoke/MethodHandle" ∧ yX6_classFor.cls ≠ "java/lang/invoke/VarHandle" ∧ (parseMethodDescriptor yX6_classFor.desc).map (fun d => d.parameters.length) = some 1 := by decide +kernel
set_option maxHeartbeats 4000000 in
set_option maxRecDepth 100000 in
theorem L_X6_classFor_2 (l : Launch) (E : EE) (ad : Nat → Nat) (hI : ad_I ad 7) (N : Nat) (a1 : Int64)  {p : Program} {e : Env} {s : State} {m : MethodId} {below : List Frame} {meth : Method} {c : Code} (S : CallFix p m c cX6_classFor 4 s [.ref (ad 0), .long a1].toArray bg_B "SurvivorPurseModel") (hr : meth.sig.returnType = (some .int)) (hlk : meth.locks = false) (hK : va_K E.1 vwCl (tysE E) s) (hN : NW s) (r : Int32) : ∀ (fu : Nat) (v3 : Int32)  (M : MM), F_X6_classFor_2 N a1 fu v3 M = some r → ∀ (H : Heap) (locs : List Loc) (ls : Array Slot), va_P E.1 vwCl (mw (entM E ad M) ad 7) H → va_S (AA ad 7 s.heap.size) s.heap H locs → lv_has ls 4 [(0, .ref (ad 0)), (1, .long a1), (3, .int v3)] → W p l e { frames := 1, cells := 0, slots := 0, locals := 25 } s m [.ref (ad 0), .long a1].toArray below meth c H locs 0 0 (MQ below (va_Qi (fun r0 (_ : Unit) => r0 = r) (fun _ t => QB E (entM E ad M) ad 7 t) (AA ad 7 s.heap.size)) [.ref (ad 0), .long a1].toArray s 0 0 (AA ad 7 s.heap.size)) (F0 m 2 ls []) := by
  intro fu
  induction fu with
  | zero =>
    intro v3 M hf
    rw [F_X6_classFor_2] at hf
    cases hf
  | succ fu ih =>
    intro v3 M hf H locs ls hP hS hl
    rw [F_X6_classFor_2] at hf
    refine lv_iload_n S.1 S.2.1 dX6_classFor_2 rfl (lv_at hl 2 rfl) ?_
    refine lv_i2l (v := v3.toInt64) S.1 S.2.1 dX6_classFor_3 rfl ?_
    refine lv_aload_n S.1 S.2.1 dX6_classFor_4 rfl (lv_at hl 0 rfl) ?_
    refine x_get (v := .ref (ad 1)) S hK hP w_lay_X6 (ci := 6) rfl 0 (by decide) m0 0 (by decide) w_fl_X6_7 rfl rfl dX6_classFor_5 ?_
    refine lv_sipush (v := (5669 : Int32)) S.1 S.2.1 dX6_classFor_8 (by decide) ?_
    refine x_laldc (j := 5669) S hK hP 1 (by decide) m1 (by decide) (by decide) dX6_classFor_11 ?_
    refine ll_ge (tgt := 51) S dX6_classFor_12 dX6_classFor_13 (by decide) (fun h1 => ?_) (fun h1 => ?_)
    · replace hf := ift h1 hf
      refine lv_iconst (v := (-1 : Int32)) S.1 S.2.1 dX6_classFor_51 (by decide) ?_
      cases hf
      exact r_i S hr hlk hP hS dX6_classFor_52
    · replace hf := iff_ h1 hf
      refine lv_lload_n S.1 S.2.1 dX6_classFor_16 rfl (lv_at hl 1 rfl) ?_
      refine lv_aload_n S.1 S.2.1 dX6_classFor_17 rfl (lv_at hl 0 rfl) ?_
      refine x_get (v := .ref (ad 1)) S hK hP w_lay_X6 (ci := 6) rfl 0 (by decide) m0 0 (by decide) w_fl_X6_7 rfl rfl dX6_classFor_18 ?_
      refine lv_iload_n S.1 S.2.1 dX6_classFor_21 rfl (lv_at hl 2 rfl) ?_
      refine lv_iconst (v := (0 : Int32)) S.1 S.2.1 dX6_classFor_22 (by decide) ?_
      refine y_Si (As := [.int v3, .int (0 : Int32)]) S hK hN hP hS rfl (K_X6_groupCell l E ad hI _ v3 (0 : Int32)  M _ rfl) (cS 2 S w_co_yX6_groupCell w_in_X6 w_ml_X6_55 w_st_yX6_groupCell hd_X6_groupCell ⟨Nat.le_of_ble_eq_true rfl, Nat.le_of_ble_eq_true rfl⟩) hl.1 rfl rfl (Nat.le_of_ble_eq_true rfl) dX6_classFor_23 ⟨Nat.zero_le _, Nat.zero_le _⟩ (fun H locs hP hS => ?_)
      obtain ⟨h2, hf⟩ := gd_some hf
      refine x_lald S hK hP 1 (by decide) m1 h2 dX6_classFor_26 ?_
      refine lv_aload_n S.1 S.2.1 dX6_classFor_27 rfl (lv_at hl 0 rfl) ?_
      refine x_get (v := .ref (ad 1)) S hK hP w_lay_X6 (ci := 6) rfl 0 (by decide) m0 0 (by decide) w_fl_X6_7 rfl rfl dX6_classFor_28 ?_
      refine lv_iload_n S.1 S.2.1 dX6_classFor_31 rfl (lv_at hl 2 rfl) ?_
      refine lv_iconst (v := (1 : Int32)) S.1 S.2.1 dX6_classFor_32 (by decide) ?_
      refine y_Si (As := [.int v3, .int (1 : Int32)]) S hK hN hP hS rfl (K_X6_groupCell l E ad hI _ v3 (1 : Int32)  M _ rfl) (cS 2 S w_co_yX6_groupCell w_in_X6 w_ml_X6_55 w_st_yX6_groupCell hd_X6_groupCell ⟨Nat.le_of_ble_eq_true rfl, Nat.le_of_ble_eq_true rfl⟩) hl.1 rfl rfl (Nat.le_of_ble_eq_true rfl) dX6_classFor_33 ⟨Nat.zero_le _, Nat.zero_le _⟩ (fun H locs hP hS => ?_)
      obtain ⟨h3, hf⟩ := gd_some hf
      refine x_lald S hK hP 1 (by decide) m1 h3 dX6_classFor_36 ?_
      refine y_Si (As := [.long a1, .long (gL M 1 (ix (F_X6_groupCell v3 (0 : Int32)))), .long (gL M 1 (ix (F_X6_groupCell v3 (1 : Int32))))]) S hK hN hP hS rfl (K_X6_in l E ad hI _ a1 (gL M 1 (ix (F_X6_groupCell v3 (0 : Int32)))) (gL M 1 (ix (F_X6_groupCell v3 (1 : Int32))))  M _ rfl) (cS 3 S w_co_yX6_in w_in_X6 w_ml_X6_35 w_st_yX6_in hd_X6_in ⟨Nat.le_of_ble_eq_true rfl, Nat.le_of_ble_eq_true rfl⟩) hl.1 rfl rfl (Nat.le_of_ble_eq_true rfl) dX6_classFor_37 ⟨Nat.zero_le _, Nat.zero_le _⟩ (fun H locs hP hS => ?_)
      refine lv_if_eq (tgt := 45) S.1 S.2.1 dX6_classFor_40 (by decide) (fun h4 => ?_) (fun h4 => ?_)
      · replace hf := ift h4 hf
        refine lv_iinc (v := v3 + (1 : Int32)) (lv' := [(3, .int (v3 + (1 : Int32))), (0, .ref (ad 0)), (1, .long a1)]) S.1 S.2.1 dX6_classFor_45 hl (k := 2) rfl rfl (by decide) rfl (fun ls hl => ?_)
        refine lv_goto (tgt := 2) S.1 S.2.1 dX6_classFor_48 (by decide) ?_
        exact ih (v3 + (1 : Int32))  M hf _ _ _ hP hS (lv_sub hl [1, 2, 0] rfl)
      · replace hf := iff_ h4 hf
        refine lv_iload_n S.1 S.2.1 dX6_classFor_43 rfl (lv_at hl 2 rfl) ?_
        cases hf
        exact r_i S hr hlk hP hS dX6_classFor_44
set_option maxHeartbeats 4000000 in
set_option maxRecDepth 100000 in
theorem K_X6_classFor (l : Launch) (E : EE) (ad : Nat → Nat) (hI : ad_I ad 7) (sz : Nat) (N : Nat) (a1 : Int64)  (M : MM) (r : Int32) (hf : F_X6_classFor N a1 M = some r) : CtI l yX6_classFor cX6_classFor 4 1 25 .int E (entM E ad M) (entM E ad M) ad 7 sz [.ref (ad 0), .long a1] (r) := by
  unfold CtI
  refine body_of (by decide) "SurvivorPurseModel" rfl (Nat.le_of_ble_eq_true rfl) ?_
  intro p e s m below meth c hsz S hr hlk hP hK hN ls hl
  subst hsz
  have hS : va_S (AA ad 7 s.heap.size) s.heap s.heap [] := va_S.rf
  have hl : lv_has ls 4 [(0, .ref (ad 0)), (1, .long a1)] := hl
  rw [F_X6_classFor] at hf
  refine lv_iconst (v := (0 : Int32)) S.1 S.2.1 dX6_classFor_0 (by decide) ?_
  refine lv_istore_n (lv' := [(3, .int (0 : Int32)), (0, .ref (ad 0)), (1, .long a1)]) S.1 S.2.1 dX6_classFor_1 rfl hl (by decide) rfl (fun ls hl => ?_)
  exact L_X6_classFor_2 l E ad hI N a1  S hr hlk hK hN _ N (0 : Int32)  M hf _ _ _ hP hS (lv_sub hl [1, 2, 0] rfl)
theorem hd_X6_buy : yX6_buy.cls ≠ "java/lang/invoke/MethodHandle" ∧ yX6_buy.cls ≠ "java/lang/invoke/VarHandle" ∧ (parseMethodDescriptor yX6_buy.desc).map (fun d => d.parameters.length) = some 6 := by decide +kernel
set_option maxHeartbeats 4000000 in
set_option maxRecDepth 100000 in
theorem L_X6_buy_236 (l : Launch) (E : EE) (ad : Nat → Nat) (hI : ad_I ad 7) (N : Nat) (a1 : Int32) (a2 : Int32) (a3 : Int32) (a4 : Int32) (a5 : Int32) (a6 : Int32)  {p : Program} {e : Env} {s : State} {m : MethodId} {below : List Frame} {meth : Method} {c : Code} (S : CallFix p m c cX6_buy 13 s [.ref (ad 0), .int a1, .int a2, .int a3, .int a4, .int a5, .int a6].toArray bg_B "SurvivorPurseModel") (hr : meth.sig.returnType = (some .long)) (hlk : meth.locks = false) (hK : va_K E.1 vwCl (tysE E) s) (hN : NW s) (r : Int64) (M' : MM) : ∀ (fu : Nat) (v9 : Int32) (v10 : Int32) (v11 : Int32)  (M : MM), F_X6_buy_236 N a1 a2 a3 a4 a5 a6 fu v9 v10 v11 M = some (r, M') → ∀ (H : Heap) (locs : List Loc) (ls : Array Slot), va_P E.1 vwCl (mw (entM E ad M) ad 7) H → va_S (AA ad 7 s.heap.size) s.heap H locs → lv_has ls 13 [(0, .ref (ad 0)), (1, .int a1), (2, .int a2), (3, .int a3), (4, .int a4), (5, .int a5), (6, .int a6), (9, .int v9), (10, .int v10), (11, .int v11)] → W p l e { frames := 2, cells := 0, slots := 0, locals := 48 } s m [.ref (ad 0), .int a1, .int a2, .int a3, .int a4, .int a5, .int a6].toArray below meth c H locs 0 0 (MQ below (va_Ql (fun r0 (_ : Unit) => r0 = r) (fun _ t => QB E (entM E ad M') ad 7 t) (AA ad 7 s.heap.size)) [.ref (ad 0), .int a1, .int a2, .int a3, .int a4, .int a5, .int a6].toArray s 0 0 (AA ad 7 s.heap.size)) (F0 m 236 ls []) := by
  intro fu
  induction fu with
  | zero =>
    intro v9 v10 v11 M hf
    rw [F_X6_buy_236] at hf
    cases hf
  | succ fu ih =>
    intro v9 v10 v11 M hf H locs ls hP hS hl
    rw [F_X6_buy_236] at hf
    refine lv_iload S.1 S.2.1 dX6_buy_236 (lv_at hl 9 rfl) ?_
    refine lv_bipush (v := (60 : Int32)) S.1 S.2.1 dX6_buy_238 (by decide) ?_
    refine lv_icmp_ge (tgt := 285) S.1 S.2.1 dX6_buy_240 (by decide) (fun h29 => ?_) (fun h29 => ?_)
    · replace hf := ift h29 hf
      refine lv_iload S.1 S.2.1 dX6_buy_285 (lv_at hl 4 rfl) ?_
      refine lv_i2l (v := a4.toInt64) S.1 S.2.1 dX6_buy_287 rfl ?_
      refine lv_aload_n S.1 S.2.1 dX6_buy_288 rfl (lv_at hl 0 rfl) ?_
      refine x_get (v := .ref (ad 1)) S hK hP w_lay_X6 (ci := 6) rfl 0 (by decide) m0 0 (by decide) w_fl_X6_7 rfl rfl dX6_buy_289 ?_
      refine lv_iload S.1 S.2.1 dX6_buy_292 (lv_at hl 7 rfl) ?_
      refine lv_iconst (v := (2 : Int32)) S.1 S.2.1 dX6_buy_294 (by decide) ?_
      refine y_Si (As := [.int v9, .int (2 : Int32)]) S hK hN hP hS rfl (K_X6_groupCell l E ad hI _ v9 (2 : Int32)  M _ rfl) (cS 2 S w_co_yX6_groupCell w_in_X6 w_ml_X6_55 w_st_yX6_groupCell hd_X6_groupCell ⟨Nat.le_of_ble_eq_true rfl, Nat.le_of_ble_eq_true rfl⟩) hl.1 rfl rfl (Nat.le_of_ble_eq_true rfl) dX6_buy_295 ⟨Nat.zero_le _, Nat.zero_le _⟩ (fun H locs hP hS => ?_)
      obtain ⟨h30, hf⟩ := gd_some hf
      refine x_lald S hK hP 1 (by decide) m1 h30 dX6_buy_298 ?_
      refine lv_lmul S.1 S.2.1 dX6_buy_299 ?_
      obtain ⟨x31, ex31, hf⟩ := bnd_some hf
      refine lv_rel ex31 ?_
      refine lv_lstore (lv' := [(11, .long x31), (0, .ref (ad 0)), (1, .int a1), (2, .int a2), (3, .int a3), (4, .int a4), (5, .int a5), (6, .int a6), (9, .int v9), (10, .int v10)]) S.1 S.2.1 dX6_buy_300 hl (by decide) rfl (fun ls hl => ?_)
      refine lv_aload_n S.1 S.2.1 dX6_buy_302 rfl (lv_at hl 1 rfl) ?_
      refine x_get (v := .ref (ad 1)) S hK hP w_lay_X6 (ci := 6) rfl 0 (by decide) m0 0 (by decide) w_fl_X6_7 rfl rfl dX6_buy_303 ?_
      refine lv_iload S.1 S.2.1 dX6_buy_306 (lv_at hl 9 rfl) ?_
      refine lv_iconst (v := (0 : Int32)) S.1 S.2.1 dX6_buy_308 (by decide) ?_
      refine y_Si (As := [.int v10, .int (0 : Int32)]) S hK hN hP hS rfl (K_X6_part l E ad hI _ v10 (0 : Int32)  M _ rfl) (cS 2 S w_co_yX6_part w_in_X6 w_ml_X6_89 w_st_yX6_part hd_X6_part ⟨Nat.le_of_ble_eq_true rfl, Nat.le_of_ble_eq_true rfl⟩) hl.1 rfl rfl (Nat.le_of_ble_eq_true rfl) dX6_buy_309 ⟨Nat.zero_le _, Nat.zero_le _⟩ (fun H locs hP hS => ?_)
      refine lv_iload_n S.1 S.2.1 dX6_buy_312 rfl (lv_at hl 2 rfl) ?_
      refine lv_i2l (v := a1.toInt64) S.1 S.2.1 dX6_buy_313 rfl ?_
      obtain ⟨h32, hf⟩ := gd_some hf
      refine x_last S hI hK hP hS 1 (by decide) m1 h32 (entM E ad (sL M 1 (ix (F_X6_part v10 (0 : Int32))) a1.toInt64)) n1 (fun _ h => entM_sL _ h) dX6_buy_314 (fun H locs hP hS => ?_)
      obtain ⟨M33, eM33, hf⟩ := bnd_some hf
      rw [← eM33] at hP
      refine lv_aload_n S.1 S.2.1 dX6_buy_315 rfl (lv_at hl 1 rfl) ?_
      refine x_get (v := .ref (ad 1)) S hK hP w_lay_X6 (ci := 6) rfl 0 (by decide) m0 0 (by decide) w_fl_X6_7 rfl rfl dX6_buy_316 ?_
      refine lv_iload S.1 S.2.1 dX6_buy_319 (lv_at hl 9 rfl) ?_
      refine lv_iconst (v := (1 : Int32)) S.1 S.2.1 dX6_buy_321 (by decide) ?_
      refine y_Si (As := [.int v10, .int (1 : Int32)]) S hK hN hP hS rfl (K_X6_part l E ad hI _ v10 (1 : Int32)  M33 _ rfl) (cS 2 S w_co_yX6_part w_in_X6 w_ml_X6_89 w_st_yX6_part hd_X6_part ⟨Nat.le_of_ble_eq_true rfl, Nat.le_of_ble_eq_true rfl⟩) hl.1 rfl rfl (Nat.le_of_ble_eq_true rfl) dX6_buy_322 ⟨Nat.zero_le _, Nat.zero_le _⟩ (fun H locs hP hS => ?_)
      refine lv_iload_n S.1 S.2.1 dX6_buy_325 rfl (lv_at hl 3 rfl) ?_
      refine lv_i2l (v := a2.toInt64) S.1 S.2.1 dX6_buy_326 rfl ?_
      obtain ⟨h34, hf⟩ := gd_some hf
      refine x_last S hI hK hP hS 1 (by decide) m1 h34 (entM E ad (sL M33 1 (ix (F_X6_part v10 (1 : Int32))) a2.toInt64)) n1 (fun _ h => entM_sL _ h) dX6_buy_327 (fun H locs hP hS => ?_)
      obtain ⟨M35, eM35, hf⟩ := bnd_some hf
      rw [← eM35] at hP
      refine lv_aload_n S.1 S.2.1 dX6_buy_328 rfl (lv_at hl 1 rfl) ?_
      refine x_get (v := .ref (ad 1)) S hK hP w_lay_X6 (ci := 6) rfl 0 (by decide) m0 0 (by decide) w_fl_X6_7 rfl rfl dX6_buy_329 ?_
      refine lv_iload S.1 S.2.1 dX6_buy_332 (lv_at hl 9 rfl) ?_
      refine lv_iconst (v := (2 : Int32)) S.1 S.2.1 dX6_buy_334 (by decide) ?_
      refine y_Si (As := [.int v10, .int (2 : Int32)]) S hK hN hP hS rfl (K_X6_part l E ad hI _ v10 (2 : Int32)  M35 _ rfl) (cS 2 S w_co_yX6_part w_in_X6 w_ml_X6_89 w_st_yX6_part hd_X6_part ⟨Nat.le_of_ble_eq_true rfl, Nat.le_of_ble_eq_true rfl⟩) hl.1 rfl rfl (Nat.le_of_ble_eq_true rfl) dX6_buy_335 ⟨Nat.zero_le _, Nat.zero_le _⟩ (fun H locs hP hS => ?_)
      refine lv_iload S.1 S.2.1 dX6_buy_338 (lv_at hl 6 rfl) ?_
      refine lv_iconst (v := (1 : Int32)) S.1 S.2.1 dX6_buy_340 (by decide) ?_
      refine lv_icmp_ne (tgt := 349) S.1 S.2.1 dX6_buy_341 (by decide) (fun h36 => ?_) (fun h36 => ?_)
      · replace hf := iff_ h36 hf
        refine lv_ldc2 (own := "SurvivorPurseModel") (v := (-1 : Int64)) S.1 S.2.1 S.2.2.2.1 (S.2.2.2.2 _ w_kl_X6_59) dX6_buy_349 ?_
        obtain ⟨h62, hf⟩ := gd_some hf
        refine x_last S hI hK hP hS 1 (by decide) m1 h62 (entM E ad (sL M35 1 (ix (F_X6_part v10 (2 : Int32))) (-1 : Int64))) n1 (fun _ h => entM_sL _ h) dX6_buy_352 (fun H locs hP hS => ?_)
        obtain ⟨M63, eM63, hf⟩ := bnd_some hf
        rw [← eM63] at hP
        refine lv_aload_n S.1 S.2.1 dX6_buy_353 rfl (lv_at hl 1 rfl) ?_
        refine x_get (v := .ref (ad 1)) S hK hP w_lay_X6 (ci := 6) rfl 0 (by decide) m0 0 (by decide) w_fl_X6_7 rfl rfl dX6_buy_354 ?_
        refine lv_iload S.1 S.2.1 dX6_buy_357 (lv_at hl 9 rfl) ?_
        refine lv_iconst (v := (3 : Int32)) S.1 S.2.1 dX6_buy_359 (by decide) ?_
        refine y_Si (As := [.int v10, .int (3 : Int32)]) S hK hN hP hS rfl (K_X6_part l E ad hI _ v10 (3 : Int32)  M63 _ rfl) (cS 2 S w_co_yX6_part w_in_X6 w_ml_X6_89 w_st_yX6_part hd_X6_part ⟨Nat.le_of_ble_eq_true rfl, Nat.le_of_ble_eq_true rfl⟩) hl.1 rfl rfl (Nat.le_of_ble_eq_true rfl) dX6_buy_360 ⟨Nat.zero_le _, Nat.zero_le _⟩ (fun H locs hP hS => ?_)
        refine lv_iload S.1 S.2.1 dX6_buy_363 (lv_at hl 5 rfl) ?_
        refine lv_i2l (v := a4.toInt64) S.1 S.2.1 dX6_buy_365 rfl ?_
        obtain ⟨h64, hf⟩ := gd_some hf
        refine x_last S hI hK hP hS 1 (by decide) m1 h64 (entM E ad (sL M63 1 (ix (F_X6_part v10 (3 : Int32))) a4.toInt64)) n1 (fun _ h => entM_sL _ h) dX6_buy_366 (fun H locs hP hS => ?_)
        obtain ⟨M65, eM65, hf⟩ := bnd_some hf
        rw [← eM65] at hP
        refine lv_aload_n S.1 S.2.1 dX6_buy_367 rfl (lv_at hl 1 rfl) ?_
        refine x_get (v := .ref (ad 1)) S hK hP w_lay_X6 (ci := 6) rfl 0 (by decide) m0 0 (by decide) w_fl_X6_7 rfl rfl dX6_buy_368 ?_
        refine lv_iload S.1 S.2.1 dX6_buy_371 (lv_at hl 9 rfl) ?_
        refine lv_iconst (v := (4 : Int32)) S.1 S.2.1 dX6_buy_373 (by decide) ?_
        refine y_Si (As := [.int v10, .int (4 : Int32)]) S hK hN hP hS rfl (K_X6_part l E ad hI _ v10 (4 : Int32)  M65 _ rfl) (cS 2 S w_co_yX6_part w_in_X6 w_ml_X6_89 w_st_yX6_part hd_X6_part ⟨Nat.le_of_ble_eq_true rfl, Nat.le_of_ble_eq_true rfl⟩) hl.1 rfl rfl (Nat.le_of_ble_eq_true rfl) dX6_buy_374 ⟨Nat.zero_le _, Nat.zero_le _⟩ (fun H locs hP hS => ?_)
        refine lv_iload S.1 S.2.1 dX6_buy_377 (lv_at hl 8 rfl) ?_
        refine lv_i2l (v := v9.toInt64) S.1 S.2.1 dX6_buy_379 rfl ?_
        obtain ⟨h66, hf⟩ := gd_some hf
        refine x_last S hI hK hP hS 1 (by decide) m1 h66 (entM E ad (sL M65 1 (ix (F_X6_part v10 (4 : Int32))) v9.toInt64)) n1 (fun _ h => entM_sL _ h) dX6_buy_380 (fun H locs hP hS => ?_)
        obtain ⟨M67, eM67, hf⟩ := bnd_some hf
        rw [← eM67] at hP
        refine lv_aload_n S.1 S.2.1 dX6_buy_381 rfl (lv_at hl 1 rfl) ?_
        refine x_get (v := .ref (ad 1)) S hK hP w_lay_X6 (ci := 6) rfl 0 (by decide) m0 0 (by decide) w_fl_X6_7 rfl rfl dX6_buy_382 ?_
        refine lv_iload S.1 S.2.1 dX6_buy_385 (lv_at hl 9 rfl) ?_
        refine lv_iconst (v := (5 : Int32)) S.1 S.2.1 dX6_buy_387 (by decide) ?_
        refine y_Si (As := [.int v10, .int (5 : Int32)]) S hK hN hP hS rfl (K_X6_part l E ad hI _ v10 (5 : Int32)  M67 _ rfl) (cS 2 S w_co_yX6_part w_in_X6 w_ml_X6_89 w_st_yX6_part hd_X6_part ⟨Nat.le_of_ble_eq_true rfl, Nat.le_of_ble_eq_true rfl⟩) hl.1 rfl rfl (Nat.le_of_ble_eq_true rfl) dX6_buy_388 ⟨Nat.zero_le _, Nat.zero_le _⟩ (fun H locs hP hS => ?_)
        refine lv_iload S.1 S.2.1 dX6_buy_391 (lv_at hl 6 rfl) ?_
        refine lv_i2l (v := a5.toInt64) S.1 S.2.1 dX6_buy_393 rfl ?_
        obtain ⟨h68, hf⟩ := gd_some hf
        refine x_last S hI hK hP hS 1 (by decide) m1 h68 (entM E ad (sL M67 1 (ix (F_X6_part v10 (5 : Int32))) a5.toInt64)) n1 (fun _ h => entM_sL _ h) dX6_buy_394 (fun H locs hP hS => ?_)
        obtain ⟨M69, eM69, hf⟩ := bnd_some hf
        rw [← eM69] at hP
        refine lv_aload_n S.1 S.2.1 dX6_buy_395 rfl (lv_at hl 1 rfl) ?_
        refine x_get (v := .ref (ad 1)) S hK hP w_lay_X6 (ci := 6) rfl 0 (by decide) m0 0 (by decide) w_fl_X6_7 rfl rfl dX6_buy_396 ?_
        refine lv_iload S.1 S.2.1 dX6_buy_399 (lv_at hl 9 rfl) ?_
        refine lv_bipush (v := (6 : Int32)) S.1 S.2.1 dX6_buy_401 (by decide) ?_
        refine y_Si (As := [.int v10, .int (6 : Int32)]) S hK hN hP hS rfl (K_X6_part l E ad hI _ v10 (6 : Int32)  M69 _ rfl) (cS 2 S w_co_yX6_part w_in_X6 w_ml_X6_89 w_st_yX6_part hd_X6_part ⟨Nat.le_of_ble_eq_true rfl, Nat.le_of_ble_eq_true rfl⟩) hl.1 rfl rfl (Nat.le_of_ble_eq_true rfl) dX6_buy_403 ⟨Nat.zero_le _, Nat.zero_le _⟩ (fun H locs hP hS => ?_)
        refine lv_lload S.1 S.2.1 dX6_buy_406 (lv_at hl 0 rfl) ?_
        obtain ⟨h70, hf⟩ := gd_some hf
        refine x_last S hI hK hP hS 1 (by decide) m1 h70 (entM E ad (sL M69 1 (ix (F_X6_part v10 (6 : Int32))) x31)) n1 (fun _ h => entM_sL _ h) dX6_buy_408 (fun H locs hP hS => ?_)
        obtain ⟨M71, eM71, hf⟩ := bnd_some hf
        rw [← eM71] at hP
        refine lv_aload_n S.1 S.2.1 dX6_buy_409 rfl (lv_at hl 1 rfl) ?_
        refine x_get (v := .ref (ad 1)) S hK hP w_lay_X6 (ci := 6) rfl 0 (by decide) m0 0 (by decide) w_fl_X6_7 rfl rfl dX6_buy_410 ?_
        refine lv_iload S.1 S.2.1 dX6_buy_413 (lv_at hl 9 rfl) ?_
        refine lv_bipush (v := (8 : Int32)) S.1 S.2.1 dX6_buy_415 (by decide) ?_
        refine y_Si (As := [.int v10, .int (8 : Int32)]) S hK hN hP hS rfl (K_X6_part l E ad hI _ v10 (8 : Int32)  M71 _ rfl) (cS 2 S w_co_yX6_part w_in_X6 w_ml_X6_89 w_st_yX6_part hd_X6_part ⟨Nat.le_of_ble_eq_true rfl, Nat.le_of_ble_eq_true rfl⟩) hl.1 rfl rfl (Nat.le_of_ble_eq_true rfl) dX6_buy_417 ⟨Nat.zero_le _, Nat.zero_le _⟩ (fun H locs hP hS => ?_)
        refine lv_aload_n S.1 S.2.1 dX6_buy_420 rfl (lv_at hl 1 rfl) ?_
        refine x_get (v := .ref (ad 1)) S hK hP w_lay_X6 (ci := 6) rfl 0 (by decide) m0 0 (by decide) w_fl_X6_7 rfl rfl dX6_buy_421 ?_
        refine lv_sipush (v := (5663 : Int32)) S.1 S.2.1 dX6_buy_424 (by decide) ?_
        refine x_laldc (j := 5663) S hK hP 1 (by decide) m1 (by decide) (by decide) dX6_buy_427 ?_
        obtain ⟨h72, hf⟩ := gd_some hf
        refine x_last S hI hK hP hS 1 (by decide) m1 h72 (entM E ad (sL M71 1 (ix (F_X6_part v10 (8 : Int32))) (gL M71 1 5663))) n1 (fun _ h => entM_sL _ h) dX6_buy_428 (fun H locs hP hS => ?_)
        obtain ⟨M73, eM73, hf⟩ := bnd_some hf
        rw [← eM73] at hP
        refine lv_aload_n S.1 S.2.1 dX6_buy_429 rfl (lv_at hl 1 rfl) ?_
        refine x_get (v := .ref (ad 1)) S hK hP w_lay_X6 (ci := 6) rfl 0 (by decide) m0 0 (by decide) w_fl_X6_7 rfl rfl dX6_buy_430 ?_
        refine lv_iload S.1 S.2.1 dX6_buy_433 (lv_at hl 9 rfl) ?_
        refine lv_bipush (v := (9 : Int32)) S.1 S.2.1 dX6_buy_435 (by decide) ?_
        refine y_Si (As := [.int v10, .int (9 : Int32)]) S hK hN hP hS rfl (K_X6_part l E ad hI _ v10 (9 : Int32)  M73 _ rfl) (cS 2 S w_co_yX6_part w_in_X6 w_ml_X6_89 w_st_yX6_part hd_X6_part ⟨Nat.le_of_ble_eq_true rfl, Nat.le_of_ble_eq_true rfl⟩) hl.1 rfl rfl (Nat.le_of_ble_eq_true rfl) dX6_buy_437 ⟨Nat.zero_le _, Nat.zero_le _⟩ (fun H locs hP hS => ?_)
        refine lv_iload S.1 S.2.1 dX6_buy_440 (lv_at hl 6 rfl) ?_
        refine lv_iconst (v := (1 : Int32)) S.1 S.2.1 dX6_buy_442 (by decide) ?_
        refine lv_icmp_le (tgt := 452) S.1 S.2.1 dX6_buy_443 (by decide) (fun h74 => ?_) (fun h74 => ?_)
        · replace hf := ift h74 hf
          refine lv_lconst (v := (0 : Int64)) S.1 S.2.1 dX6_buy_452 (by decide) ?_
          obtain ⟨h75, hf⟩ := gd_some hf
          refine x_last S hI hK hP hS 1 (by decide) m1 h75 (entM E ad (sL M73 1 (ix (F_X6_part v10 (9 : Int32))) (0 : Int64))) n1 (fun _ h => entM_sL _ h) dX6_buy_453 (fun H locs hP hS => ?_)
          obtain ⟨M76, eM76, hf⟩ := bnd_some hf
          rw [← eM76] at hP
          refine lv_aload_n S.1 S.2.1 dX6_buy_454 rfl (lv_at hl 1 rfl) ?_
          refine x_get (v := .ref (ad 1)) S hK hP w_lay_X6 (ci := 6) rfl 0 (by decide) m0 0 (by decide) w_fl_X6_7 rfl rfl dX6_buy_455 ?_
          refine lv_iload S.1 S.2.1 dX6_buy_458 (lv_at hl 8 rfl) ?_
          refine lv_iconst (v := (3 : Int32)) S.1 S.2.1 dX6_buy_460 (by decide) ?_
          refine y_Si (As := [.int v9, .int (3 : Int32)]) S hK hN hP hS rfl (K_X6_groupCell l E ad hI _ v9 (3 : Int32)  M76 _ rfl) (cS 2 S w_co_yX6_groupCell w_in_X6 w_ml_X6_55 w_st_yX6_groupCell hd_X6_groupCell ⟨Nat.le_of_ble_eq_true rfl, Nat.le_of_ble_eq_true rfl⟩) hl.1 rfl rfl (Nat.le_of_ble_eq_true rfl) dX6_buy_461 ⟨Nat.zero_le _, Nat.zero_le _⟩ (fun H locs hP hS => ?_)
          refine lv_dup2_11 S.1 S.2.1 dX6_buy_464 rfl rfl ?_
          obtain ⟨h77, hf⟩ := gd_some hf
          refine x_lald S hK hP 1 (by decide) m1 h77 dX6_buy_465 ?_
          refine lv_lload S.1 S.2.1 dX6_buy_466 (lv_at hl 0 rfl) ?_
          refine lv_ladd S.1 S.2.1 dX6_buy_468 ?_
          refine x_last S hI hK hP hS 1 (by decide) m1 h77 (entM E ad (sL M76 1 (ix (F_X6_groupCell v9 (3 : Int32))) ((gL M76 1 (ix (F_X6_groupCell v9 (3 : Int32)))) + x31))) n1 (fun _ h => entM_sL _ h) dX6_buy_469 (fun H locs hP hS => ?_)
          obtain ⟨M78, eM78, hf⟩ := bnd_some hf
          rw [← eM78] at hP
          refine lv_aload_n S.1 S.2.1 dX6_buy_470 rfl (lv_at hl 1 rfl) ?_
          refine x_get (v := .ref (ad 1)) S hK hP w_lay_X6 (ci := 6) rfl 0 (by decide) m0 0 (by decide) w_fl_X6_7 rfl rfl dX6_buy_471 ?_
          refine lv_sipush (v := (5671 : Int32)) S.1 S.2.1 dX6_buy_474 (by decide) ?_
          refine lv_dup2_11 S.1 S.2.1 dX6_buy_477 rfl rfl ?_
          refine x_laldc (j := 5671) S hK hP 1 (by decide) m1 (by decide) (by decide) dX6_buy_478 ?_
          refine lv_lload S.1 S.2.1 dX6_buy_479 (lv_at hl 0 rfl) ?_
          refine lv_ladd S.1 S.2.1 dX6_buy_481 ?_
          refine x_lastc (j := 5671) S hI hK hP hS 1 (by decide) m1 (by decide) (by decide) (entM E ad (sL M78 1 5671 ((gL M78 1 5671) + x31))) n1 (fun _ h => entM_sL _ h) dX6_buy_482 (fun H locs hP hS => ?_)
          obtain ⟨M79, eM79, hf⟩ := bnd_some hf
          rw [← eM79] at hP
          refine lv_aload_n S.1 S.2.1 dX6_buy_483 rfl (lv_at hl 1 rfl) ?_
          refine x_get (v := .ref (ad 1)) S hK hP w_lay_X6 (ci := 6) rfl 0 (by decide) m0 0 (by decide) w_fl_X6_7 rfl rfl dX6_buy_484 ?_
          refine lv_sipush (v := (5670 : Int32)) S.1 S.2.1 dX6_buy_487 (by decide) ?_
          refine lv_dup2_11 S.1 S.2.1 dX6_buy_490 rfl rfl ?_
          refine x_laldc (j := 5670) S hK hP 1 (by decide) m1 (by decide) (by decide) dX6_buy_491 ?_
          refine lv_lconst (v := (1 : Int64)) S.1 S.2.1 dX6_buy_492 (by decide) ?_
          refine lv_ladd S.1 S.2.1 dX6_buy_493 ?_
          refine x_lastc (j := 5670) S hI hK hP hS 1 (by decide) m1 (by decide) (by decide) (entM E ad (sL M79 1 5670 ((gL M79 1 5670) + (1 : Int64)))) n1 (fun _ h => entM_sL _ h) dX6_buy_494 (fun H locs hP hS => ?_)
          obtain ⟨M80, eM80, hf⟩ := bnd_some hf
          rw [← eM80] at hP
          refine lv_iload S.1 S.2.1 dX6_buy_495 (lv_at hl 9 rfl) ?_
          refine lv_i2l (v := v10.toInt64) S.1 S.2.1 dX6_buy_497 rfl ?_
          cases hf
          exact r_l S hr hlk hP hS dX6_buy_498
        · replace hf := iff_ h74 hf
          refine lv_iload S.1 S.2.1 dX6_buy_446 (lv_at hl 7 rfl) ?_
          refine lv_i2l (v := a6.toInt64) S.1 S.2.1 dX6_buy_448 rfl ?_
          refine lv_goto (tgt := 453) S.1 S.2.1 dX6_buy_449 (by decide) ?_
          obtain ⟨h81, hf⟩ := gd_some hf
          refine x_last S hI hK hP hS 1 (by decide) m1 h81 (entM E ad (sL M73 1 (ix (F_X6_part v10 (9 : Int32))) a6.toInt64)) n1 (fun _ h => entM_sL _ h) dX6_buy_453 (fun H locs hP hS => ?_)
          obtain ⟨M82, eM82, hf⟩ := bnd_some hf
          rw [← eM82] at hP
          refine lv_aload_n S.1 S.2.1 dX6_buy_454 rfl (lv_at hl 1 rfl) ?_
          refine x_get (v := .ref (ad 1)) S hK hP w_lay_X6 (ci := 6) rfl 0 (by decide) m0 0 (by decide) w_fl_X6_7 rfl rfl dX6_buy_455 ?_
          refine lv_iload S.1 S.2.1 dX6_buy_458 (lv_at hl 8 rfl) ?_
          refine lv_iconst (v := (3 : Int32)) S.1 S.2.1 dX6_buy_460 (by decide) ?_
          refine y_Si (As := [.int v9, .int (3 : Int32)]) S hK hN hP hS rfl (K_X6_groupCell l E ad hI _ v9 (3 : Int32)  M82 _ rfl) (cS 2 S w_co_yX6_groupCell w_in_X6 w_ml_X6_55 w_st_yX6_groupCell hd_X6_groupCell ⟨Nat.le_of_ble_eq_true rfl, Nat.le_of_ble_eq_true rfl⟩) hl.1 rfl rfl (Nat.le_of_ble_eq_true rfl) dX6_buy_461 ⟨Nat.zero_le _, Nat.zero_le _⟩ (fun H locs hP hS => ?_)
          refine lv_dup2_11 S.1 S.2.1 dX6_buy_464 rfl rfl ?_
          obtain ⟨h83, hf⟩ := gd_some hf
          refine x_lald S hK hP 1 (by decide) m1 h83 dX6_buy_465 ?_
          refine lv_lload S.1 S.2.1 dX6_buy_466 (lv_at hl 0 rfl) ?_
          refine lv_ladd S.1 S.2.1 dX6_buy_468 ?_
          refine x_last S hI hK hP hS 1 (by decide) m1 h83 (entM E ad (sL M82 1 (ix (F_X6_groupCell v9 (3 : Int32))) ((gL M82 1 (ix (F_X6_groupCell v9 (3 : Int32)))) + x31))) n1 (fun _ h => entM_sL _ h) dX6_buy_469 (fun H locs hP hS => ?_)
          obtain ⟨M84, eM84, hf⟩ := bnd_some hf
          rw [← eM84] at hP
          refine lv_aload_n S.1 S.2.1 dX6_buy_470 rfl (lv_at hl 1 rfl) ?_
          refine x_get (v := .ref (ad 1)) S hK hP w_lay_X6 (ci := 6) rfl 0 (by decide) m0 0 (by decide) w_fl_X6_7 rfl rfl dX6_buy_471 ?_
          refine lv_sipush (v := (5671 : Int32)) S.1 S.2.1 dX6_buy_474 (by decide) ?_
          refine lv_dup2_11 S.1 S.2.1 dX6_buy_477 rfl rfl ?_
          refine x_laldc (j := 5671) S hK hP 1 (by decide) m1 (by decide) (by decide) dX6_buy_478 ?_
          refine lv_lload S.1 S.2.1 dX6_buy_479 (lv_at hl 0 rfl) ?_
          refine lv_ladd S.1 S.2.1 dX6_buy_481 ?_
          refine x_lastc (j := 5671) S hI hK hP hS 1 (by decide) m1 (by decide) (by decide) (entM E ad (sL M84 1 5671 ((gL M84 1 5671) + x31))) n1 (fun _ h => entM_sL _ h) dX6_buy_482 (fun H locs hP hS => ?_)
          obtain ⟨M85, eM85, hf⟩ := bnd_some hf
          rw [← eM85] at hP
          refine lv_aload_n S.1 S.2.1 dX6_buy_483 rfl (lv_at hl 1 rfl) ?_
          refine x_get (v := .ref (ad 1)) S hK hP w_lay_X6 (ci := 6) rfl 0 (by decide) m0 0 (by decide) w_fl_X6_7 rfl rfl dX6_buy_484 ?_
          refine lv_sipush (v := (5670 : Int32)) S.1 S.2.1 dX6_buy_487 (by decide) ?_
          refine lv_dup2_11 S.1 S.2.1 dX6_buy_490 rfl rfl ?_
          refine x_laldc (j := 5670) S hK hP 1 (by decide) m1 (by decide) (by decide) dX6_buy_491 ?_
          refine lv_lconst (v := (1 : Int64)) S.1 S.2.1 dX6_buy_492 (by decide) ?_
          refine lv_ladd S.1 S.2.1 dX6_buy_493 ?_
          refine x_lastc (j := 5670) S hI hK hP hS 1 (by decide) m1 (by decide) (by decide) (entM E ad (sL M85 1 5670 ((gL M85 1 5670) + (1 : Int64)))) n1 (fun _ h => entM_sL _ h) dX6_buy_494 (fun H locs hP hS => ?_)
          obtain ⟨M86, eM86, hf⟩ := bnd_some hf
          rw [← eM86] at hP
          refine lv_iload S.1 S.2.1 dX6_buy_495 (lv_at hl 9 rfl) ?_
          refine lv_i2l (v := v10.toInt64) S.1 S.2.1 dX6_buy_497 rfl ?_
          cases hf
          exact r_l S hr hlk hP hS dX6_buy_498
      · replace hf := ift h36 hf
        refine lv_iload_n S.1 S.2.1 dX6_buy_344 rfl (lv_at hl 4 rfl) ?_
        refine lv_i2l (v := a3.toInt64) S.1 S.2.1 dX6_buy_345 rfl ?_
        refine lv_goto (tgt := 352) S.1 S.2.1 dX6_buy_346 (by decide) ?_
        obtain ⟨h37, hf⟩ := gd_some hf
        refine x_last S hI hK hP hS 1 (by decide) m1 h37 (entM E ad (sL M35 1 (ix (F_X6_part v10 (2 : Int32))) a3.toInt64)) n1 (fun _ h => entM_sL _ h) dX6_buy_352 (fun H locs hP hS => ?_)
        obtain ⟨M38, eM38, hf⟩ := bnd_some hf
        rw [← eM38] at hP
        refine lv_aload_n S.1 S.2.1 dX6_buy_353 rfl (lv_at hl 1 rfl) ?_
        refine x_get (v := .ref (ad 1)) S hK hP w_lay_X6 (ci := 6) rfl 0 (by decide) m0 0 (by decide) w_fl_X6_7 rfl rfl dX6_buy_354 ?_
        refine lv_iload S.1 S.2.1 dX6_buy_357 (lv_at hl 9 rfl) ?_
        refine lv_iconst (v := (3 : Int32)) S.1 S.2.1 dX6_buy_359 (by decide) ?_
        refine y_Si (As := [.int v10, .int (3 : Int32)]) S hK hN hP hS rfl (K_X6_part l E ad hI _ v10 (3 : Int32)  M38 _ rfl) (cS 2 S w_co_yX6_part w_in_X6 w_ml_X6_89 w_st_yX6_part hd_X6_part ⟨Nat.le_of_ble_eq_true rfl, Nat.le_of_ble_eq_true rfl⟩) hl.1 rfl rfl (Nat.le_of_ble_eq_true rfl) dX6_buy_360 ⟨Nat.zero_le _, Nat.zero_le _⟩ (fun H locs hP hS => ?_)
        refine lv_iload S.1 S.2.1 dX6_buy_363 (lv_at hl 5 rfl) ?_
        refine lv_i2l (v := a4.toInt64) S.1 S.2.1 dX6_buy_365 rfl ?_
        obtain ⟨h39, hf⟩ := gd_some hf
        refine x_last S hI hK hP hS 1 (by decide) m1 h39 (entM E ad (sL M38 1 (ix (F_X6_part v10 (3 : Int32))) a4.toInt64)) n1 (fun _ h => entM_sL _ h) dX6_buy_366 (fun H locs hP hS => ?_)
        obtain ⟨M40, eM40, hf⟩ := bnd_some hf
        rw [← eM40] at hP
        refine lv_aload_n S.1 S.2.1 dX6_buy_367 rfl (lv_at hl 1 rfl) ?_
        refine x_get (v := .ref (ad 1)) S hK hP w_lay_X6 (ci := 6) rfl 0 (by decide) m0 0 (by decide) w_fl_X6_7 rfl rfl dX6_buy_368 ?_
        refine lv_iload S.1 S.2.1 dX6_buy_371 (lv_at hl 9 rfl) ?_
        refine lv_iconst (v := (4 : Int32)) S.1 S.2.1 dX6_buy_373 (by decide) ?_
        refine y_Si (As := [.int v10, .int (4 : Int32)]) S hK hN hP hS rfl (K_X6_part l E ad hI _ v10 (4 : Int32)  M40 _ rfl) (cS 2 S w_co_yX6_part w_in_X6 w_ml_X6_89 w_st_yX6_part hd_X6_part ⟨Nat.le_of_ble_eq_true rfl, Nat.le_of_ble_eq_true rfl⟩) hl.1 rfl rfl (Nat.le_of_ble_eq_true rfl) dX6_buy_374 ⟨Nat.zero_le _, Nat.zero_le _⟩ (fun H locs hP hS => ?_)
        refine lv_iload S.1 S.2.1 dX6_buy_377 (lv_at hl 8 rfl) ?_
        refine lv_i2l (v := v9.toInt64) S.1 S.2.1 dX6_buy_379 rfl ?_
        obtain ⟨h41, hf⟩ := gd_some hf
        refine x_last S hI hK hP hS 1 (by decide) m1 h41 (entM E ad (sL M40 1 (ix (F_X6_part v10 (4 : Int32))) v9.toInt64)) n1 (fun _ h => entM_sL _ h) dX6_buy_380 (fun H locs hP hS => ?_)
        obtain ⟨M42, eM42, hf⟩ := bnd_some hf
        rw [← eM42] at hP
        refine lv_aload_n S.1 S.2.1 dX6_buy_381 rfl (lv_at hl 1 rfl) ?_
        refine x_get (v := .ref (ad 1)) S hK hP w_lay_X6 (ci := 6) rfl 0 (by decide) m0 0 (by decide) w_fl_X6_7 rfl rfl dX6_buy_382 ?_
        refine lv_iload S.1 S.2.1 dX6_buy_385 (lv_at hl 9 rfl) ?_
        refine lv_iconst (v := (5 : Int32)) S.1 S.2.1 dX6_buy_387 (by decide) ?_
        refine y_Si (As := [.int v10, .int (5 : Int32)]) S hK hN hP hS rfl (K_X6_part l E ad hI _ v10 (5 : Int32)  M42 _ rfl) (cS 2 S w_co_yX6_part w_in_X6 w_ml_X6_89 w_st_yX6_part hd_X6_part ⟨Nat.le_of_ble_eq_true rfl, Nat.le_of_ble_eq_true rfl⟩) hl.1 rfl rfl (Nat.le_of_ble_eq_true rfl) dX6_buy_388 ⟨Nat.zero_le _, Nat.zero_le _⟩ (fun H locs hP hS => ?_)
        refine lv_iload S.1 S.2.1 dX6_buy_391 (lv_at hl 6 rfl) ?_
        refine lv_i2l (v := a5.toInt64) S.1 S.2.1 dX6_buy_393 rfl ?_
        obtain ⟨h43, hf⟩ := gd_some hf
        refine x_last S hI hK hP hS 1 (by decide) m1 h43 (entM E ad (sL M42 1 (ix (F_X6_part v10 (5 : Int32))) a5.toInt64)) n1 (fun _ h => entM_sL _ h) dX6_buy_394 (fun H locs hP hS => ?_)
        obtain ⟨M44, eM44, hf⟩ := bnd_some hf
        rw [← eM44] at hP
        refine lv_aload_n S.1 S.2.1 dX6_buy_395 rfl (lv_at hl 1 rfl) ?_
        refine x_get (v := .ref (ad 1)) S hK hP w_lay_X6 (ci := 6) rfl 0 (by decide) m0 0 (by decide) w_fl_X6_7 rfl rfl dX6_buy_396 ?_
        refine lv_iload S.1 S.2.1 dX6_buy_399 (lv_at hl 9 rfl) ?_
        refine lv_bipush (v := (6 : Int32)) S.1 S.2.1 dX6_buy_401 (by decide) ?_
        refine y_Si (As := [.int v10, .int (6 : Int32)]) S hK hN hP hS rfl (K_X6_part l E ad hI _ v10 (6 : Int32)  M44 _ rfl) (cS 2 S w_co_yX6_part w_in_X6 w_ml_X6_89 w_st_yX6_part hd_X6_part ⟨Nat.le_of_ble_eq_true rfl, Nat.le_of_ble_eq_true rfl⟩) hl.1 rfl rfl (Nat.le_of_ble_eq_true rfl) dX6_buy_403 ⟨Nat.zero_le _, Nat.zero_le _⟩ (fun H locs hP hS => ?_)
        refine lv_lload S.1 S.2.1 dX6_buy_406 (lv_at hl 0 rfl) ?_
        obtain ⟨h45, hf⟩ := gd_some hf
        refine x_last S hI hK hP hS 1 (by decide) m1 h45 (entM E ad (sL M44 1 (ix (F_X6_part v10 (6 : Int32))) x31)) n1 (fun _ h => entM_sL _ h) dX6_buy_408 (fun H locs hP hS => ?_)
        obtain ⟨M46, eM46, hf⟩ := bnd_some hf
        rw [← eM46] at hP
        refine lv_aload_n S.1 S.2.1 dX6_buy_409 rfl (lv_at hl 1 rfl) ?_
        refine x_get (v := .ref (ad 1)) S hK hP w_lay_X6 (ci := 6) rfl 0 (by decide) m0 0 (by decide) w_fl_X6_7 rfl rfl dX6_buy_410 ?_
        refine lv_iload S.1 S.2.1 dX6_buy_413 (lv_at hl 9 rfl) ?_
        refine lv_bipush (v := (8 : Int32)) S.1 S.2.1 dX6_buy_415 (by decide) ?_
        refine y_Si (As := [.int v10, .int (8 : Int32)]) S hK hN hP hS rfl (K_X6_part l E ad hI _ v10 (8 : Int32)  M46 _ rfl) (cS 2 S w_co_yX6_part w_in_X6 w_ml_X6_89 w_st_yX6_part hd_X6_part ⟨Nat.le_of_ble_eq_true rfl, Nat.le_of_ble_eq_true rfl⟩) hl.1 rfl rfl (Nat.le_of_ble_eq_true rfl) dX6_buy_417 ⟨Nat.zero_le _, Nat.zero_le _⟩ (fun H locs hP hS => ?_)
        refine lv_aload_n S.1 S.2.1 dX6_buy_420 rfl (lv_at hl 1 rfl) ?_
        refine x_get (v := .ref (ad 1)) S hK hP w_lay_X6 (ci := 6) rfl 0 (by decide) m0 0 (by decide) w_fl_X6_7 rfl rfl dX6_buy_421 ?_
        refine lv_sipush (v := (5663 : Int32)) S.1 S.2.1 dX6_buy_424 (by decide) ?_
        refine x_laldc (j := 5663) S hK hP 1 (by decide) m1 (by decide) (by decide) dX6_buy_427 ?_
        obtain ⟨h47, hf⟩ := gd_some hf
        refine x_last S hI hK hP hS 1 (by decide) m1 h47 (entM E ad (sL M46 1 (ix (F_X6_part v10 (8 : Int32))) (gL M46 1 5663))) n1 (fun _ h => entM_sL _ h) dX6_buy_428 (fun H locs hP hS => ?_)
        obtain ⟨M48, eM48, hf⟩ := bnd_some hf
        rw [← eM48] at hP
        refine lv_aload_n S.1 S.2.1 dX6_buy_429 rfl (lv_at hl 1 rfl) ?_
        refine x_get (v := .ref (ad 1)) S hK hP w_lay_X6 (ci := 6) rfl 0 (by decide) m0 0 (by decide) w_fl_X6_7 rfl rfl dX6_buy_430 ?_
        refine lv_iload S.1 S.2.1 dX6_buy_433 (lv_at hl 9 rfl) ?_
        refine lv_bipush (v := (9 : Int32)) S.1 S.2.1 dX6_buy_435 (by decide) ?_
        refine y_Si (As := [.int v10, .int (9 : Int32)]) S hK hN hP hS rfl (K_X6_part l E ad hI _ v10 (9 : Int32)  M48 _ rfl) (cS 2 S w_co_yX6_part w_in_X6 w_ml_X6_89 w_st_yX6_part hd_X6_part ⟨Nat.le_of_ble_eq_true rfl, Nat.le_of_ble_eq_true rfl⟩) hl.1 rfl rfl (Nat.le_of_ble_eq_true rfl) dX6_buy_437 ⟨Nat.zero_le _, Nat.zero_le _⟩ (fun H locs hP hS => ?_)
        refine lv_iload S.1 S.2.1 dX6_buy_440 (lv_at hl 6 rfl) ?_
        refine lv_iconst (v := (1 : Int32)) S.1 S.2.1 dX6_buy_442 (by decide) ?_
        refine lv_icmp_le (tgt := 452) S.1 S.2.1 dX6_buy_443 (by decide) (fun h49 => ?_) (fun h49 => ?_)
        · replace hf := ift h49 hf
          refine lv_lconst (v := (0 : Int64)) S.1 S.2.1 dX6_buy_452 (by decide) ?_
          obtain ⟨h50, hf⟩ := gd_some hf
          refine x_last S hI hK hP hS 1 (by decide) m1 h50 (entM E ad (sL M48 1 (ix (F_X6_part v10 (9 : Int32))) (0 : Int64))) n1 (fun _ h => entM_sL _ h) dX6_buy_453 (fun H locs hP hS => ?_)
          obtain ⟨M51, eM51, hf⟩ := bnd_some hf
          rw [← eM51] at hP
          refine lv_aload_n S.1 S.2.1 dX6_buy_454 rfl (lv_at hl 1 rfl) ?_
          refine x_get (v := .ref (ad 1)) S hK hP w_lay_X6 (ci := 6) rfl 0 (by decide) m0 0 (by decide) w_fl_X6_7 rfl rfl dX6_buy_455 ?_
          refine lv_iload S.1 S.2.1 dX6_buy_458 (lv_at hl 8 rfl) ?_
          refine lv_iconst (v := (3 : Int32)) S.1 S.2.1 dX6_buy_460 (by decide) ?_
          refine y_Si (As := [.int v9, .int (3 : Int32)]) S hK hN hP hS rfl (K_X6_groupCell l E ad hI _ v9 (3 : Int32)  M51 _ rfl) (cS 2 S w_co_yX6_groupCell w_in_X6 w_ml_X6_55 w_st_yX6_groupCell hd_X6_groupCell ⟨Nat.le_of_ble_eq_true rfl, Nat.le_of_ble_eq_true rfl⟩) hl.1 rfl rfl (Nat.le_of_ble_eq_true rfl) dX6_buy_461 ⟨Nat.zero_le _, Nat.zero_le _⟩ (fun H locs hP hS => ?_)
          refine lv_dup2_11 S.1 S.2.1 dX6_buy_464 rfl rfl ?_
          obtain ⟨h52, hf⟩ := gd_some hf
          refine x_lald S hK hP 1 (by decide) m1 h52 dX6_buy_465 ?_
          refine lv_lload S.1 S.2.1 dX6_buy_466 (lv_at hl 0 rfl) ?_
          refine lv_ladd S.1 S.2.1 dX6_buy_468 ?_
          refine x_last S hI hK hP hS 1 (by decide) m1 h52 (entM E ad (sL M51 1 (ix (F_X6_groupCell v9 (3 : Int32))) ((gL M51 1 (ix (F_X6_groupCell v9 (3 : Int32)))) + x31))) n1 (fun _ h => entM_sL _ h) dX6_buy_469 (fun H locs hP hS => ?_)
          obtain ⟨M53, eM53, hf⟩ := bnd_some hf
          rw [← eM53] at hP
          refine lv_aload_n S.1 S.2.1 dX6_buy_470 rfl (lv_at hl 1 rfl) ?_
          refine x_get (v := .ref (ad 1)) S hK hP w_lay_X6 (ci := 6) rfl 0 (by decide) m0 0 (by decide) w_fl_X6_7 rfl rfl dX6_buy_471 ?_
          refine lv_sipush (v := (5671 : Int32)) S.1 S.2.1 dX6_buy_474 (by decide) ?_
          refine lv_dup2_11 S.1 S.2.1 dX6_buy_477 rfl rfl ?_
          refine x_laldc (j := 5671) S hK hP 1 (by decide) m1 (by decide) (by decide) dX6_buy_478 ?_
          refine lv_lload S.1 S.2.1 dX6_buy_479 (lv_at hl 0 rfl) ?_
          refine lv_ladd S.1 S.2.1 dX6_buy_481 ?_
          refine x_lastc (j := 5671) S hI hK hP hS 1 (by decide) m1 (by decide) (by decide) (entM E ad (sL M53 1 5671 ((gL M53 1 5671) + x31))) n1 (fun _ h => entM_sL _ h) dX6_buy_482 (fun H locs hP hS => ?_)
          obtain ⟨M54, eM54, hf⟩ := bnd_some hf
          rw [← eM54] at hP
          refine lv_aload_n S.1 S.2.1 dX6_buy_483 rfl (lv_at hl 1 rfl) ?_
          refine x_get (v := .ref (ad 1)) S hK hP w_lay_X6 (ci := 6) rfl 0 (by decide) m0 0 (by decide) w_fl_X6_7 rfl rfl dX6_buy_484 ?_
          refine lv_sipush (v := (5670 : Int32)) S.1 S.2.1 dX6_buy_487 (by decide) ?_
          refine lv_dup2_11 S.1 S.2.1 dX6_buy_490 rfl rfl ?_
          refine x_laldc (j := 5670) S hK hP 1 (by decide) m1 (by decide) (by decide) dX6_buy_491 ?_
          refine lv_lconst (v := (1 : Int64)) S.1 S.2.1 dX6_buy_492 (by decide) ?_
          refine lv_ladd S.1 S.2.1 dX6_buy_493 ?_
          refine x_lastc (j := 5670) S hI hK hP hS 1 (by decide) m1 (by decide) (by decide) (entM E ad (sL M54 1 5670 ((gL M54 1 5670) + (1 : Int64)))) n1 (fun _ h => entM_sL _ h) dX6_buy_494 (fun H locs hP hS => ?_)
          obtain ⟨M55, eM55, hf⟩ := bnd_some hf
          rw [← eM55] at hP
          refine lv_iload S.1 S.2.1 dX6_buy_495 (lv_at hl 9 rfl) ?_
          refine lv_i2l (v := v10.toInt64) S.1 S.2.1 dX6_buy_497 rfl ?_
          cases hf
          exact r_l S hr hlk hP hS dX6_buy_498
        · replace hf := iff_ h49 hf
          refine lv_iload S.1 S.2.1 dX6_buy_446 (lv_at hl 7 rfl) ?_
          refine lv_i2l (v := a6.toInt64) S.1 S.2.1 dX6_buy_448 rfl ?_
          refine lv_goto (tgt := 453) S.1 S.2.1 dX6_buy_449 (by decide) ?_
          obtain ⟨h56, hf⟩ := gd_some hf
          refine x_last S hI hK hP hS 1 (by decide) m1 h56 (entM E ad (sL M48 1 (ix (F_X6_part v10 (9 : Int32))) a6.toInt64)) n1 (fun _ h => entM_sL _ h) dX6_buy_453 (fun H locs hP hS => ?_)
          obtain ⟨M57, eM57, hf⟩ := bnd_some hf
          rw [← eM57] at hP
          refine lv_aload_n S.1 S.2.1 dX6_buy_454 rfl (lv_at hl 1 rfl) ?_
          refine x_get (v := .ref (ad 1)) S hK hP w_lay_X6 (ci := 6) rfl 0 (by decide) m0 0 (by decide) w_fl_X6_7 rfl rfl dX6_buy_455 ?_
          refine lv_iload S.1 S.2.1 dX6_buy_458 (lv_at hl 8 rfl) ?_
          refine lv_iconst (v := (3 : Int32)) S.1 S.2.1 dX6_buy_460 (by decide) ?_
          refine y_Si (As := [.int v9, .int (3 : Int32)]) S hK hN hP hS rfl (K_X6_groupCell l E ad hI _ v9 (3 : Int32)  M57 _ rfl) (cS 2 S w_co_yX6_groupCell w_in_X6 w_ml_X6_55 w_st_yX6_groupCell hd_X6_groupCell ⟨Nat.le_of_ble_eq_true rfl, Nat.le_of_ble_eq_true rfl⟩) hl.1 rfl rfl (Nat.le_of_ble_eq_true rfl) dX6_buy_461 ⟨Nat.zero_le _, Nat.zero_le _⟩ (fun H locs hP hS => ?_)
          refine lv_dup2_11 S.1 S.2.1 dX6_buy_464 rfl rfl ?_
          obtain ⟨h58, hf⟩ := gd_some hf
          refine x_lald S hK hP 1 (by decide) m1 h58 dX6_buy_465 ?_
          refine lv_lload S.1 S.2.1 dX6_buy_466 (lv_at hl 0 rfl) ?_
          refine lv_ladd S.1 S.2.1 dX6_buy_468 ?_
          refine x_last S hI hK hP hS 1 (by decide) m1 h58 (entM E ad (sL M57 1 (ix (F_X6_groupCell v9 (3 : Int32))) ((gL M57 1 (ix (F_X6_groupCell v9 (3 : Int32)))) + x31))) n1 (fun _ h => entM_sL _ h) dX6_buy_469 (fun H locs hP hS => ?_)
          obtain ⟨M59, eM59, hf⟩ := bnd_some hf
          rw [← eM59] at hP
          refine lv_aload_n S.1 S.2.1 dX6_buy_470 rfl (lv_at hl 1 rfl) ?_
          refine x_get (v := .ref (ad 1)) S hK hP w_lay_X6 (ci := 6) rfl 0 (by decide) m0 0 (by decide) w_fl_X6_7 rfl rfl dX6_buy_471 ?_
          refine lv_sipush (v := (5671 : Int32)) S.1 S.2.1 dX6_buy_474 (by decide) ?_
          refine lv_dup2_11 S.1 S.2.1 dX6_buy_477 rfl rfl ?_
          refine x_laldc (j := 5671) S hK hP 1 (by decide) m1 (by decide) (by decide) dX6_buy_478 ?_
          refine lv_lload S.1 S.2.1 dX6_buy_479 (lv_at hl 0 rfl) ?_
          refine lv_ladd S.1 S.2.1 dX6_buy_481 ?_
          refine x_lastc (j := 5671) S hI hK hP hS 1 (by decide) m1 (by decide) (by decide) (entM E ad (sL M59 1 5671 ((gL M59 1 5671) + x31))) n1 (fun _ h => entM_sL _ h) dX6_buy_482 (fun H locs hP hS => ?_)
          obtain ⟨M60, eM60, hf⟩ := bnd_some hf
          rw [← eM60] at hP
          refine lv_aload_n S.1 S.2.1 dX6_buy_483 rfl (lv_at hl 1 rfl) ?_
          refine x_get (v := .ref (ad 1)) S hK hP w_lay_X6 (ci := 6) rfl 0 (by decide) m0 0 (by decide) w_fl_X6_7 rfl rfl dX6_buy_484 ?_
          refine lv_sipush (v := (5670 : Int32)) S.1 S.2.1 dX6_buy_487 (by decide) ?_
          refine lv_dup2_11 S.1 S.2.1 dX6_buy_490 rfl rfl ?_
          refine x_laldc (j := 5670) S hK hP 1 (by decide) m1 (by decide) (by decide) dX6_buy_491 ?_
          refine lv_lconst (v := (1 : Int64)) S.1 S.2.1 dX6_buy_492 (by decide) ?_
          refine lv_ladd S.1 S.2.1 dX6_buy_493 ?_
          refine x_lastc (j := 5670) S hI hK hP hS 1 (by decide) m1 (by decide) (by decide) (entM E ad (sL M60 1 5670 ((gL M60 1 5670) + (1 : Int64)))) n1 (fun _ h => entM_sL _ h) dX6_buy_494 (fun H locs hP hS => ?_)
          obtain ⟨M61, eM61, hf⟩ := bnd_some hf
          rw [← eM61] at hP
          refine lv_iload S.1 S.2.1 dX6_buy_495 (lv_at hl 9 rfl) ?_
          refine lv_i2l (v := v10.toInt64) S.1 S.2.1 dX6_buy_497 rfl ?_
          cases hf
          exact r_l S hr hlk hP hS dX6_buy_498
    · replace hf := iff_ h29 hf
      refine lv_aload_n S.1 S.2.1 dX6_buy_243 rfl (lv_at hl 0 rfl) ?_
      refine x_get (v := .ref (ad 1)) S hK hP w_lay_X6 (ci := 6) rfl 0 (by decide) m0 0 (by decide) w_fl_X6_7 rfl rfl dX6_buy_244 ?_
      refine lv_sipush (v := (863 : Int32)) S.1 S.2.1 dX6_buy_247 (by decide) ?_
      refine lv_bipush (v := (60 : Int32)) S.1 S.2.1 dX6_buy_250 (by decide) ?_
      refine lv_iload S.1 S.2.1 dX6_buy_252 (lv_at hl 8 rfl) ?_
      refine lv_imul S.1 S.2.1 dX6_buy_254 ?_
      refine lv_iadd S.1 S.2.1 dX6_buy_255 ?_
      refine lv_iload S.1 S.2.1 dX6_buy_256 (lv_at hl 9 rfl) ?_
      refine lv_iadd S.1 S.2.1 dX6_buy_258 ?_
      refine lv_lconst (v := (0 : Int64)) S.1 S.2.1 dX6_buy_259 (by decide) ?_
      obtain ⟨h87, hf⟩ := gd_some hf
      refine x_last S hI hK hP hS 1 (by decide) m1 h87 (entM E ad (sL M 1 (ix (((863 : Int32) + ((60 : Int32) * v10)) + v11)) (0 : Int64))) n1 (fun _ h => entM_sL _ h) dX6_buy_260 (fun H locs hP hS => ?_)
      obtain ⟨M88, eM88, hf⟩ := bnd_some hf
      rw [← eM88] at hP
      refine lv_aload_n S.1 S.2.1 dX6_buy_261 rfl (lv_at hl 0 rfl) ?_
      refine x_get (v := .ref (ad 1)) S hK hP w_lay_X6 (ci := 6) rfl 0 (by decide) m0 0 (by decide) w_fl_X6_7 rfl rfl dX6_buy_262 ?_
      refine lv_sipush (v := (3263 : Int32)) S.1 S.2.1 dX6_buy_265 (by decide) ?_
      refine lv_bipush (v := (60 : Int32)) S.1 S.2.1 dX6_buy_268 (by decide) ?_
      refine lv_iload S.1 S.2.1 dX6_buy_270 (lv_at hl 8 rfl) ?_
      refine lv_imul S.1 S.2.1 dX6_buy_272 ?_
      refine lv_iadd S.1 S.2.1 dX6_buy_273 ?_
      refine lv_iload S.1 S.2.1 dX6_buy_274 (lv_at hl 9 rfl) ?_
      refine lv_iadd S.1 S.2.1 dX6_buy_276 ?_
      refine lv_lconst (v := (0 : Int64)) S.1 S.2.1 dX6_buy_277 (by decide) ?_
      obtain ⟨h89, hf⟩ := gd_some hf
      refine x_last S hI hK hP hS 1 (by decide) m1 h89 (entM E ad (sL M88 1 (ix (((3263 : Int32) + ((60 : Int32) * v10)) + v11)) (0 : Int64))) n1 (fun _ h => entM_sL _ h) dX6_buy_278 (fun H locs hP hS => ?_)
      obtain ⟨M90, eM90, hf⟩ := bnd_some hf
      rw [← eM90] at hP
      refine lv_iinc (v := v11 + (1 : Int32)) (lv' := [(11, .int (v11 + (1 : Int32))), (0, .ref (ad 0)), (1, .int a1), (2, .int a2), (3, .int a3), (4, .int a4), (5, .int a5), (6, .int a6), (9, .int v9), (10, .int v10)]) S.1 S.2.1 dX6_buy_279 hl (k := 9) rfl rfl (by decide) rfl (fun ls hl => ?_)
      refine lv_goto (tgt := 236) S.1 S.2.1 dX6_buy_282 (by decide) ?_
      exact ih v9 v10 (v11 + (1 : Int32))  M90 hf _ _ _ hP hS (lv_sub hl [1, 2, 3, 4, 5, 6, 7, 8, 9, 0] rfl)
set_option maxHeartbeats 4000000 in
set_option maxRecDepth 100000 in
theorem L_X6_buy_207 (l : Launch) (E : EE) (ad : Nat → Nat) (hI : ad_I ad 7) (N : Nat) (a1 : Int32) (a2 : Int32) (a3 : Int32) (a4 : Int32) (a5 : Int32) (a6 : Int32)  {p : Program} {e : Env} {s : State} {m : MethodId} {below : List Frame} {meth : Method} {c : Code} (S : CallFix p m c cX6_buy 13 s [.ref (ad 0), .int a1, .int a2, .int a3, .int a4, .int a5, .int a6].toArray bg_B "SurvivorPurseModel") (hr : meth.sig.returnType = (some .long)) (hlk : meth.locks = false) (hK : va_K E.1 vwCl (tysE E) s) (hN : NW s) (r : Int64) (M' : MM) : ∀ (fu : Nat) (v9 : Int32) (v10 : Int32) (v11 : Int32)  (M : MM), F_X6_buy_207 N a1 a2 a3 a4 a5 a6 fu v9 v10 v11 M = some (r, M') → ∀ (H : Heap) (locs : List Loc) (ls : Array Slot), va_P E.1 vwCl (mw (entM E ad M) ad 7) H → va_S (AA ad 7 s.heap.size) s.heap H locs → lv_has ls 13 [(0, .ref (ad 0)), (1, .int a1), (2, .int a2), (3, .int a3), (4, .int a4), (5, .int a5), (6, .int a6), (9, .int v9), (10, .int v10), (11, .int v11)] → W p l e { frames := 2, cells := 0, slots := 0, locals := 48 } s m [.ref (ad 0), .int a1, .int a2, .int a3, .int a4, .int a5, .int a6].toArray below meth c H locs 0 0 (MQ below (va_Ql (fun r0 (_ : Unit) => r0 = r) (fun _ t => QB E (entM E ad M') ad 7 t) (AA ad 7 s.heap.size)) [.ref (ad 0), .int a1, .int a2, .int a3, .int a4, .int a5, .int a6].toArray s 0 0 (AA ad 7 s.heap.size)) (F0 m 207 ls []) := by
  intro fu
  induction fu with
  | zero =>
    intro v9 v10 v11 M hf
    rw [F_X6_buy_207] at hf
    cases hf
  | succ fu ih =>
    intro v9 v10 v11 M hf H locs ls hP hS hl
    rw [F_X6_buy_207] at hf
    refine lv_iload S.1 S.2.1 dX6_buy_207 (lv_at hl 9 rfl) ?_
    refine lv_bipush (v := (14 : Int32)) S.1 S.2.1 dX6_buy_209 (by decide) ?_
    refine lv_icmp_ge (tgt := 233) S.1 S.2.1 dX6_buy_211 (by decide) (fun h26 => ?_) (fun h26 => ?_)
    · replace hf := ift h26 hf
      refine lv_iconst (v := (0 : Int32)) S.1 S.2.1 dX6_buy_233 (by decide) ?_
      refine lv_istore (lv' := [(11, .int (0 : Int32)), (0, .ref (ad 0)), (1, .int a1), (2, .int a2), (3, .int a3), (4, .int a4), (5, .int a5), (6, .int a6), (9, .int v9), (10, .int v10)]) S.1 S.2.1 dX6_buy_234 hl (by decide) rfl (fun ls hl => ?_)
      exact L_X6_buy_236 l E ad hI N a1 a2 a3 a4 a5 a6  S hr hlk hK hN _ _ N v9 v10 (0 : Int32)  M hf _ _ _ hP hS (lv_sub hl [1, 2, 3, 4, 5, 6, 7, 8, 9, 0] rfl)
    · replace hf := iff_ h26 hf
      refine lv_aload_n S.1 S.2.1 dX6_buy_214 rfl (lv_at hl 0 rfl) ?_
      refine x_get (v := .ref (ad 1)) S hK hP w_lay_X6 (ci := 6) rfl 0 (by decide) m0 0 (by decide) w_fl_X6_7 rfl rfl dX6_buy_215 ?_
      refine lv_iload S.1 S.2.1 dX6_buy_218 (lv_at hl 8 rfl) ?_
      refine lv_iload S.1 S.2.1 dX6_buy_220 (lv_at hl 9 rfl) ?_
      refine y_Si (As := [.int v10, .int v11]) S hK hN hP hS rfl (K_X6_part l E ad hI _ v10 v11  M _ rfl) (cS 2 S w_co_yX6_part w_in_X6 w_ml_X6_89 w_st_yX6_part hd_X6_part ⟨Nat.le_of_ble_eq_true rfl, Nat.le_of_ble_eq_true rfl⟩) hl.1 rfl rfl (Nat.le_of_ble_eq_true rfl) dX6_buy_222 ⟨Nat.zero_le _, Nat.zero_le _⟩ (fun H locs hP hS => ?_)
      refine lv_lconst (v := (0 : Int64)) S.1 S.2.1 dX6_buy_225 (by decide) ?_
      obtain ⟨h27, hf⟩ := gd_some hf
      refine x_last S hI hK hP hS 1 (by decide) m1 h27 (entM E ad (sL M 1 (ix (F_X6_part v10 v11)) (0 : Int64))) n1 (fun _ h => entM_sL _ h) dX6_buy_226 (fun H locs hP hS => ?_)
      obtain ⟨M28, eM28, hf⟩ := bnd_some hf
      rw [← eM28] at hP
      refine lv_iinc (v := v11 + (1 : Int32)) (lv' := [(11, .int (v11 + (1 : Int32))), (0, .ref (ad 0)), (1, .int a1), (2, .int a2), (3, .int a3), (4, .int a4), (5, .int a5), (6, .int a6), (9, .int v9), (10, .int v10)]) S.1 S.2.1 dX6_buy_227 hl (k := 9) rfl rfl (by decide) rfl (fun ls hl => ?_)
      refine lv_goto (tgt := 207) S.1 S.2.1 dX6_buy_230 (by decide) ?_
      exact ih v9 v10 (v11 + (1 : Int32))  M28 hf _ _ _ hP hS (lv_sub hl [1, 2, 3, 4, 5, 6, 7, 8, 9, 0] rfl)
set_option maxHeartbeats 4000000 in
set_option maxRecDepth 100000 in
theorem L_X6_buy_152 (l : Launch) (E : EE) (ad : Nat → Nat) (hI : ad_I ad 7) (N : Nat) (a1 : Int32) (a2 : Int32) (a3 : Int32) (a4 : Int32) (a5 : Int32) (a6 : Int32)  {p : Program} {e : Env} {s : State} {m : MethodId} {below : List Frame} {meth : Method} {c : Code} (S : CallFix p m c cX6_buy 13 s [.ref (ad 0), .int a1, .int a2, .int a3, .int a4, .int a5, .int a6].toArray bg_B "SurvivorPurseModel") (hr : meth.sig.returnType = (some .long)) (hlk : meth.locks = false) (hK : va_K E.1 vwCl (tysE E) s) (hN : NW s) (r : Int64) (M' : MM) : ∀ (v7 : Int64)  (M : MM), F_X6_buy_152 N a1 a2 a3 a4 a5 a6 v7 M = some (r, M') → ∀ (H : Heap) (locs : List Loc) (ls : Array Slot), va_P E.1 vwCl (mw (entM E ad M) ad 7) H → va_S (AA ad 7 s.heap.size) s.heap H locs → lv_has ls 13 [(0, .ref (ad 0)), (1, .int a1), (2, .int a2), (3, .int a3), (4, .int a4), (5, .int a5), (6, .int a6), (7, .long v7)] → W p l e { frames := 2, cells := 0, slots := 0, locals := 48 } s m [.ref (ad 0), .int a1, .int a2, .int a3, .int a4, .int a5, .int a6].toArray below meth c H locs 0 0 (MQ below (va_Ql (fun r0 (_ : Unit) => r0 = r) (fun _ t => QB E (entM E ad M') ad 7 t) (AA ad 7 s.heap.size)) [.ref (ad 0), .int a1, .int a2, .int a3, .int a4, .int a5, .int a6].toArray s 0 0 (AA ad 7 s.heap.size)) (F0 m 152 ls []) := by
  intro v7 M hf H locs ls hP hS hl
  rw [F_X6_buy_152] at hf
  refine lv_aload_n S.1 S.2.1 dX6_buy_152 rfl (lv_at hl 0 rfl) ?_
  refine lv_aload_n S.1 S.2.1 dX6_buy_153 rfl (lv_at hl 0 rfl) ?_
  refine x_get (v := .ref (ad 1)) S hK hP w_lay_X6 (ci := 6) rfl 0 (by decide) m0 0 (by decide) w_fl_X6_7 rfl rfl dX6_buy_154 ?_
  refine lv_sipush (v := (5663 : Int32)) S.1 S.2.1 dX6_buy_157 (by decide) ?_
  refine x_laldc (j := 5663) S hK hP 1 (by decide) m1 (by decide) (by decide) dX6_buy_160 ?_
  refine lv_lload S.1 S.2.1 dX6_buy_161 (lv_at hl 7 rfl) ?_
  refine lv_lsub S.1 S.2.1 dX6_buy_163 ?_
  obtain ⟨x22, gx22, hf⟩ := bn1_some hf
  refine y_Vi (As := [.long ((gL M 1 5663) - v7)]) S hK hN hP hS rfl (by decide) m0 rfl (K_X6_classFor l E ad hI _ N ((gL M 1 5663) - v7)  M x22 gx22) (cV 1 S w_co_yX6_classFor w_in_X6 w_ml_X6_83 w_im_yX6_classFor w_se_yX6_classFor hd_X6_classFor ⟨Nat.le_of_ble_eq_true rfl, Nat.le_of_ble_eq_true rfl⟩) hl.1 rfl rfl (Nat.le_of_ble_eq_true rfl) dX6_buy_164 ⟨Nat.zero_le _, Nat.zero_le _⟩ (fun H locs hP hS => ?_)
  refine lv_istore (lv' := [(9, .int x22), (0, .ref (ad 0)), (1, .int a1), (2, .int a2), (3, .int a3), (4, .int a4), (5, .int a5), (6, .int a6), (7, .long v7)]) S.1 S.2.1 dX6_buy_167 hl (by decide) rfl (fun ls hl => ?_)
  refine lv_iload S.1 S.2.1 dX6_buy_169 (lv_at hl 0 rfl) ?_
  refine lv_if_lt (tgt := 189) S.1 S.2.1 dX6_buy_171 (by decide) (fun h23 => ?_) (fun h23 => ?_)
  · replace hf := ift h23 hf
    refine lv_ldc2 (own := "SurvivorPurseModel") (v := (-1000000000000000 : Int64)) S.1 S.2.1 S.2.2.2.1 (S.2.2.2.2 _ w_kl_X6_41) dX6_buy_189 ?_
    cases hf
    exact r_l S hr hlk hP hS dX6_buy_192
  · replace hf := iff_ h23 hf
    refine lv_aload_n S.1 S.2.1 dX6_buy_174 rfl (lv_at hl 1 rfl) ?_
    refine x_get (v := .ref (ad 1)) S hK hP w_lay_X6 (ci := 6) rfl 0 (by decide) m0 0 (by decide) w_fl_X6_7 rfl rfl dX6_buy_175 ?_
    refine lv_sipush (v := (5670 : Int32)) S.1 S.2.1 dX6_buy_178 (by decide) ?_
    refine x_laldc (j := 5670) S hK hP 1 (by decide) m1 (by decide) (by decide) dX6_buy_181 ?_
    refine lv_ldc2 (own := "SurvivorPurseModel") (v := (40 : Int64)) S.1 S.2.1 S.2.2.2.1 (S.2.2.2.2 _ w_kl_X6_87) dX6_buy_182 ?_
    refine ll_ne (tgt := 193) S dX6_buy_185 dX6_buy_186 (by decide) (fun h24 => ?_) (fun h24 => ?_)
    · replace hf := iff_ h24 hf
      refine lv_aload_n S.1 S.2.1 dX6_buy_193 rfl (lv_at hl 1 rfl) ?_
      refine x_get (v := .ref (ad 1)) S hK hP w_lay_X6 (ci := 6) rfl 0 (by decide) m0 0 (by decide) w_fl_X6_7 rfl rfl dX6_buy_194 ?_
      refine lv_sipush (v := (5670 : Int32)) S.1 S.2.1 dX6_buy_197 (by decide) ?_
      refine x_laldc (j := 5670) S hK hP 1 (by decide) m1 (by decide) (by decide) dX6_buy_200 ?_
      refine lv_l2i (v := (gL M 1 5670).toInt32) S.1 S.2.1 dX6_buy_201 rfl ?_
      obtain ⟨x25, ex25, hf⟩ := bnd_some hf
      refine lv_rei ex25 ?_
      refine lv_istore (lv' := [(10, .int x25), (9, .int x22), (0, .ref (ad 0)), (1, .int a1), (2, .int a2), (3, .int a3), (4, .int a4), (5, .int a5), (6, .int a6), (7, .long v7)]) S.1 S.2.1 dX6_buy_202 hl (by decide) rfl (fun ls hl => ?_)
      refine lv_iconst (v := (0 : Int32)) S.1 S.2.1 dX6_buy_204 (by decide) ?_
      refine lv_istore (lv' := [(11, .int (0 : Int32)), (10, .int x25), (9, .int x22), (0, .ref (ad 0)), (1, .int a1), (2, .int a2), (3, .int a3), (4, .int a4), (5, .int a5), (6, .int a6), (7, .long v7)]) S.1 S.2.1 dX6_buy_205 hl (by decide) rfl (fun ls hl => ?_)
      exact L_X6_buy_207 l E ad hI N a1 a2 a3 a4 a5 a6  S hr hlk hK hN _ _ N x22 x25 (0 : Int32)  M hf _ _ _ hP hS (lv_sub hl [3, 4, 5, 6, 7, 8, 9, 2, 1, 0] rfl)
    · replace hf := ift h24 hf
      refine lv_ldc2 (own := "SurvivorPurseModel") (v := (-1000000000000000 : Int64)) S.1 S.2.1 S.2.2.2.1 (S.2.2.2.2 _ w_kl_X6_41) dX6_buy_189 ?_
      cases hf
      exact r_l S hr hlk hP hS dX6_buy_192
set_option maxHeartbeats 4000000 in
set_option maxRecDepth 100000 in
theorem L_X6_buy_106 (l : Launch) (E : EE) (ad : Nat → Nat) (hI : ad_I ad 7) (N : Nat) (a1 : Int32) (a2 : Int32) (a3 : Int32) (a4 : Int32) (a5 : Int32) (a6 : Int32)  {p : Program} {e : Env} {s : State} {m : MethodId} {below : List Frame} {meth : Method} {c : Code} (S : CallFix p m c cX6_buy 13 s [.ref (ad 0), .int a1, .int a2, .int a3, .int a4, .int a5, .int a6].toArray bg_B "SurvivorPurseModel") (hr : meth.sig.returnType = (some .long)) (hlk : meth.locks = false) (hK : va_K E.1 vwCl (tysE E) s) (hN : NW s) (r : Int64) (M' : MM) : ∀   (M : MM), F_X6_buy_106 N a1 a2 a3 a4 a5 a6  M = some (r, M') → ∀ (H : Heap) (locs : List Loc) (ls : Array Slot), va_P E.1 vwCl (mw (entM E ad M) ad 7) H → va_S (AA ad 7 s.heap.size) s.heap H locs → lv_has ls 13 [(0, .ref (ad 0)), (1, .int a1), (2, .int a2), (3, .int a3), (4, .int a4), (5, .int a5), (6, .int a6)] → W p l e { frames := 2, cells := 0, slots := 0, locals := 48 } s m [.ref (ad 0), .int a1, .int a2, .int a3, .int a4, .int a5, .int a6].toArray below meth c H locs 0 0 (MQ below (va_Ql (fun r0 (_ : Unit) => r0 = r) (fun _ t => QB E (entM E ad M') ad 7 t) (AA ad 7 s.heap.size)) [.ref (ad 0), .int a1, .int a2, .int a3, .int a4, .int a5, .int a6].toArray s 0 0 (AA ad 7 s.heap.size)) (F0 m 106 ls []) := by
  intro M hf H locs ls hP hS hl
  rw [F_X6_buy_106] at hf
  refine lv_aload_n S.1 S.2.1 dX6_buy_106 rfl (lv_at hl 0 rfl) ?_
  refine x_get (v := .ref (ad 1)) S hK hP w_lay_X6 (ci := 6) rfl 0 (by decide) m0 0 (by decide) w_fl_X6_7 rfl rfl dX6_buy_107 ?_
  refine lv_iload_n S.1 S.2.1 dX6_buy_110 rfl (lv_at hl 2 rfl) ?_
  refine lv_iconst (v := (0 : Int32)) S.1 S.2.1 dX6_buy_111 (by decide) ?_
  refine y_Si (As := [.int a2, .int (0 : Int32)]) S hK hN hP hS rfl (K_X6_cellOf l E ad hI _ a2 (0 : Int32)  M _ rfl) (cS 2 S w_co_yX6_cellOf w_in_X6 w_ml_X6_63 w_st_yX6_cellOf hd_X6_cellOf ⟨Nat.le_of_ble_eq_true rfl, Nat.le_of_ble_eq_true rfl⟩) hl.1 rfl rfl (Nat.le_of_ble_eq_true rfl) dX6_buy_112 ⟨Nat.zero_le _, Nat.zero_le _⟩ (fun H locs hP hS => ?_)
  obtain ⟨h16, hf⟩ := gd_some hf
  refine x_lald S hK hP 1 (by decide) m1 h16 dX6_buy_115 ?_
  obtain ⟨x17, ex17, hf⟩ := bnd_some hf
  refine lv_rel ex17 ?_
  refine lv_lstore (lv' := [(7, .long x17), (0, .ref (ad 0)), (1, .int a1), (2, .int a2), (3, .int a3), (4, .int a4), (5, .int a5), (6, .int a6)]) S.1 S.2.1 dX6_buy_116 hl (by decide) rfl (fun ls hl => ?_)
  refine lv_iload S.1 S.2.1 dX6_buy_118 (lv_at hl 6 rfl) ?_
  refine lv_iconst (v := (1 : Int32)) S.1 S.2.1 dX6_buy_120 (by decide) ?_
  refine lv_icmp_ne (tgt := 152) S.1 S.2.1 dX6_buy_121 (by decide) (fun h18 => ?_) (fun h18 => ?_)
  · replace hf := iff_ h18 hf
    exact L_X6_buy_152 l E ad hI N a1 a2 a3 a4 a5 a6  S hr hlk hK hN _ _  x17  M hf _ _ _ hP hS (lv_sub hl [1, 2, 3, 4, 5, 6, 7, 0] rfl)
  · replace hf := ift h18 hf
    refine lv_aload_n S.1 S.2.1 dX6_buy_124 rfl (lv_at hl 1 rfl) ?_
    refine x_get (v := .ref (ad 1)) S hK hP w_lay_X6 (ci := 6) rfl 0 (by decide) m0 0 (by decide) w_fl_X6_7 rfl rfl dX6_buy_125 ?_
    refine lv_iload_n S.1 S.2.1 dX6_buy_128 rfl (lv_at hl 4 rfl) ?_
    refine lv_iconst (v := (0 : Int32)) S.1 S.2.1 dX6_buy_129 (by decide) ?_
    refine y_Si (As := [.int a3, .int (0 : Int32)]) S hK hN hP hS rfl (K_X6_cellOf l E ad hI _ a3 (0 : Int32)  M _ rfl) (cS 2 S w_co_yX6_cellOf w_in_X6 w_ml_X6_63 w_st_yX6_cellOf hd_X6_cellOf ⟨Nat.le_of_ble_eq_true rfl, Nat.le_of_ble_eq_true rfl⟩) hl.1 rfl rfl (Nat.le_of_ble_eq_true rfl) dX6_buy_130 ⟨Nat.zero_le _, Nat.zero_le _⟩ (fun H locs hP hS => ?_)
    obtain ⟨h19, hf⟩ := gd_some hf
    refine x_lald S hK hP 1 (by decide) m1 h19 dX6_buy_133 ?_
    refine lv_lload S.1 S.2.1 dX6_buy_134 (lv_at hl 0 rfl) ?_
    refine ll_le (tgt := 152) S dX6_buy_136 dX6_buy_137 (by decide) (fun h20 => ?_) (fun h20 => ?_)
    · replace hf := ift h20 hf
      exact L_X6_buy_152 l E ad hI N a1 a2 a3 a4 a5 a6  S hr hlk hK hN _ _  x17  M hf _ _ _ hP hS (lv_sub hl [1, 2, 3, 4, 5, 6, 7, 0] rfl)
    · replace hf := iff_ h20 hf
      refine lv_aload_n S.1 S.2.1 dX6_buy_140 rfl (lv_at hl 1 rfl) ?_
      refine x_get (v := .ref (ad 1)) S hK hP w_lay_X6 (ci := 6) rfl 0 (by decide) m0 0 (by decide) w_fl_X6_7 rfl rfl dX6_buy_141 ?_
      refine lv_iload_n S.1 S.2.1 dX6_buy_144 rfl (lv_at hl 4 rfl) ?_
      refine lv_iconst (v := (0 : Int32)) S.1 S.2.1 dX6_buy_145 (by decide) ?_
      refine y_Si (As := [.int a3, .int (0 : Int32)]) S hK hN hP hS rfl (K_X6_cellOf l E ad hI _ a3 (0 : Int32)  M _ rfl) (cS 2 S w_co_yX6_cellOf w_in_X6 w_ml_X6_63 w_st_yX6_cellOf hd_X6_cellOf ⟨Nat.le_of_ble_eq_true rfl, Nat.le_of_ble_eq_true rfl⟩) hl.1 rfl rfl (Nat.le_of_ble_eq_true rfl) dX6_buy_146 ⟨Nat.zero_le _, Nat.zero_le _⟩ (fun H locs hP hS => ?_)
      refine x_lald S hK hP 1 (by decide) m1 h19 dX6_buy_149 ?_
      obtain ⟨x21, ex21, hf⟩ := bnd_some hf
      refine lv_rel ex21 ?_
      refine lv_lstore (lv' := [(7, .long x21), (0, .ref (ad 0)), (1, .int a1), (2, .int a2), (3, .int a3), (4, .int a4), (5, .int a5), (6, .int a6)]) S.1 S.2.1 dX6_buy_150 hl (by decide) rfl (fun ls hl => ?_)
      exact L_X6_buy_152 l E ad hI N a1 a2 a3 a4 a5 a6  S hr hlk hK hN _ _  x21  M hf _ _ _ hP hS (lv_sub hl [1, 2, 3, 4, 5, 6, 7, 0] rfl)
set_option maxHeartbeats 4000000 in
set_option maxRecDepth 100000 in
theorem K_X6_buy (l : Launch) (E : EE) (ad : Nat → Nat) (hI : ad_I ad 7) (sz : Nat) (N : Nat) (a1 : Int32) (a2 : Int32) (a3 : Int32) (a4 : Int32) (a5 : Int32) (a6 : Int32)  (M : MM) (r : Int64) (M' : MM) (hf : F_X6_buy N a1 a2 a3 a4 a5 a6 M = some (r, M')) : CtL l yX6_buy cX6_buy 13 2 48 E (entM E ad M) (entM E ad M') ad 7 sz [.ref (ad 0), .int a1, .int a2, .int a3, .int a4, .int a5, .int a6] (r) := by
  unfold CtL
  refine body_of (by decide) "SurvivorPurseModel" rfl (Nat.le_of_ble_eq_true rfl) ?_
  intro p e s m below meth c hsz S hr hlk hP hK hN ls hl
  subst hsz
  have hS : va_S (AA ad 7 s.heap.size) s.heap s.heap [] := va_S.rf
  have hl : lv_has ls 13 [(0, .ref (ad 0)), (1, .int a1), (2, .int a2), (3, .int a3), (4, .int a4), (5, .int a5), (6, .int a6)] := hl
  rw [F_X6_buy] at hf
  refine lv_aload_n S.1 S.2.1 dX6_buy_0 rfl (lv_at hl 0 rfl) ?_
  refine lv_iload_n S.1 S.2.1 dX6_buy_1 rfl (lv_at hl 1 rfl) ?_
  refine y_Vi (As := [.int a1]) S hK hN hP hS rfl (by decide) m0 rfl (K_X6_isMember l E ad hI _ a1  M _ rfl) (cV 1 S w_co_yX6_isMember w_in_X6 w_ml_X6_66 w_im_yX6_isMember w_se_yX6_isMember hd_X6_isMember ⟨Nat.le_of_ble_eq_true rfl, Nat.le_of_ble_eq_true rfl⟩) hl.1 rfl rfl (Nat.le_of_ble_eq_true rfl) dX6_buy_2 ⟨Nat.zero_le _, Nat.zero_le _⟩ (fun H locs hP hS => ?_)
  refine lv_if_eq (tgt := 51) S.1 S.2.1 dX6_buy_5 (by decide) (fun h1 => ?_) (fun h1 => ?_)
  · replace hf := ift h1 hf
    refine lv_ldc2 (own := "SurvivorPurseModel") (v := (-1000000000000000 : Int64)) S.1 S.2.1 S.2.2.2.1 (S.2.2.2.2 _ w_kl_X6_41) dX6_buy_51 ?_
    cases hf
    exact r_l S hr hlk hP hS dX6_buy_54
  · replace hf := iff_ h1 hf
    refine lv_aload_n S.1 S.2.1 dX6_buy_8 rfl (lv_at hl 0 rfl) ?_
    refine lv_iload_n S.1 S.2.1 dX6_buy_9 rfl (lv_at hl 2 rfl) ?_
    refine y_Vi (As := [.int a2]) S hK hN hP hS rfl (by decide) m0 rfl (K_X6_isMember l E ad hI _ a2  M _ rfl) (cV 1 S w_co_yX6_isMember w_in_X6 w_ml_X6_66 w_im_yX6_isMember w_se_yX6_isMember hd_X6_isMember ⟨Nat.le_of_ble_eq_true rfl, Nat.le_of_ble_eq_true rfl⟩) hl.1 rfl rfl (Nat.le_of_ble_eq_true rfl) dX6_buy_10 ⟨Nat.zero_le _, Nat.zero_le _⟩ (fun H locs hP hS => ?_)
    refine lv_if_eq (tgt := 51) S.1 S.2.1 dX6_buy_13 (by decide) (fun h2 => ?_) (fun h2 => ?_)
    · replace hf := ift h2 hf
      refine lv_ldc2 (own := "SurvivorPurseModel") (v := (-1000000000000000 : Int64)) S.1 S.2.1 S.2.2.2.1 (S.2.2.2.2 _ w_kl_X6_41) dX6_buy_51 ?_
      cases hf
      exact r_l S hr hlk hP hS dX6_buy_54
    · replace hf := iff_ h2 hf
      refine lv_aload_n S.1 S.2.1 dX6_buy_16 rfl (lv_at hl 0 rfl) ?_
      refine lv_iload_n S.1 S.2.1 dX6_buy_17 rfl (lv_at hl 2 rfl) ?_
      refine lv_i2l (v := a2.toInt64) S.1 S.2.1 dX6_buy_18 rfl ?_
      obtain ⟨x3, gx3, hf⟩ := bn1_some hf
      refine y_Vi (As := [.long a2.toInt64]) S hK hN hP hS rfl (by decide) m0 rfl (K_X6_isDead l E ad hI _ N a2.toInt64  M x3 gx3) (cV 1 S w_co_yX6_isDead w_in_X6 w_ml_X6_75 w_im_yX6_isDead w_se_yX6_isDead hd_X6_isDead ⟨Nat.le_of_ble_eq_true rfl, Nat.le_of_ble_eq_true rfl⟩) hl.1 rfl rfl (Nat.le_of_ble_eq_true rfl) dX6_buy_19 ⟨Nat.zero_le _, Nat.zero_le _⟩ (fun H locs hP hS => ?_)
      refine lv_if_ne (tgt := 51) S.1 S.2.1 dX6_buy_22 (by decide) (fun h4 => ?_) (fun h4 => ?_)
      · replace hf := iff_ h4 hf
        refine lv_ldc2 (own := "SurvivorPurseModel") (v := (-1000000000000000 : Int64)) S.1 S.2.1 S.2.2.2.1 (S.2.2.2.2 _ w_kl_X6_41) dX6_buy_51 ?_
        cases hf
        exact r_l S hr hlk hP hS dX6_buy_54
      · replace hf := ift h4 hf
        refine lv_iload S.1 S.2.1 dX6_buy_25 (lv_at hl 5 rfl) ?_
        refine lv_i2l (v := a5.toInt64) S.1 S.2.1 dX6_buy_27 rfl ?_
        refine lv_lconst (v := (0 : Int64)) S.1 S.2.1 dX6_buy_28 (by decide) ?_
        refine lv_ldc2 (own := "SurvivorPurseModel") (v := (3 : Int64)) S.1 S.2.1 S.2.2.2.1 (S.2.2.2.2 _ w_kl_X6_79) dX6_buy_29 ?_
        refine y_Si (As := [.long a5.toInt64, .long (0 : Int64), .long (3 : Int64)]) S hK hN hP hS rfl (K_X6_in l E ad hI _ a5.toInt64 (0 : Int64) (3 : Int64)  M _ rfl) (cS 3 S w_co_yX6_in w_in_X6 w_ml_X6_35 w_st_yX6_in hd_X6_in ⟨Nat.le_of_ble_eq_true rfl, Nat.le_of_ble_eq_true rfl⟩) hl.1 rfl rfl (Nat.le_of_ble_eq_true rfl) dX6_buy_32 ⟨Nat.zero_le _, Nat.zero_le _⟩ (fun H locs hP hS => ?_)
        refine lv_if_eq (tgt := 51) S.1 S.2.1 dX6_buy_35 (by decide) (fun h5 => ?_) (fun h5 => ?_)
        · replace hf := ift h5 hf
          refine lv_ldc2 (own := "SurvivorPurseModel") (v := (-1000000000000000 : Int64)) S.1 S.2.1 S.2.2.2.1 (S.2.2.2.2 _ w_kl_X6_41) dX6_buy_51 ?_
          cases hf
          exact r_l S hr hlk hP hS dX6_buy_54
        · replace hf := iff_ h5 hf
          refine lv_iload S.1 S.2.1 dX6_buy_38 (lv_at hl 4 rfl) ?_
          refine lv_i2l (v := a4.toInt64) S.1 S.2.1 dX6_buy_40 rfl ?_
          refine lv_lconst (v := (1 : Int64)) S.1 S.2.1 dX6_buy_41 (by decide) ?_
          refine lv_ldc2 (own := "SurvivorPurseModel") (v := (1000 : Int64)) S.1 S.2.1 S.2.2.2.1 (S.2.2.2.2 _ w_kl_X6_45) dX6_buy_42 ?_
          refine y_Si (As := [.long a4.toInt64, .long (1 : Int64), .long (1000 : Int64)]) S hK hN hP hS rfl (K_X6_in l E ad hI _ a4.toInt64 (1 : Int64) (1000 : Int64)  M _ rfl) (cS 3 S w_co_yX6_in w_in_X6 w_ml_X6_35 w_st_yX6_in hd_X6_in ⟨Nat.le_of_ble_eq_true rfl, Nat.le_of_ble_eq_true rfl⟩) hl.1 rfl rfl (Nat.le_of_ble_eq_true rfl) dX6_buy_45 ⟨Nat.zero_le _, Nat.zero_le _⟩ (fun H locs hP hS => ?_)
          refine lv_if_ne (tgt := 55) S.1 S.2.1 dX6_buy_48 (by decide) (fun h6 => ?_) (fun h6 => ?_)
          · replace hf := iff_ h6 hf
            refine lv_iload S.1 S.2.1 dX6_buy_55 (lv_at hl 5 rfl) ?_
            refine lv_iconst (v := (1 : Int32)) S.1 S.2.1 dX6_buy_57 (by decide) ?_
            refine lv_icmp_ne (tgt := 83) S.1 S.2.1 dX6_buy_58 (by decide) (fun h7 => ?_) (fun h7 => ?_)
            · replace hf := iff_ h7 hf
              refine lv_iload S.1 S.2.1 dX6_buy_83 (lv_at hl 5 rfl) ?_
              refine lv_iconst (v := (1 : Int32)) S.1 S.2.1 dX6_buy_85 (by decide) ?_
              refine lv_icmp_le (tgt := 106) S.1 S.2.1 dX6_buy_86 (by decide) (fun h14 => ?_) (fun h14 => ?_)
              · replace hf := ift h14 hf
                exact L_X6_buy_106 l E ad hI N a1 a2 a3 a4 a5 a6  S hr hlk hK hN _ _    M hf _ _ _ hP hS (lv_sub hl [0, 1, 2, 3, 4, 5, 6] rfl)
              · replace hf := iff_ h14 hf
                refine lv_iload S.1 S.2.1 dX6_buy_89 (lv_at hl 6 rfl) ?_
                refine lv_i2l (v := a6.toInt64) S.1 S.2.1 dX6_buy_91 rfl ?_
                refine lv_lconst (v := (1 : Int64)) S.1 S.2.1 dX6_buy_92 (by decide) ?_
                refine lv_ldc2 (own := "SurvivorPurseModel") (v := (30 : Int64)) S.1 S.2.1 S.2.2.2.1 (S.2.2.2.2 _ w_kl_X6_81) dX6_buy_93 ?_
                refine y_Si (As := [.long a6.toInt64, .long (1 : Int64), .long (30 : Int64)]) S hK hN hP hS rfl (K_X6_in l E ad hI _ a6.toInt64 (1 : Int64) (30 : Int64)  M _ rfl) (cS 3 S w_co_yX6_in w_in_X6 w_ml_X6_35 w_st_yX6_in hd_X6_in ⟨Nat.le_of_ble_eq_true rfl, Nat.le_of_ble_eq_true rfl⟩) hl.1 rfl rfl (Nat.le_of_ble_eq_true rfl) dX6_buy_96 ⟨Nat.zero_le _, Nat.zero_le _⟩ (fun H locs hP hS => ?_)
                refine lv_if_ne (tgt := 106) S.1 S.2.1 dX6_buy_99 (by decide) (fun h15 => ?_) (fun h15 => ?_)
                · replace hf := iff_ h15 hf
                  exact L_X6_buy_106 l E ad hI N a1 a2 a3 a4 a5 a6  S hr hlk hK hN _ _    M hf _ _ _ hP hS (lv_sub hl [0, 1, 2, 3, 4, 5, 6] rfl)
                · replace hf := ift h15 hf
                  refine lv_ldc2 (own := "SurvivorPurseModel") (v := (-1000000000000000 : Int64)) S.1 S.2.1 S.2.2.2.1 (S.2.2.2.2 _ w_kl_X6_41) dX6_buy_102 ?_
                  cases hf
                  exact r_l S hr hlk hP hS dX6_buy_105
            · replace hf := ift h7 hf
              refine lv_aload_n S.1 S.2.1 dX6_buy_61 rfl (lv_at hl 0 rfl) ?_
              refine lv_iload_n S.1 S.2.1 dX6_buy_62 rfl (lv_at hl 3 rfl) ?_
              refine y_Vi (As := [.int a3]) S hK hN hP hS rfl (by decide) m0 rfl (K_X6_isMember l E ad hI _ a3  M _ rfl) (cV 1 S w_co_yX6_isMember w_in_X6 w_ml_X6_66 w_im_yX6_isMember w_se_yX6_isMember hd_X6_isMember ⟨Nat.le_of_ble_eq_true rfl, Nat.le_of_ble_eq_true rfl⟩) hl.1 rfl rfl (Nat.le_of_ble_eq_true rfl) dX6_buy_63 ⟨Nat.zero_le _, Nat.zero_le _⟩ (fun H locs hP hS => ?_)
              refine lv_if_eq (tgt := 102) S.1 S.2.1 dX6_buy_66 (by decide) (fun h8 => ?_) (fun h8 => ?_)
              · replace hf := ift h8 hf
                refine lv_ldc2 (own := "SurvivorPurseModel") (v := (-1000000000000000 : Int64)) S.1 S.2.1 S.2.2.2.1 (S.2.2.2.2 _ w_kl_X6_41) dX6_buy_102 ?_
                cases hf
                exact r_l S hr hlk hP hS dX6_buy_105
              · replace hf := iff_ h8 hf
                refine lv_iload_n S.1 S.2.1 dX6_buy_69 rfl (lv_at hl 3 rfl) ?_
                refine lv_iload_n S.1 S.2.1 dX6_buy_70 rfl (lv_at hl 2 rfl) ?_
                refine lv_icmp_eq (tgt := 102) S.1 S.2.1 dX6_buy_71 (by decide) (fun h9 => ?_) (fun h9 => ?_)
                · replace hf := ift h9 hf
                  refine lv_ldc2 (own := "SurvivorPurseModel") (v := (-1000000000000000 : Int64)) S.1 S.2.1 S.2.2.2.1 (S.2.2.2.2 _ w_kl_X6_41) dX6_buy_102 ?_
                  cases hf
                  exact r_l S hr hlk hP hS dX6_buy_105
                · replace hf := iff_ h9 hf
                  refine lv_aload_n S.1 S.2.1 dX6_buy_74 rfl (lv_at hl 0 rfl) ?_
                  refine lv_iload_n S.1 S.2.1 dX6_buy_75 rfl (lv_at hl 3 rfl) ?_
                  refine lv_i2l (v := a3.toInt64) S.1 S.2.1 dX6_buy_76 rfl ?_
                  obtain ⟨x10, gx10, hf⟩ := bn1_some hf
                  refine y_Vi (As := [.long a3.toInt64]) S hK hN hP hS rfl (by decide) m0 rfl (K_X6_isDead l E ad hI _ N a3.toInt64  M x10 gx10) (cV 1 S w_co_yX6_isDead w_in_X6 w_ml_X6_75 w_im_yX6_isDead w_se_yX6_isDead hd_X6_isDead ⟨Nat.le_of_ble_eq_true rfl, Nat.le_of_ble_eq_true rfl⟩) hl.1 rfl rfl (Nat.le_of_ble_eq_true rfl) dX6_buy_77 ⟨Nat.zero_le _, Nat.zero_le _⟩ (fun H locs hP hS => ?_)
                  refine lv_if_ne (tgt := 102) S.1 S.2.1 dX6_buy_80 (by decide) (fun h11 => ?_) (fun h11 => ?_)
                  · replace hf := iff_ h11 hf
                    refine lv_ldc2 (own := "SurvivorPurseModel") (v := (-1000000000000000 : Int64)) S.1 S.2.1 S.2.2.2.1 (S.2.2.2.2 _ w_kl_X6_41) dX6_buy_102 ?_
                    cases hf
                    exact r_l S hr hlk hP hS dX6_buy_105
                  · replace hf := ift h11 hf
                    refine lv_iload S.1 S.2.1 dX6_buy_83 (lv_at hl 5 rfl) ?_
                    refine lv_iconst (v := (1 : Int32)) S.1 S.2.1 dX6_buy_85 (by decide) ?_
                    refine lv_icmp_le (tgt := 106) S.1 S.2.1 dX6_buy_86 (by decide) (fun h12 => ?_) (fun h12 => ?_)
                    · replace hf := ift h12 hf
                      exact L_X6_buy_106 l E ad hI N a1 a2 a3 a4 a5 a6  S hr hlk hK hN _ _    M hf _ _ _ hP hS (lv_sub hl [0, 1, 2, 3, 4, 5, 6] rfl)
                    · replace hf := iff_ h12 hf
                      refine lv_iload S.1 S.2.1 dX6_buy_89 (lv_at hl 6 rfl) ?_
                      refine lv_i2l (v := a6.toInt64) S.1 S.2.1 dX6_buy_91 rfl ?_
                      refine lv_lconst (v := (1 : Int64)) S.1 S.2.1 dX6_buy_92 (by decide) ?_
                      refine lv_ldc2 (own := "SurvivorPurseModel") (v := (30 : Int64)) S.1 S.2.1 S.2.2.2.1 (S.2.2.2.2 _ w_kl_X6_81) dX6_buy_93 ?_
                      refine y_Si (As := [.long a6.toInt64, .long (1 : Int64), .long (30 : Int64)]) S hK hN hP hS rfl (K_X6_in l E ad hI _ a6.toInt64 (1 : Int64) (30 : Int64)  M _ rfl) (cS 3 S w_co_yX6_in w_in_X6 w_ml_X6_35 w_st_yX6_in hd_X6_in ⟨Nat.le_of_ble_eq_true rfl, Nat.le_of_ble_eq_true rfl⟩) hl.1 rfl rfl (Nat.le_of_ble_eq_true rfl) dX6_buy_96 ⟨Nat.zero_le _, Nat.zero_le _⟩ (fun H locs hP hS => ?_)
                      refine lv_if_ne (tgt := 106) S.1 S.2.1 dX6_buy_99 (by decide) (fun h13 => ?_) (fun h13 => ?_)
                      · replace hf := iff_ h13 hf
                        exact L_X6_buy_106 l E ad hI N a1 a2 a3 a4 a5 a6  S hr hlk hK hN _ _    M hf _ _ _ hP hS (lv_sub hl [0, 1, 2, 3, 4, 5, 6] rfl)
                      · replace hf := ift h13 hf
                        refine lv_ldc2 (own := "SurvivorPurseModel") (v := (-1000000000000000 : Int64)) S.1 S.2.1 S.2.2.2.1 (S.2.2.2.2 _ w_kl_X6_41) dX6_buy_102 ?_
                        cases hf
                        exact r_l S hr hlk hP hS dX6_buy_105
          · replace hf := ift h6 hf
            refine lv_ldc2 (own := "SurvivorPurseModel") (v := (-1000000000000000 : Int64)) S.1 S.2.1 S.2.2.2.1 (S.2.2.2.2 _ w_kl_X6_41) dX6_buy_51 ?_
            cases hf
            exact r_l S hr hlk hP hS dX6_buy_54
theorem hd_X6_sell : yX6_sell.cls ≠ "java/lang/invoke/MethodHandle" ∧ yX6_sell.cls ≠ "java/lang/invoke/VarHandle" ∧ (parseMethodDescriptor yX6_sell.desc).map (fun d => d.parameters.length) = some 2 := by decide +kernel
set_option maxHeartbeats 4000000 in
set_option maxRecDepth 100000 in
theorem K_X6_sell (l : Launch) (E : EE) (ad : Nat → Nat) (hI : ad_I ad 7) (sz : Nat) (N : Nat) (a1 : Int32) (a2 : Int32)  (M : MM) (r : Int64) (M' : MM) (hf : F_X6_sell N a1 a2 M = some (r, M')) : CtL l yX6_sell cX6_sell 5 2 46 E (entM E ad M) (entM E ad M') ad 7 sz [.ref (ad 0), .int a1, .int a2] (r) := by
  unfold CtL
  refine body_of (by decide) "SurvivorPurseModel" rfl (Nat.le_of_ble_eq_true rfl) ?_
  intro p e s m below meth c hsz S hr hlk hP hK hN ls hl
  subst hsz
  have hS : va_S (AA ad 7 s.heap.size) s.heap s.heap [] := va_S.rf
  have hl : lv_has ls 5 [(0, .ref (ad 0)), (1, .int a1), (2, .int a2)] := hl
  rw [F_X6_sell] at hf
  refine lv_aload_n S.1 S.2.1 dX6_sell_0 rfl (lv_at hl 0 rfl) ?_
  refine lv_iload_n S.1 S.2.1 dX6_sell_1 rfl (lv_at hl 1 rfl) ?_
  refine y_Vi (As := [.int a1]) S hK hN hP hS rfl (by decide) m0 rfl (K_X6_isShare l E ad hI _ a1  M _ rfl) (cV 1 S w_co_yX6_isShare w_in_X6 w_ml_X6_92 w_im_yX6_isShare w_se_yX6_isShare hd_X6_isShare ⟨Nat.le_of_ble_eq_true rfl, Nat.le_of_ble_eq_true rfl⟩) hl.1 rfl rfl (Nat.le_of_ble_eq_true rfl) dX6_sell_2 ⟨Nat.zero_le _, Nat.zero_le _⟩ (fun H locs hP hS => ?_)
  refine lv_if_eq (tgt := 16) S.1 S.2.1 dX6_sell_5 (by decide) (fun h1 => ?_) (fun h1 => ?_)
  · replace hf := ift h1 hf
    refine lv_ldc2 (own := "SurvivorPurseModel") (v := (-1000000000000000 : Int64)) S.1 S.2.1 S.2.2.2.1 (S.2.2.2.2 _ w_kl_X6_41) dX6_sell_16 ?_
    cases hf
    exact r_l S hr hlk hP hS dX6_sell_19
  · replace hf := iff_ h1 hf
    refine lv_aload_n S.1 S.2.1 dX6_sell_8 rfl (lv_at hl 0 rfl) ?_
    refine lv_iload_n S.1 S.2.1 dX6_sell_9 rfl (lv_at hl 2 rfl) ?_
    refine y_Vi (As := [.int a2]) S hK hN hP hS rfl (by decide) m0 rfl (K_X6_isMember l E ad hI _ a2  M _ rfl) (cV 1 S w_co_yX6_isMember w_in_X6 w_ml_X6_66 w_im_yX6_isMember w_se_yX6_isMember hd_X6_isMember ⟨Nat.le_of_ble_eq_true rfl, Nat.le_of_ble_eq_true rfl⟩) hl.1 rfl rfl (Nat.le_of_ble_eq_true rfl) dX6_sell_10 ⟨Nat.zero_le _, Nat.zero_le _⟩ (fun H locs hP hS => ?_)
    refine lv_if_ne (tgt := 20) S.1 S.2.1 dX6_sell_13 (by decide) (fun h2 => ?_) (fun h2 => ?_)
    · replace hf := iff_ h2 hf
      refine lv_aload_n S.1 S.2.1 dX6_sell_20 rfl (lv_at hl 0 rfl) ?_
      refine x_get (v := .ref (ad 1)) S hK hP w_lay_X6 (ci := 6) rfl 0 (by decide) m0 0 (by decide) w_fl_X6_7 rfl rfl dX6_sell_21 ?_
      refine lv_iload_n S.1 S.2.1 dX6_sell_24 rfl (lv_at hl 1 rfl) ?_
      refine lv_iconst (v := (0 : Int32)) S.1 S.2.1 dX6_sell_25 (by decide) ?_
      refine y_Si (As := [.int a1, .int (0 : Int32)]) S hK hN hP hS rfl (K_X6_part l E ad hI _ a1 (0 : Int32)  M _ rfl) (cS 2 S w_co_yX6_part w_in_X6 w_ml_X6_89 w_st_yX6_part hd_X6_part ⟨Nat.le_of_ble_eq_true rfl, Nat.le_of_ble_eq_true rfl⟩) hl.1 rfl rfl (Nat.le_of_ble_eq_true rfl) dX6_sell_26 ⟨Nat.zero_le _, Nat.zero_le _⟩ (fun H locs hP hS => ?_)
      obtain ⟨h3, hf⟩ := gd_some hf
      refine x_lald S hK hP 1 (by decide) m1 h3 dX6_sell_29 ?_
      obtain ⟨x4, ex4, hf⟩ := bnd_some hf
      refine lv_rel ex4 ?_
      refine lv_lstore_n (lv' := [(3, .long x4), (0, .ref (ad 0)), (1, .int a1), (2, .int a2)]) S.1 S.2.1 dX6_sell_30 rfl hl (by decide) rfl (fun ls hl => ?_)
      refine lv_aload_n S.1 S.2.1 dX6_sell_31 rfl (lv_at hl 1 rfl) ?_
      refine x_get (v := .ref (ad 1)) S hK hP w_lay_X6 (ci := 6) rfl 0 (by decide) m0 0 (by decide) w_fl_X6_7 rfl rfl dX6_sell_32 ?_
      refine lv_iload_n S.1 S.2.1 dX6_sell_35 rfl (lv_at hl 2 rfl) ?_
      refine lv_iconst (v := (0 : Int32)) S.1 S.2.1 dX6_sell_36 (by decide) ?_
      refine y_Si (As := [.int a1, .int (0 : Int32)]) S hK hN hP hS rfl (K_X6_part l E ad hI _ a1 (0 : Int32)  M _ rfl) (cS 2 S w_co_yX6_part w_in_X6 w_ml_X6_89 w_st_yX6_part hd_X6_part ⟨Nat.le_of_ble_eq_true rfl, Nat.le_of_ble_eq_true rfl⟩) hl.1 rfl rfl (Nat.le_of_ble_eq_true rfl) dX6_sell_37 ⟨Nat.zero_le _, Nat.zero_le _⟩ (fun H locs hP hS => ?_)
      refine lv_iload_n S.1 S.2.1 dX6_sell_40 rfl (lv_at hl 3 rfl) ?_
      refine lv_i2l (v := a2.toInt64) S.1 S.2.1 dX6_sell_41 rfl ?_
      refine x_last S hI hK hP hS 1 (by decide) m1 h3 (entM E ad (sL M 1 (ix (F_X6_part a1 (0 : Int32))) a2.toInt64)) n1 (fun _ h => entM_sL _ h) dX6_sell_42 (fun H locs hP hS => ?_)
      obtain ⟨M5, eM5, hf⟩ := bnd_some hf
      rw [← eM5] at hP
      refine lv_lload_n S.1 S.2.1 dX6_sell_43 rfl (lv_at hl 0 rfl) ?_
      cases hf
      exact r_l S hr hlk hP hS dX6_sell_44
    · replace hf := ift h2 hf
      refine lv_ldc2 (own := "SurvivorPurseModel") (v := (-1000000000000000 : Int64)) S.1 S.2.1 S.2.2.2.1 (S.2.2.2.2 _ w_kl_X6_41) dX6_sell_16 ?_
      cases hf
      exact r_l S hr hlk hP hS dX6_sell_19
theorem hd_X6_parts : yX6_parts.cls ≠ "java/lang/invoke/MethodHandle" ∧ yX6_parts.cls ≠ "java/lang/invoke/VarHandle" ∧ (parseMethodDescriptor yX6_parts.desc).map (fun d => d.parameters.length) = some 4 := by decide +kernel
set_option maxHeartbeats 4000000 in
set_option maxRecDepth 100000 in
theorem K_X6_parts (l : Launch) (E : EE) (ad : Nat → Nat) (hI : ad_I ad 7) (sz : Nat) (N : Nat) (a1 : Int32) (a2 : Int32) (a3 : Int64) (a4 : Int64)  (M : MM) (M' : MM) (hf : F_X6_parts N a1 a2 a3 a4 M = some M') : CtV l yX6_parts cX6_parts 9 0 0 E (entM E ad M) (entM E ad M') ad 7 sz [.ref (ad 0), .int a1, .int a2, .long a3, .long a4] := by
  unfold CtV
  refine body_of (by decide) "SurvivorPurseModel" rfl (Nat.le_of_ble_eq_true rfl) ?_
  intro p e s m below meth c hsz S hr hlk hP hK hN ls hl
  subst hsz
  have hS : va_S (AA ad 7 s.heap.size) s.heap s.heap [] := va_S.rf
  have hl : lv_has ls 9 [(0, .ref (ad 0)), (1, .int a1), (2, .int a2), (3, .long a3), (5, .long a4)] := hl
  rw [F_X6_parts] at hf
  refine lv_aload_n S.1 S.2.1 dX6_parts_0 rfl (lv_at hl 0 rfl) ?_
  refine x_get (v := .ref (ad 1)) S hK hP w_lay_X6 (ci := 6) rfl 0 (by decide) m0 0 (by decide) w_fl_X6_7 rfl rfl dX6_parts_1 ?_
  refine lv_iload_n S.1 S.2.1 dX6_parts_4 rfl (lv_at hl 1 rfl) ?_
  obtain ⟨h1, hf⟩ := gd_some hf
  refine x_lald S hK hP 1 (by decide) m1 h1 dX6_parts_5 ?_
  refine lv_lload_n S.1 S.2.1 dX6_parts_6 rfl (lv_at hl 3 rfl) ?_
  refine lv_lmul S.1 S.2.1 dX6_parts_7 ?_
  refine lv_lload S.1 S.2.1 dX6_parts_8 (lv_at hl 4 rfl) ?_
  obtain ⟨h2, hf⟩ := gd_some hf
  refine lv_ldiv S.1 S.2.1 dX6_parts_10 (nz_ne h2) ?_
  obtain ⟨x3, ex3, hf⟩ := bnd_some hf
  refine lv_rel ex3 ?_
  refine lv_lstore (lv' := [(7, .long x3), (0, .ref (ad 0)), (1, .int a1), (2, .int a2), (3, .long a3), (5, .long a4)]) S.1 S.2.1 dX6_parts_11 hl (by decide) rfl (fun ls hl => ?_)
  refine lv_aload_n S.1 S.2.1 dX6_parts_13 rfl (lv_at hl 1 rfl) ?_
  refine x_get (v := .ref (ad 1)) S hK hP w_lay_X6 (ci := 6) rfl 0 (by decide) m0 0 (by decide) w_fl_X6_7 rfl rfl dX6_parts_14 ?_
  refine lv_iload_n S.1 S.2.1 dX6_parts_17 rfl (lv_at hl 3 rfl) ?_
  refine lv_lload S.1 S.2.1 dX6_parts_18 (lv_at hl 0 rfl) ?_
  obtain ⟨h4, hf⟩ := gd_some hf
  refine x_last S hI hK hP hS 1 (by decide) m1 h4 (entM E ad (sL M 1 (ix a2) x3)) n1 (fun _ h => entM_sL _ h) dX6_parts_20 (fun H locs hP hS => ?_)
  obtain ⟨M5, eM5, hf⟩ := bnd_some hf
  rw [← eM5] at hP
  refine lv_aload_n S.1 S.2.1 dX6_parts_21 rfl (lv_at hl 1 rfl) ?_
  refine x_get (v := .ref (ad 1)) S hK hP w_lay_X6 (ci := 6) rfl 0 (by decide) m0 0 (by decide) w_fl_X6_7 rfl rfl dX6_parts_22 ?_
  refine lv_iload_n S.1 S.2.1 dX6_parts_25 rfl (lv_at hl 2 rfl) ?_
  refine lv_dup2_11 S.1 S.2.1 dX6_parts_26 rfl rfl ?_
  refine x_lald S hK hP 1 (by decide) m1 h1 dX6_parts_27 ?_
  refine lv_lload S.1 S.2.1 dX6_parts_28 (lv_at hl 0 rfl) ?_
  refine lv_lsub S.1 S.2.1 dX6_parts_30 ?_
  refine x_last S hI hK hP hS 1 (by decide) m1 h1 (entM E ad (sL M5 1 (ix a1) ((gL M5 1 (ix a1)) - x3))) n1 (fun _ h => entM_sL _ h) dX6_parts_31 (fun H locs hP hS => ?_)
  obtain ⟨M6, eM6, hf⟩ := bnd_some hf
  rw [← eM6] at hP
  cases hf
  exact r_v S hr hlk hP hS dX6_parts_32
theorem hd_X6_split : yX6_split.cls ≠ "java/lang/invoke/MethodHandle" ∧ yX6_split.cls ≠ "java/lang/invoke/VarHandle" ∧ (parseMethodDescriptor yX6_split.desc).map (fun d => d.parameters.length) = some 2 := by decide +kernel
set_option maxHeartbeats 4000000 in
set_option maxRecDepth 100000 in
theorem L_X6_split_171 (l : Launch) (E : EE) (ad : Nat → Nat) (hI : ad_I ad 7) (N : Nat) (a1 : Int32) (a2 : Int32)  {p : Program} {e : Env} {s : State} {m : MethodId} {below : List Frame} {meth : Method} {c : Code} (S : CallFix p m c cX6_split 7 s [.ref (ad 0), .int a1, .int a2].toArray bg_B "SurvivorPurseModel") (hr : meth.sig.returnType = (some .long)) (hlk : meth.locks = false) (hK : va_K E.1 vwCl (tysE E) s) (hN : NW s) (r : Int64) (M' : MM) : ∀ (fu : Nat) (v3 : Int32) (v4 : Int64) (v6 : Int32)  (M : MM), F_X6_split_171 N a1 a2 fu v3 v4 v6 M = some (r, M') → ∀ (H : Heap) (locs : List Loc) (ls : Array Slot), va_P E.1 vwCl (mw (entM E ad M) ad 7) H → va_S (AA ad 7 s.heap.size) s.heap H locs → lv_has ls 7 [(0, .ref (ad 0)), (1, .int a1), (2, .int a2), (3, .int v3), (4, .long v4), (6, .int v6)] → W p l e { frames := 2, cells := 0, slots := 0, locals := 46 } s m [.ref (ad 0), .int a1, .int a2].toArray below meth c H locs 0 0 (MQ below (va_Ql (fun r0 (_ : Unit) => r0 = r) (fun _ t => QB E (entM E ad M') ad 7 t) (AA ad 7 s.heap.size)) [.ref (ad 0), .int a1, .int a2].toArray s 0 0 (AA ad 7 s.heap.size)) (F0 m 171 ls []) := by
  intro fu
  induction fu with
  | zero =>
    intro v3 v4 v6 M hf
    rw [F_X6_split_171] at hf
    cases hf
  | succ fu ih =>
    intro v3 v4 v6 M hf H locs ls hP hS hl
    rw [F_X6_split_171] at hf
    refine lv_iload S.1 S.2.1 dX6_split_171 (lv_at hl 5 rfl) ?_
    refine lv_bipush (v := (60 : Int32)) S.1 S.2.1 dX6_split_173 (by decide) ?_
    refine lv_icmp_ge (tgt := 244) S.1 S.2.1 dX6_split_175 (by decide) (fun h14 => ?_) (fun h14 => ?_)
    · replace hf := ift h14 hf
      refine lv_aload_n S.1 S.2.1 dX6_split_244 rfl (lv_at hl 0 rfl) ?_
      refine x_get (v := .ref (ad 1)) S hK hP w_lay_X6 (ci := 6) rfl 0 (by decide) m0 0 (by decide) w_fl_X6_7 rfl rfl dX6_split_245 ?_
      refine lv_iload_n S.1 S.2.1 dX6_split_248 rfl (lv_at hl 3 rfl) ?_
      refine lv_iconst (v := (3 : Int32)) S.1 S.2.1 dX6_split_249 (by decide) ?_
      refine y_Si (As := [.int v3, .int (3 : Int32)]) S hK hN hP hS rfl (K_X6_part l E ad hI _ v3 (3 : Int32)  M _ rfl) (cS 2 S w_co_yX6_part w_in_X6 w_ml_X6_89 w_st_yX6_part hd_X6_part ⟨Nat.le_of_ble_eq_true rfl, Nat.le_of_ble_eq_true rfl⟩) hl.1 rfl rfl (Nat.le_of_ble_eq_true rfl) dX6_split_250 ⟨Nat.zero_le _, Nat.zero_le _⟩ (fun H locs hP hS => ?_)
      refine lv_iload_n S.1 S.2.1 dX6_split_253 rfl (lv_at hl 2 rfl) ?_
      refine lv_i2l (v := a2.toInt64) S.1 S.2.1 dX6_split_254 rfl ?_
      obtain ⟨h15, hf⟩ := gd_some hf
      refine x_last S hI hK hP hS 1 (by decide) m1 h15 (entM E ad (sL M 1 (ix (F_X6_part v3 (3 : Int32))) a2.toInt64)) n1 (fun _ h => entM_sL _ h) dX6_split_255 (fun H locs hP hS => ?_)
      obtain ⟨M16, eM16, hf⟩ := bnd_some hf
      rw [← eM16] at hP
      refine lv_aload_n S.1 S.2.1 dX6_split_256 rfl (lv_at hl 0 rfl) ?_
      refine x_get (v := .ref (ad 1)) S hK hP w_lay_X6 (ci := 6) rfl 0 (by decide) m0 0 (by decide) w_fl_X6_7 rfl rfl dX6_split_257 ?_
      refine lv_iload_n S.1 S.2.1 dX6_split_260 rfl (lv_at hl 1 rfl) ?_
      refine lv_iconst (v := (3 : Int32)) S.1 S.2.1 dX6_split_261 (by decide) ?_
      refine y_Si (As := [.int a1, .int (3 : Int32)]) S hK hN hP hS rfl (K_X6_part l E ad hI _ a1 (3 : Int32)  M16 _ rfl) (cS 2 S w_co_yX6_part w_in_X6 w_ml_X6_89 w_st_yX6_part hd_X6_part ⟨Nat.le_of_ble_eq_true rfl, Nat.le_of_ble_eq_true rfl⟩) hl.1 rfl rfl (Nat.le_of_ble_eq_true rfl) dX6_split_262 ⟨Nat.zero_le _, Nat.zero_le _⟩ (fun H locs hP hS => ?_)
      refine lv_lload S.1 S.2.1 dX6_split_265 (lv_at hl 4 rfl) ?_
      refine lv_iload_n S.1 S.2.1 dX6_split_267 rfl (lv_at hl 2 rfl) ?_
      refine lv_i2l (v := a2.toInt64) S.1 S.2.1 dX6_split_268 rfl ?_
      refine lv_lsub S.1 S.2.1 dX6_split_269 ?_
      obtain ⟨h17, hf⟩ := gd_some hf
      refine x_last S hI hK hP hS 1 (by decide) m1 h17 (entM E ad (sL M16 1 (ix (F_X6_part a1 (3 : Int32))) (v4 - a2.toInt64))) n1 (fun _ h => entM_sL _ h) dX6_split_270 (fun H locs hP hS => ?_)
      obtain ⟨M18, eM18, hf⟩ := bnd_some hf
      rw [← eM18] at hP
      refine lv_aload_n S.1 S.2.1 dX6_split_271 rfl (lv_at hl 0 rfl) ?_
      refine x_get (v := .ref (ad 1)) S hK hP w_lay_X6 (ci := 6) rfl 0 (by decide) m0 0 (by decide) w_fl_X6_7 rfl rfl dX6_split_272 ?_
      refine lv_sipush (v := (5670 : Int32)) S.1 S.2.1 dX6_split_275 (by decide) ?_
      refine lv_dup2_11 S.1 S.2.1 dX6_split_278 rfl rfl ?_
      refine x_laldc (j := 5670) S hK hP 1 (by decide) m1 (by decide) (by decide) dX6_split_279 ?_
      refine lv_lconst (v := (1 : Int64)) S.1 S.2.1 dX6_split_280 (by decide) ?_
      refine lv_ladd S.1 S.2.1 dX6_split_281 ?_
      refine x_lastc (j := 5670) S hI hK hP hS 1 (by decide) m1 (by decide) (by decide) (entM E ad (sL M18 1 5670 ((gL M18 1 5670) + (1 : Int64)))) n1 (fun _ h => entM_sL _ h) dX6_split_282 (fun H locs hP hS => ?_)
      obtain ⟨M19, eM19, hf⟩ := bnd_some hf
      rw [← eM19] at hP
      refine lv_iload_n S.1 S.2.1 dX6_split_283 rfl (lv_at hl 3 rfl) ?_
      refine lv_i2l (v := v3.toInt64) S.1 S.2.1 dX6_split_284 rfl ?_
      cases hf
      exact r_l S hr hlk hP hS dX6_split_285
    · replace hf := iff_ h14 hf
      refine lv_aload_n S.1 S.2.1 dX6_split_178 rfl (lv_at hl 0 rfl) ?_
      refine lv_sipush (v := (863 : Int32)) S.1 S.2.1 dX6_split_179 (by decide) ?_
      refine lv_bipush (v := (60 : Int32)) S.1 S.2.1 dX6_split_182 (by decide) ?_
      refine lv_iload_n S.1 S.2.1 dX6_split_184 rfl (lv_at hl 1 rfl) ?_
      refine lv_imul S.1 S.2.1 dX6_split_185 ?_
      refine lv_iadd S.1 S.2.1 dX6_split_186 ?_
      refine lv_iload S.1 S.2.1 dX6_split_187 (lv_at hl 5 rfl) ?_
      refine lv_iadd S.1 S.2.1 dX6_split_189 ?_
      refine lv_sipush (v := (863 : Int32)) S.1 S.2.1 dX6_split_190 (by decide) ?_
      refine lv_bipush (v := (60 : Int32)) S.1 S.2.1 dX6_split_193 (by decide) ?_
      refine lv_iload_n S.1 S.2.1 dX6_split_195 rfl (lv_at hl 3 rfl) ?_
      refine lv_imul S.1 S.2.1 dX6_split_196 ?_
      refine lv_iadd S.1 S.2.1 dX6_split_197 ?_
      refine lv_iload S.1 S.2.1 dX6_split_198 (lv_at hl 5 rfl) ?_
      refine lv_iadd S.1 S.2.1 dX6_split_200 ?_
      refine lv_iload_n S.1 S.2.1 dX6_split_201 rfl (lv_at hl 2 rfl) ?_
      refine lv_i2l (v := a2.toInt64) S.1 S.2.1 dX6_split_202 rfl ?_
      refine lv_lload S.1 S.2.1 dX6_split_203 (lv_at hl 4 rfl) ?_
      obtain ⟨M20, gM20, hf⟩ := bn1_some hf
      refine y_Vv (As := [.int (((863 : Int32) + ((60 : Int32) * a1)) + v6), .int (((863 : Int32) + ((60 : Int32) * v3)) + v6), .long a2.toInt64, .long v4]) S hK hN hP hS rfl (by decide) m0 rfl (K_X6_parts l E ad hI _ N (((863 : Int32) + ((60 : Int32) * a1)) + v6) (((863 : Int32) + ((60 : Int32) * v3)) + v6) a2.toInt64 v4  M M20 gM20) (cV 4 S w_co_yX6_parts w_in_X6 w_ml_X6_95 w_im_yX6_parts w_se_yX6_parts hd_X6_parts ⟨Nat.le_of_ble_eq_true rfl, Nat.le_of_ble_eq_true rfl⟩) hl.1 rfl rfl (Nat.le_of_ble_eq_true rfl) dX6_split_205 ⟨Nat.zero_le _, Nat.zero_le _⟩ (fun H locs hP hS => ?_)
      refine lv_aload_n S.1 S.2.1 dX6_split_208 rfl (lv_at hl 0 rfl) ?_
      refine lv_sipush (v := (3263 : Int32)) S.1 S.2.1 dX6_split_209 (by decide) ?_
      refine lv_bipush (v := (60 : Int32)) S.1 S.2.1 dX6_split_212 (by decide) ?_
      refine lv_iload_n S.1 S.2.1 dX6_split_214 rfl (lv_at hl 1 rfl) ?_
      refine lv_imul S.1 S.2.1 dX6_split_215 ?_
      refine lv_iadd S.1 S.2.1 dX6_split_216 ?_
      refine lv_iload S.1 S.2.1 dX6_split_217 (lv_at hl 5 rfl) ?_
      refine lv_iadd S.1 S.2.1 dX6_split_219 ?_
      refine lv_sipush (v := (3263 : Int32)) S.1 S.2.1 dX6_split_220 (by decide) ?_
      refine lv_bipush (v := (60 : Int32)) S.1 S.2.1 dX6_split_223 (by decide) ?_
      refine lv_iload_n S.1 S.2.1 dX6_split_225 rfl (lv_at hl 3 rfl) ?_
      refine lv_imul S.1 S.2.1 dX6_split_226 ?_
      refine lv_iadd S.1 S.2.1 dX6_split_227 ?_
      refine lv_iload S.1 S.2.1 dX6_split_228 (lv_at hl 5 rfl) ?_
      refine lv_iadd S.1 S.2.1 dX6_split_230 ?_
      refine lv_iload_n S.1 S.2.1 dX6_split_231 rfl (lv_at hl 2 rfl) ?_
      refine lv_i2l (v := a2.toInt64) S.1 S.2.1 dX6_split_232 rfl ?_
      refine lv_lload S.1 S.2.1 dX6_split_233 (lv_at hl 4 rfl) ?_
      obtain ⟨M21, gM21, hf⟩ := bn1_some hf
      refine y_Vv (As := [.int (((3263 : Int32) + ((60 : Int32) * a1)) + v6), .int (((3263 : Int32) + ((60 : Int32) * v3)) + v6), .long a2.toInt64, .long v4]) S hK hN hP hS rfl (by decide) m0 rfl (K_X6_parts l E ad hI _ N (((3263 : Int32) + ((60 : Int32) * a1)) + v6) (((3263 : Int32) + ((60 : Int32) * v3)) + v6) a2.toInt64 v4  M20 M21 gM21) (cV 4 S w_co_yX6_parts w_in_X6 w_ml_X6_95 w_im_yX6_parts w_se_yX6_parts hd_X6_parts ⟨Nat.le_of_ble_eq_true rfl, Nat.le_of_ble_eq_true rfl⟩) hl.1 rfl rfl (Nat.le_of_ble_eq_true rfl) dX6_split_235 ⟨Nat.zero_le _, Nat.zero_le _⟩ (fun H locs hP hS => ?_)
      refine lv_iinc (v := v6 + (1 : Int32)) (lv' := [(6, .int (v6 + (1 : Int32))), (0, .ref (ad 0)), (1, .int a1), (2, .int a2), (3, .int v3), (4, .long v4)]) S.1 S.2.1 dX6_split_238 hl (k := 5) rfl rfl (by decide) rfl (fun ls hl => ?_)
      refine lv_goto (tgt := 171) S.1 S.2.1 dX6_split_241 (by decide) ?_
      exact ih v3 v4 (v6 + (1 : Int32))  M21 hf _ _ _ hP hS (lv_sub hl [1, 2, 3, 4, 5, 0] rfl)
set_option maxHeartbeats 4000000 in
set_option maxRecDepth 100000 in
theorem L_X6_split_73 (l : Launch) (E : EE) (ad : Nat → Nat) (hI : ad_I ad 7) (N : Nat) (a1 : Int32) (a2 : Int32)  {p : Program} {e : Env} {s : State} {m : MethodId} {below : List Frame} {meth : Method} {c : Code} (S : CallFix p m c cX6_split 7 s [.ref (ad 0), .int a1, .int a2].toArray bg_B "SurvivorPurseModel") (hr : meth.sig.returnType = (some .long)) (hlk : meth.locks = false) (hK : va_K E.1 vwCl (tysE E) s) (hN : NW s) (r : Int64) (M' : MM) : ∀ (fu : Nat) (v3 : Int32) (v4 : Int64) (v6 : Int32)  (M : MM), F_X6_split_73 N a1 a2 fu v3 v4 v6 M = some (r, M') → ∀ (H : Heap) (locs : List Loc) (ls : Array Slot), va_P E.1 vwCl (mw (entM E ad M) ad 7) H → va_S (AA ad 7 s.heap.size) s.heap H locs → lv_has ls 7 [(0, .ref (ad 0)), (1, .int a1), (2, .int a2), (3, .int v3), (4, .long v4), (6, .int v6)] → W p l e { frames := 2, cells := 0, slots := 0, locals := 46 } s m [.ref (ad 0), .int a1, .int a2].toArray below meth c H locs 0 0 (MQ below (va_Ql (fun r0 (_ : Unit) => r0 = r) (fun _ t => QB E (entM E ad M') ad 7 t) (AA ad 7 s.heap.size)) [.ref (ad 0), .int a1, .int a2].toArray s 0 0 (AA ad 7 s.heap.size)) (F0 m 73 ls []) := by
  intro fu
  induction fu with
  | zero =>
    intro v3 v4 v6 M hf
    rw [F_X6_split_73] at hf
    cases hf
  | succ fu ih =>
    intro v3 v4 v6 M hf H locs ls hP hS hl
    rw [F_X6_split_73] at hf
    refine lv_iload S.1 S.2.1 dX6_split_73 (lv_at hl 5 rfl) ?_
    refine lv_bipush (v := (14 : Int32)) S.1 S.2.1 dX6_split_75 (by decide) ?_
    refine lv_icmp_ge (tgt := 108) S.1 S.2.1 dX6_split_77 (by decide) (fun h7 => ?_) (fun h7 => ?_)
    · replace hf := ift h7 hf
      refine lv_aload_n S.1 S.2.1 dX6_split_108 rfl (lv_at hl 0 rfl) ?_
      refine lv_iload_n S.1 S.2.1 dX6_split_109 rfl (lv_at hl 1 rfl) ?_
      refine lv_bipush (v := (6 : Int32)) S.1 S.2.1 dX6_split_110 (by decide) ?_
      refine y_Si (As := [.int a1, .int (6 : Int32)]) S hK hN hP hS rfl (K_X6_part l E ad hI _ a1 (6 : Int32)  M _ rfl) (cS 2 S w_co_yX6_part w_in_X6 w_ml_X6_89 w_st_yX6_part hd_X6_part ⟨Nat.le_of_ble_eq_true rfl, Nat.le_of_ble_eq_true rfl⟩) hl.1 rfl rfl (Nat.le_of_ble_eq_true rfl) dX6_split_112 ⟨Nat.zero_le _, Nat.zero_le _⟩ (fun H locs hP hS => ?_)
      refine lv_iload_n S.1 S.2.1 dX6_split_115 rfl (lv_at hl 3 rfl) ?_
      refine lv_bipush (v := (6 : Int32)) S.1 S.2.1 dX6_split_116 (by decide) ?_
      refine y_Si (As := [.int v3, .int (6 : Int32)]) S hK hN hP hS rfl (K_X6_part l E ad hI _ v3 (6 : Int32)  M _ rfl) (cS 2 S w_co_yX6_part w_in_X6 w_ml_X6_89 w_st_yX6_part hd_X6_part ⟨Nat.le_of_ble_eq_true rfl, Nat.le_of_ble_eq_true rfl⟩) hl.1 rfl rfl (Nat.le_of_ble_eq_true rfl) dX6_split_118 ⟨Nat.zero_le _, Nat.zero_le _⟩ (fun H locs hP hS => ?_)
      refine lv_iload_n S.1 S.2.1 dX6_split_121 rfl (lv_at hl 2 rfl) ?_
      refine lv_i2l (v := a2.toInt64) S.1 S.2.1 dX6_split_122 rfl ?_
      refine lv_lload S.1 S.2.1 dX6_split_123 (lv_at hl 4 rfl) ?_
      obtain ⟨M8, gM8, hf⟩ := bn1_some hf
      refine y_Vv (As := [.int (F_X6_part a1 (6 : Int32)), .int (F_X6_part v3 (6 : Int32)), .long a2.toInt64, .long v4]) S hK hN hP hS rfl (by decide) m0 rfl (K_X6_parts l E ad hI _ N (F_X6_part a1 (6 : Int32)) (F_X6_part v3 (6 : Int32)) a2.toInt64 v4  M M8 gM8) (cV 4 S w_co_yX6_parts w_in_X6 w_ml_X6_95 w_im_yX6_parts w_se_yX6_parts hd_X6_parts ⟨Nat.le_of_ble_eq_true rfl, Nat.le_of_ble_eq_true rfl⟩) hl.1 rfl rfl (Nat.le_of_ble_eq_true rfl) dX6_split_125 ⟨Nat.zero_le _, Nat.zero_le _⟩ (fun H locs hP hS => ?_)
      refine lv_aload_n S.1 S.2.1 dX6_split_128 rfl (lv_at hl 0 rfl) ?_
      refine lv_iload_n S.1 S.2.1 dX6_split_129 rfl (lv_at hl 1 rfl) ?_
      refine lv_bipush (v := (7 : Int32)) S.1 S.2.1 dX6_split_130 (by decide) ?_
      refine y_Si (As := [.int a1, .int (7 : Int32)]) S hK hN hP hS rfl (K_X6_part l E ad hI _ a1 (7 : Int32)  M8 _ rfl) (cS 2 S w_co_yX6_part w_in_X6 w_ml_X6_89 w_st_yX6_part hd_X6_part ⟨Nat.le_of_ble_eq_true rfl, Nat.le_of_ble_eq_true rfl⟩) hl.1 rfl rfl (Nat.le_of_ble_eq_true rfl) dX6_split_132 ⟨Nat.zero_le _, Nat.zero_le _⟩ (fun H locs hP hS => ?_)
      refine lv_iload_n S.1 S.2.1 dX6_split_135 rfl (lv_at hl 3 rfl) ?_
      refine lv_bipush (v := (7 : Int32)) S.1 S.2.1 dX6_split_136 (by decide) ?_
      refine y_Si (As := [.int v3, .int (7 : Int32)]) S hK hN hP hS rfl (K_X6_part l E ad hI _ v3 (7 : Int32)  M8 _ rfl) (cS 2 S w_co_yX6_part w_in_X6 w_ml_X6_89 w_st_yX6_part hd_X6_part ⟨Nat.le_of_ble_eq_true rfl, Nat.le_of_ble_eq_true rfl⟩) hl.1 rfl rfl (Nat.le_of_ble_eq_true rfl) dX6_split_138 ⟨Nat.zero_le _, Nat.zero_le _⟩ (fun H locs hP hS => ?_)
      refine lv_iload_n S.1 S.2.1 dX6_split_141 rfl (lv_at hl 2 rfl) ?_
      refine lv_i2l (v := a2.toInt64) S.1 S.2.1 dX6_split_142 rfl ?_
      refine lv_lload S.1 S.2.1 dX6_split_143 (lv_at hl 4 rfl) ?_
      obtain ⟨M9, gM9, hf⟩ := bn1_some hf
      refine y_Vv (As := [.int (F_X6_part a1 (7 : Int32)), .int (F_X6_part v3 (7 : Int32)), .long a2.toInt64, .long v4]) S hK hN hP hS rfl (by decide) m0 rfl (K_X6_parts l E ad hI _ N (F_X6_part a1 (7 : Int32)) (F_X6_part v3 (7 : Int32)) a2.toInt64 v4  M8 M9 gM9) (cV 4 S w_co_yX6_parts w_in_X6 w_ml_X6_95 w_im_yX6_parts w_se_yX6_parts hd_X6_parts ⟨Nat.le_of_ble_eq_true rfl, Nat.le_of_ble_eq_true rfl⟩) hl.1 rfl rfl (Nat.le_of_ble_eq_true rfl) dX6_split_145 ⟨Nat.zero_le _, Nat.zero_le _⟩ (fun H locs hP hS => ?_)
      refine lv_aload_n S.1 S.2.1 dX6_split_148 rfl (lv_at hl 0 rfl) ?_
      refine lv_iload_n S.1 S.2.1 dX6_split_149 rfl (lv_at hl 1 rfl) ?_
      refine lv_bipush (v := (12 : Int32)) S.1 S.2.1 dX6_split_150 (by decide) ?_
      refine y_Si (As := [.int a1, .int (12 : Int32)]) S hK hN hP hS rfl (K_X6_part l E ad hI _ a1 (12 : Int32)  M9 _ rfl) (cS 2 S w_co_yX6_part w_in_X6 w_ml_X6_89 w_st_yX6_part hd_X6_part ⟨Nat.le_of_ble_eq_true rfl, Nat.le_of_ble_eq_true rfl⟩) hl.1 rfl rfl (Nat.le_of_ble_eq_true rfl) dX6_split_152 ⟨Nat.zero_le _, Nat.zero_le _⟩ (fun H locs hP hS => ?_)
      refine lv_iload_n S.1 S.2.1 dX6_split_155 rfl (lv_at hl 3 rfl) ?_
      refine lv_bipush (v := (12 : Int32)) S.1 S.2.1 dX6_split_156 (by decide) ?_
      refine y_Si (As := [.int v3, .int (12 : Int32)]) S hK hN hP hS rfl (K_X6_part l E ad hI _ v3 (12 : Int32)  M9 _ rfl) (cS 2 S w_co_yX6_part w_in_X6 w_ml_X6_89 w_st_yX6_part hd_X6_part ⟨Nat.le_of_ble_eq_true rfl, Nat.le_of_ble_eq_true rfl⟩) hl.1 rfl rfl (Nat.le_of_ble_eq_true rfl) dX6_split_158 ⟨Nat.zero_le _, Nat.zero_le _⟩ (fun H locs hP hS => ?_)
      refine lv_iload_n S.1 S.2.1 dX6_split_161 rfl (lv_at hl 2 rfl) ?_
      refine lv_i2l (v := a2.toInt64) S.1 S.2.1 dX6_split_162 rfl ?_
      refine lv_lload S.1 S.2.1 dX6_split_163 (lv_at hl 4 rfl) ?_
      obtain ⟨M10, gM10, hf⟩ := bn1_some hf
      refine y_Vv (As := [.int (F_X6_part a1 (12 : Int32)), .int (F_X6_part v3 (12 : Int32)), .long a2.toInt64, .long v4]) S hK hN hP hS rfl (by decide) m0 rfl (K_X6_parts l E ad hI _ N (F_X6_part a1 (12 : Int32)) (F_X6_part v3 (12 : Int32)) a2.toInt64 v4  M9 M10 gM10) (cV 4 S w_co_yX6_parts w_in_X6 w_ml_X6_95 w_im_yX6_parts w_se_yX6_parts hd_X6_parts ⟨Nat.le_of_ble_eq_true rfl, Nat.le_of_ble_eq_true rfl⟩) hl.1 rfl rfl (Nat.le_of_ble_eq_true rfl) dX6_split_165 ⟨Nat.zero_le _, Nat.zero_le _⟩ (fun H locs hP hS => ?_)
      refine lv_iconst (v := (0 : Int32)) S.1 S.2.1 dX6_split_168 (by decide) ?_
      refine lv_istore (lv' := [(6, .int (0 : Int32)), (0, .ref (ad 0)), (1, .int a1), (2, .int a2), (3, .int v3), (4, .long v4)]) S.1 S.2.1 dX6_split_169 hl (by decide) rfl (fun ls hl => ?_)
      exact L_X6_split_171 l E ad hI N a1 a2  S hr hlk hK hN _ _ N v3 v4 (0 : Int32)  M10 hf _ _ _ hP hS (lv_sub hl [1, 2, 3, 4, 5, 0] rfl)
    · replace hf := iff_ h7 hf
      refine lv_aload_n S.1 S.2.1 dX6_split_80 rfl (lv_at hl 0 rfl) ?_
      refine x_get (v := .ref (ad 1)) S hK hP w_lay_X6 (ci := 6) rfl 0 (by decide) m0 0 (by decide) w_fl_X6_7 rfl rfl dX6_split_81 ?_
      refine lv_iload_n S.1 S.2.1 dX6_split_84 rfl (lv_at hl 3 rfl) ?_
      refine lv_iload S.1 S.2.1 dX6_split_85 (lv_at hl 5 rfl) ?_
      refine y_Si (As := [.int v3, .int v6]) S hK hN hP hS rfl (K_X6_part l E ad hI _ v3 v6  M _ rfl) (cS 2 S w_co_yX6_part w_in_X6 w_ml_X6_89 w_st_yX6_part hd_X6_part ⟨Nat.le_of_ble_eq_true rfl, Nat.le_of_ble_eq_true rfl⟩) hl.1 rfl rfl (Nat.le_of_ble_eq_true rfl) dX6_split_87 ⟨Nat.zero_le _, Nat.zero_le _⟩ (fun H locs hP hS => ?_)
      refine lv_aload_n S.1 S.2.1 dX6_split_90 rfl (lv_at hl 0 rfl) ?_
      refine x_get (v := .ref (ad 1)) S hK hP w_lay_X6 (ci := 6) rfl 0 (by decide) m0 0 (by decide) w_fl_X6_7 rfl rfl dX6_split_91 ?_
      refine lv_iload_n S.1 S.2.1 dX6_split_94 rfl (lv_at hl 1 rfl) ?_
      refine lv_iload S.1 S.2.1 dX6_split_95 (lv_at hl 5 rfl) ?_
      refine y_Si (As := [.int a1, .int v6]) S hK hN hP hS rfl (K_X6_part l E ad hI _ a1 v6  M _ rfl) (cS 2 S w_co_yX6_part w_in_X6 w_ml_X6_89 w_st_yX6_part hd_X6_part ⟨Nat.le_of_ble_eq_true rfl, Nat.le_of_ble_eq_true rfl⟩) hl.1 rfl rfl (Nat.le_of_ble_eq_true rfl) dX6_split_97 ⟨Nat.zero_le _, Nat.zero_le _⟩ (fun H locs hP hS => ?_)
      obtain ⟨h11, hf⟩ := gd_some hf
      refine x_lald S hK hP 1 (by decide) m1 h11 dX6_split_100 ?_
      obtain ⟨h12, hf⟩ := gd_some hf
      refine x_last S hI hK hP hS 1 (by decide) m1 h12 (entM E ad (sL M 1 (ix (F_X6_part v3 v6)) (gL M 1 (ix (F_X6_part a1 v6))))) n1 (fun _ h => entM_sL _ h) dX6_split_101 (fun H locs hP hS => ?_)
      obtain ⟨M13, eM13, hf⟩ := bnd_some hf
      rw [← eM13] at hP
      refine lv_iinc (v := v6 + (1 : Int32)) (lv' := [(6, .int (v6 + (1 : Int32))), (0, .ref (ad 0)), (1, .int a1), (2, .int a2), (3, .int v3), (4, .long v4)]) S.1 S.2.1 dX6_split_102 hl (k := 5) rfl rfl (by decide) rfl (fun ls hl => ?_)
      refine lv_goto (tgt := 73) S.1 S.2.1 dX6_split_105 (by decide) ?_
      exact ih v3 v4 (v6 + (1 : Int32))  M13 hf _ _ _ hP hS (lv_sub hl [1, 2, 3, 4, 5, 0] rfl)
set_option maxHeartbeats 4000000 in
set_option maxRecDepth 100000 in
theorem K_X6_split (l : Launch) (E : EE) (ad : Nat → Nat) (hI : ad_I ad 7) (sz : Nat) (N : Nat) (a1 : Int32) (a2 : Int32)  (M : MM) (r : Int64) (M' : MM) (hf : F_X6_split N a1 a2 M = some (r, M')) : CtL l yX6_split cX6_split 7 2 46 E (entM E ad M) (entM E ad M') ad 7 sz [.ref (ad 0), .int a1, .int a2] (r) := by
  unfold CtL
  refine body_of (by decide) "SurvivorPurseModel" rfl (Nat.le_of_ble_eq_true rfl) ?_
  intro p e s m below meth c hsz S hr hlk hP hK hN ls hl
  subst hsz
  have hS : va_S (AA ad 7 s.heap.size) s.heap s.heap [] := va_S.rf
  have hl : lv_has ls 7 [(0, .ref (ad 0)), (1, .int a1), (2, .int a2)] := hl
  rw [F_X6_split] at hf
  refine lv_aload_n S.1 S.2.1 dX6_split_0 rfl (lv_at hl 0 rfl) ?_
  refine lv_iload_n S.1 S.2.1 dX6_split_1 rfl (lv_at hl 1 rfl) ?_
  refine y_Vi (As := [.int a1]) S hK hN hP hS rfl (by decide) m0 rfl (K_X6_isShare l E ad hI _ a1  M _ rfl) (cV 1 S w_co_yX6_isShare w_in_X6 w_ml_X6_92 w_im_yX6_isShare w_se_yX6_isShare hd_X6_isShare ⟨Nat.le_of_ble_eq_true rfl, Nat.le_of_ble_eq_true rfl⟩) hl.1 rfl rfl (Nat.le_of_ble_eq_true rfl) dX6_split_2 ⟨Nat.zero_le _, Nat.zero_le _⟩ (fun H locs hP hS => ?_)
  refine lv_if_eq (tgt := 44) S.1 S.2.1 dX6_split_5 (by decide) (fun h1 => ?_) (fun h1 => ?_)
  · replace hf := ift h1 hf
    refine lv_ldc2 (own := "SurvivorPurseModel") (v := (-1000000000000000 : Int64)) S.1 S.2.1 S.2.2.2.1 (S.2.2.2.2 _ w_kl_X6_41) dX6_split_44 ?_
    cases hf
    exact r_l S hr hlk hP hS dX6_split_47
  · replace hf := iff_ h1 hf
    refine lv_iload_n S.1 S.2.1 dX6_split_8 rfl (lv_at hl 2 rfl) ?_
    refine lv_i2l (v := a2.toInt64) S.1 S.2.1 dX6_split_9 rfl ?_
    refine lv_lconst (v := (1 : Int64)) S.1 S.2.1 dX6_split_10 (by decide) ?_
    refine lv_aload_n S.1 S.2.1 dX6_split_11 rfl (lv_at hl 0 rfl) ?_
    refine x_get (v := .ref (ad 1)) S hK hP w_lay_X6 (ci := 6) rfl 0 (by decide) m0 0 (by decide) w_fl_X6_7 rfl rfl dX6_split_12 ?_
    refine lv_iload_n S.1 S.2.1 dX6_split_15 rfl (lv_at hl 1 rfl) ?_
    refine lv_iconst (v := (3 : Int32)) S.1 S.2.1 dX6_split_16 (by decide) ?_
    refine y_Si (As := [.int a1, .int (3 : Int32)]) S hK hN hP hS rfl (K_X6_part l E ad hI _ a1 (3 : Int32)  M _ rfl) (cS 2 S w_co_yX6_part w_in_X6 w_ml_X6_89 w_st_yX6_part hd_X6_part ⟨Nat.le_of_ble_eq_true rfl, Nat.le_of_ble_eq_true rfl⟩) hl.1 rfl rfl (Nat.le_of_ble_eq_true rfl) dX6_split_17 ⟨Nat.zero_le _, Nat.zero_le _⟩ (fun H locs hP hS => ?_)
    obtain ⟨h2, hf⟩ := gd_some hf
    refine x_lald S hK hP 1 (by decide) m1 h2 dX6_split_20 ?_
    refine lv_lconst (v := (1 : Int64)) S.1 S.2.1 dX6_split_21 (by decide) ?_
    refine lv_lsub S.1 S.2.1 dX6_split_22 ?_
    refine y_Si (As := [.long a2.toInt64, .long (1 : Int64), .long ((gL M 1 (ix (F_X6_part a1 (3 : Int32)))) - (1 : Int64))]) S hK hN hP hS rfl (K_X6_in l E ad hI _ a2.toInt64 (1 : Int64) ((gL M 1 (ix (F_X6_part a1 (3 : Int32)))) - (1 : Int64))  M _ rfl) (cS 3 S w_co_yX6_in w_in_X6 w_ml_X6_35 w_st_yX6_in hd_X6_in ⟨Nat.le_of_ble_eq_true rfl, Nat.le_of_ble_eq_true rfl⟩) hl.1 rfl rfl (Nat.le_of_ble_eq_true rfl) dX6_split_23 ⟨Nat.zero_le _, Nat.zero_le _⟩ (fun H locs hP hS => ?_)
    refine lv_if_eq (tgt := 44) S.1 S.2.1 dX6_split_26 (by decide) (fun h3 => ?_) (fun h3 => ?_)
    · replace hf := ift h3 hf
      refine lv_ldc2 (own := "SurvivorPurseModel") (v := (-1000000000000000 : Int64)) S.1 S.2.1 S.2.2.2.1 (S.2.2.2.2 _ w_kl_X6_41) dX6_split_44 ?_
      cases hf
      exact r_l S hr hlk hP hS dX6_split_47
    · replace hf := iff_ h3 hf
      refine lv_aload_n S.1 S.2.1 dX6_split_29 rfl (lv_at hl 0 rfl) ?_
      refine x_get (v := .ref (ad 1)) S hK hP w_lay_X6 (ci := 6) rfl 0 (by decide) m0 0 (by decide) w_fl_X6_7 rfl rfl dX6_split_30 ?_
      refine lv_sipush (v := (5670 : Int32)) S.1 S.2.1 dX6_split_33 (by decide) ?_
      refine x_laldc (j := 5670) S hK hP 1 (by decide) m1 (by decide) (by decide) dX6_split_36 ?_
      refine lv_ldc2 (own := "SurvivorPurseModel") (v := (40 : Int64)) S.1 S.2.1 S.2.2.2.1 (S.2.2.2.2 _ w_kl_X6_87) dX6_split_37 ?_
      refine ll_ne (tgt := 48) S dX6_split_40 dX6_split_41 (by decide) (fun h4 => ?_) (fun h4 => ?_)
      · replace hf := iff_ h4 hf
        refine lv_aload_n S.1 S.2.1 dX6_split_48 rfl (lv_at hl 0 rfl) ?_
        refine x_get (v := .ref (ad 1)) S hK hP w_lay_X6 (ci := 6) rfl 0 (by decide) m0 0 (by decide) w_fl_X6_7 rfl rfl dX6_split_49 ?_
        refine lv_sipush (v := (5670 : Int32)) S.1 S.2.1 dX6_split_52 (by decide) ?_
        refine x_laldc (j := 5670) S hK hP 1 (by decide) m1 (by decide) (by decide) dX6_split_55 ?_
        refine lv_l2i (v := (gL M 1 5670).toInt32) S.1 S.2.1 dX6_split_56 rfl ?_
        obtain ⟨x5, ex5, hf⟩ := bnd_some hf
        refine lv_rei ex5 ?_
        refine lv_istore_n (lv' := [(3, .int x5), (0, .ref (ad 0)), (1, .int a1), (2, .int a2)]) S.1 S.2.1 dX6_split_57 rfl hl (by decide) rfl (fun ls hl => ?_)
        refine lv_aload_n S.1 S.2.1 dX6_split_58 rfl (lv_at hl 1 rfl) ?_
        refine x_get (v := .ref (ad 1)) S hK hP w_lay_X6 (ci := 6) rfl 0 (by decide) m0 0 (by decide) w_fl_X6_7 rfl rfl dX6_split_59 ?_
        refine lv_iload_n S.1 S.2.1 dX6_split_62 rfl (lv_at hl 2 rfl) ?_
        refine lv_iconst (v := (3 : Int32)) S.1 S.2.1 dX6_split_63 (by decide) ?_
        refine y_Si (As := [.int a1, .int (3 : Int32)]) S hK hN hP hS rfl (K_X6_part l E ad hI _ a1 (3 : Int32)  M _ rfl) (cS 2 S w_co_yX6_part w_in_X6 w_ml_X6_89 w_st_yX6_part hd_X6_part ⟨Nat.le_of_ble_eq_true rfl, Nat.le_of_ble_eq_true rfl⟩) hl.1 rfl rfl (Nat.le_of_ble_eq_true rfl) dX6_split_64 ⟨Nat.zero_le _, Nat.zero_le _⟩ (fun H locs hP hS => ?_)
        refine x_lald S hK hP 1 (by decide) m1 h2 dX6_split_67 ?_
        obtain ⟨x6, ex6, hf⟩ := bnd_some hf
        refine lv_rel ex6 ?_
        refine lv_lstore (lv' := [(4, .long x6), (3, .int x5), (0, .ref (ad 0)), (1, .int a1), (2, .int a2)]) S.1 S.2.1 dX6_split_68 hl (by decide) rfl (fun ls hl => ?_)
        refine lv_iconst (v := (0 : Int32)) S.1 S.2.1 dX6_split_70 (by decide) ?_
        refine lv_istore (lv' := [(6, .int (0 : Int32)), (4, .long x6), (3, .int x5), (0, .ref (ad 0)), (1, .int a1), (2, .int a2)]) S.1 S.2.1 dX6_split_71 hl (by decide) rfl (fun ls hl => ?_)
        exact L_X6_split_73 l E ad hI N a1 a2  S hr hlk hK hN _ _ N x5 x6 (0 : Int32)  M hf _ _ _ hP hS (lv_sub hl [3, 4, 5, 2, 1, 0] rfl)
      · replace hf := ift h4 hf
        refine lv_ldc2 (own := "SurvivorPurseModel") (v := (-1000000000000000 : Int64)) S.1 S.2.1 S.2.2.2.1 (S.2.2.2.2 _ w_kl_X6_41) dX6_split_44 ?_
        cases hf
        exact r_l S hr hlk hP hS dX6_split_47

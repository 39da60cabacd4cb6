def F_X6_keep_2 (N : Nat)  : Nat → Int32 → MM → Option (Int64 × MM)
  | 0, _, _ => none
  | fu + 1, v1, M =>
    if (5672 : Int32) ≤ v1 then
      bnd (sI M 0 2 (1 : Int32)) (fun M2 =>
      some ((1 : Int64), M2)
      )
    else
      gd (ib v1 5672) (
      bnd (sL M 2 (ix v1) (gL M 1 (ix v1))) (fun M4 =>
      F_X6_keep_2 N  fu (v1 + (1 : Int32)) M4
      ))
def F_X6_keep (N : Nat)  (M : MM) : Option (Int64 × MM) :=
  F_X6_keep_2 N  N (0 : Int32) M
def F_X6_back_13 (N : Nat)  : Nat → Int32 → MM → Option (Int64 × MM)
  | 0, _, _ => none
  | fu + 1, v1, M =>
    if (5672 : Int32) ≤ v1 then
      some ((1 : Int64), M)
    else
      gd (ib v1 5672) (
      bnd (sL M 1 (ix v1) (gL M 2 (ix v1))) (fun M4 =>
      F_X6_back_13 N  fu (v1 + (1 : Int32)) M4
      ))
def F_X6_back (N : Nat)  (M : MM) : Option (Int64 × MM) :=
  if bo (gI M 0 2) = (0 : Int32) then
    some ((-1000000000000000 : Int64), M)
  else
    F_X6_back_13 N  N (0 : Int32) M
def F_X6_death_91 (N : Nat) (a1 : Int32) (a2 : Int32) : Nat → Int64 → Int32 → MM → Option (Int64 × MM)
  | 0, _, _, _ => none
  | fu + 1, v3, v5, M =>
    if gL M 1 5670 ≤ v5.toInt64 then
      some (v3, M)
    else
      bn1 (F_X6_hasLife N v5 a1 M) (fun x14 =>
      if bI x14 = (0 : Int32) then
        F_X6_death_91 N a1 a2 fu v3 (v5 + (1 : Int32)) M
      else
        bn1 (F_X6_areDead N v5 M) (fun x16 =>
        if bI x16 = (0 : Int32) then
          F_X6_death_91 N a1 a2 fu v3 (v5 + (1 : Int32)) M
        else
          bn2 (F_X6_ends N v5 M) (fun x19 M18 =>
          bnd (v3 + x19) (fun x20 =>
          F_X6_death_91 N a1 a2 fu x20 (v5 + (1 : Int32)) M18
          ))
        )
      )
def F_X6_death (N : Nat) (a1 : Int32) (a2 : Int32) (M : MM) : Option (Int64 × MM) :=
  if bI (F_X6_isMember a1 M) = (0 : Int32) then
    some ((-1000000000000000 : Int64), M)
  else
    bn1 (F_X6_isDead N a1.toInt64 M) (fun x2 =>
    if bI x2 = (0 : Int32) then
      gd (ib (F_X6_cellOf a1 (0 : Int32)) 5672) (
      if a2.toInt64 < gL M 1 (ix (F_X6_cellOf a1 (0 : Int32))) then
        some ((-1000000000000000 : Int64), M)
      else
        if a2.toInt64 ≤ gL M 1 5663 then
          gd (ib (F_X6_cellOf a1 (5 : Int32)) 5672) (
          bnd (sL M 1 (ix (F_X6_cellOf a1 (5 : Int32))) (1 : Int64)) (fun M8 =>
          gd (ib (F_X6_cellOf a1 (6 : Int32)) 5672) (
          bnd (sL M8 1 (ix (F_X6_cellOf a1 (6 : Int32))) a2.toInt64) (fun M10 =>
          gd (ib (F_X6_cellOf a1 (4 : Int32)) 5672) (
          bnd (sL M10 1 (ix (F_X6_cellOf a1 (4 : Int32))) (0 : Int64)) (fun M12 =>
          F_X6_death_91 N a1 a2 N (0 : Int64) (0 : Int32) M12
          ))))))
        else
          some ((-1000000000000000 : Int64), M)
      )
    else
      some ((-1000000000000000 : Int64), M)
    )
def F_X6_close_668 (N : Nat) (a1 : Int32) : Nat → Int32 → Int64 → Int32 → MM → Option (Int64 × MM)
  | 0, _, _, _, _ => none
  | fu + 1, v5, v11, v13, M =>
    if v5 ≤ v13 then
      some (v11, M)
    else
      gd (ib (F_X6_part v13 (5 : Int32)) 5672) (
      if gL M 1 (ix (F_X6_part v13 (5 : Int32))) = (3 : Int64) then
        gd (ib (F_X6_part v13 (13 : Int32)) 5672) (
        if gL M 1 (ix (F_X6_part v13 (13 : Int32))) = (0 : Int64) then
          bn1 (F_X6_stands N v13 M) (fun x137 =>
          if x137 = (3 : Int32) then
            bn1 (F_X6_backGoes N v13 M) (fun M139 =>
            F_X6_close_668 N a1 fu v5 v11 (v13 + (1 : Int32)) M139
            )
          else
            F_X6_close_668 N a1 fu v5 v11 (v13 + (1 : Int32)) M
          )
        else
          F_X6_close_668 N a1 fu v5 v11 (v13 + (1 : Int32)) M
        )
      else
        F_X6_close_668 N a1 fu v5 v11 (v13 + (1 : Int32)) M
      )
def F_X6_close_632 (N : Nat) (a1 : Int32) : Nat → Int32 → Int64 → Int32 → MM → Option (Int64 × MM)
  | 0, _, _, _, _ => none
  | fu + 1, v5, v11, v13, M =>
    if gL M 1 5668 ≤ v13.toInt64 then
      F_X6_close_668 N a1 N v5 v11 (0 : Int32) M
    else
      gd (ib (F_X6_cellOf v13 (4 : Int32)) 5672) (
      bnd (sL M 1 (ix (F_X6_cellOf v13 (4 : Int32))) (0 : Int64)) (fun M131 =>
      F_X6_close_632 N a1 fu v5 v11 (v13 + (1 : Int32)) M131
      ))
def F_X6_close_448 (N : Nat) (a1 : Int32) : Nat → Int32 → Int32 → Int64 → Int32 → MM → Option (Int64 × MM)
  | 0, _, _, _, _, _ => none
  | fu + 1, v5, v10, v11, v13, M =>
    if v5 ≤ v13 then
      bnd (sL M 1 5663 ((gL M 1 5663) + (1 : Int64))) (fun M54 =>
      F_X6_close_632 N a1 N v5 v11 (0 : Int32) M54
      )
    else
      gd (ib v13 40) (
      if (2 : Int32) ≤ gI M 6 (ix v13) then
        if gI M 6 (ix v13) = (1 : Int32) then
          gd (ib (((3263 : Int32) + ((60 : Int32) * v13)) + v10) 5672) (
          bnd (sL M 1 (ix (((3263 : Int32) + ((60 : Int32) * v13)) + v10)) (gL M 5 (ix v13))) (fun M59 =>
          if gI M59 6 (ix v13) = (0 : Int32) then
            bn1 (F_X6_pays N v13 (gL M59 5 (ix v13)) M59) (fun M61 =>
            bnd (v11 + (gL M61 5 (ix v13))) (fun x62 =>
            if gI M61 6 (ix v13) = (0 : Int32) then
              gd (ib (F_X6_part v13 (10 : Int32)) 5672) (
              bnd (sL M61 1 (ix (F_X6_part v13 (10 : Int32))) (0 : Int64)) (fun M65 =>
              F_X6_close_448 N a1 fu v5 v10 x62 (v13 + (1 : Int32)) M65
              ))
            else
              if gI M61 6 (ix v13) = (3 : Int32) then
                gd (ib (F_X6_part v13 (10 : Int32)) 5672) (
                bnd (sL M61 1 (ix (F_X6_part v13 (10 : Int32))) (0 : Int64)) (fun M68 =>
                F_X6_close_448 N a1 fu v5 v10 x62 (v13 + (1 : Int32)) M68
                ))
              else
                gd (ib (F_X6_part v13 (10 : Int32)) 5672) (
                bnd (sL M61 1 (ix (F_X6_part v13 (10 : Int32))) ((gL M61 1 (ix (F_X6_part v13 (10 : Int32)))) + (1 : Int64))) (fun M70 =>
                F_X6_close_448 N a1 fu v5 v10 x62 (v13 + (1 : Int32)) M70
                ))
            ))
          else
            if gI M59 6 (ix v13) = (3 : Int32) then
              gd (ib (F_X6_part v13 (10 : Int32)) 5672) (
              bnd (sL M59 1 (ix (F_X6_part v13 (10 : Int32))) (0 : Int64)) (fun M73 =>
              F_X6_close_448 N a1 fu v5 v10 v11 (v13 + (1 : Int32)) M73
              ))
            else
              gd (ib (F_X6_part v13 (10 : Int32)) 5672) (
              bnd (sL M59 1 (ix (F_X6_part v13 (10 : Int32))) ((gL M59 1 (ix (F_X6_part v13 (10 : Int32)))) + (1 : Int64))) (fun M75 =>
              F_X6_close_448 N a1 fu v5 v10 v11 (v13 + (1 : Int32)) M75
              ))
          ))
        else
          if gI M 6 (ix v13) = (0 : Int32) then
            bn1 (F_X6_pays N v13 (gL M 5 (ix v13)) M) (fun M77 =>
            bnd (v11 + (gL M77 5 (ix v13))) (fun x78 =>
            if gI M77 6 (ix v13) = (0 : Int32) then
              gd (ib (F_X6_part v13 (10 : Int32)) 5672) (
              bnd (sL M77 1 (ix (F_X6_part v13 (10 : Int32))) (0 : Int64)) (fun M81 =>
              F_X6_close_448 N a1 fu v5 v10 x78 (v13 + (1 : Int32)) M81
              ))
            else
              if gI M77 6 (ix v13) = (3 : Int32) then
                gd (ib (F_X6_part v13 (10 : Int32)) 5672) (
                bnd (sL M77 1 (ix (F_X6_part v13 (10 : Int32))) (0 : Int64)) (fun M84 =>
                F_X6_close_448 N a1 fu v5 v10 x78 (v13 + (1 : Int32)) M84
                ))
              else
                gd (ib (F_X6_part v13 (10 : Int32)) 5672) (
                bnd (sL M77 1 (ix (F_X6_part v13 (10 : Int32))) ((gL M77 1 (ix (F_X6_part v13 (10 : Int32)))) + (1 : Int64))) (fun M86 =>
                F_X6_close_448 N a1 fu v5 v10 x78 (v13 + (1 : Int32)) M86
                ))
            ))
          else
            if gI M 6 (ix v13) = (3 : Int32) then
              gd (ib (F_X6_part v13 (10 : Int32)) 5672) (
              bnd (sL M 1 (ix (F_X6_part v13 (10 : Int32))) (0 : Int64)) (fun M89 =>
              F_X6_close_448 N a1 fu v5 v10 v11 (v13 + (1 : Int32)) M89
              ))
            else
              gd (ib (F_X6_part v13 (10 : Int32)) 5672) (
              bnd (sL M 1 (ix (F_X6_part v13 (10 : Int32))) ((gL M 1 (ix (F_X6_part v13 (10 : Int32)))) + (1 : Int64))) (fun M91 =>
              F_X6_close_448 N a1 fu v5 v10 v11 (v13 + (1 : Int32)) M91
              ))
      else
        gd (ib (((863 : Int32) + ((60 : Int32) * v13)) + v10) 5672) (
        bnd (sL M 1 (ix (((863 : Int32) + ((60 : Int32) * v13)) + v10)) (gL M 5 (ix v13))) (fun M93 =>
        if gI M93 6 (ix v13) = (1 : Int32) then
          gd (ib (((3263 : Int32) + ((60 : Int32) * v13)) + v10) 5672) (
          bnd (sL M93 1 (ix (((3263 : Int32) + ((60 : Int32) * v13)) + v10)) (gL M93 5 (ix v13))) (fun M96 =>
          if gI M96 6 (ix v13) = (0 : Int32) then
            bn1 (F_X6_pays N v13 (gL M96 5 (ix v13)) M96) (fun M98 =>
            bnd (v11 + (gL M98 5 (ix v13))) (fun x99 =>
            if gI M98 6 (ix v13) = (0 : Int32) then
              gd (ib (F_X6_part v13 (10 : Int32)) 5672) (
              bnd (sL M98 1 (ix (F_X6_part v13 (10 : Int32))) (0 : Int64)) (fun M102 =>
              F_X6_close_448 N a1 fu v5 v10 x99 (v13 + (1 : Int32)) M102
              ))
            else
              if gI M98 6 (ix v13) = (3 : Int32) then
                gd (ib (F_X6_part v13 (10 : Int32)) 5672) (
                bnd (sL M98 1 (ix (F_X6_part v13 (10 : Int32))) (0 : Int64)) (fun M105 =>
                F_X6_close_448 N a1 fu v5 v10 x99 (v13 + (1 : Int32)) M105
                ))
              else
                gd (ib (F_X6_part v13 (10 : Int32)) 5672) (
                bnd (sL M98 1 (ix (F_X6_part v13 (10 : Int32))) ((gL M98 1 (ix (F_X6_part v13 (10 : Int32)))) + (1 : Int64))) (fun M107 =>
                F_X6_close_448 N a1 fu v5 v10 x99 (v13 + (1 : Int32)) M107
                ))
            ))
          else
            if gI M96 6 (ix v13) = (3 : Int32) then
              gd (ib (F_X6_part v13 (10 : Int32)) 5672) (
              bnd (sL M96 1 (ix (F_X6_part v13 (10 : Int32))) (0 : Int64)) (fun M110 =>
              F_X6_close_448 N a1 fu v5 v10 v11 (v13 + (1 : Int32)) M110
              ))
            else
              gd (ib (F_X6_part v13 (10 : Int32)) 5672) (
              bnd (sL M96 1 (ix (F_X6_part v13 (10 : Int32))) ((gL M96 1 (ix (F_X6_part v13 (10 : Int32)))) + (1 : Int64))) (fun M112 =>
              F_X6_close_448 N a1 fu v5 v10 v11 (v13 + (1 : Int32)) M112
              ))
          ))
        else
          if gI M93 6 (ix v13) = (0 : Int32) then
            bn1 (F_X6_pays N v13 (gL M93 5 (ix v13)) M93) (fun M114 =>
            bnd (v11 + (gL M114 5 (ix v13))) (fun x115 =>
            if gI M114 6 (ix v13) = (0 : Int32) then
              gd (ib (F_X6_part v13 (10 : Int32)) 5672) (
              bnd (sL M114 1 (ix (F_X6_part v13 (10 : Int32))) (0 : Int64)) (fun M118 =>
              F_X6_close_448 N a1 fu v5 v10 x115 (v13 + (1 : Int32)) M118
              ))
            else
              if gI M114 6 (ix v13) = (3 : Int32) then
                gd (ib (F_X6_part v13 (10 : Int32)) 5672) (
                bnd (sL M114 1 (ix (F_X6_part v13 (10 : Int32))) (0 : Int64)) (fun M121 =>
                F_X6_close_448 N a1 fu v5 v10 x115 (v13 + (1 : Int32)) M121
                ))
              else
                gd (ib (F_X6_part v13 (10 : Int32)) 5672) (
                bnd (sL M114 1 (ix (F_X6_part v13 (10 : Int32))) ((gL M114 1 (ix (F_X6_part v13 (10 : Int32)))) + (1 : Int64))) (fun M123 =>
                F_X6_close_448 N a1 fu v5 v10 x115 (v13 + (1 : Int32)) M123
                ))
            ))
          else
            if gI M93 6 (ix v13) = (3 : Int32) then
              gd (ib (F_X6_part v13 (10 : Int32)) 5672) (
              bnd (sL M93 1 (ix (F_X6_part v13 (10 : Int32))) (0 : Int64)) (fun M126 =>
              F_X6_close_448 N a1 fu v5 v10 v11 (v13 + (1 : Int32)) M126
              ))
            else
              gd (ib (F_X6_part v13 (10 : Int32)) 5672) (
              bnd (sL M93 1 (ix (F_X6_part v13 (10 : Int32))) ((gL M93 1 (ix (F_X6_part v13 (10 : Int32)))) + (1 : Int64))) (fun M128 =>
              F_X6_close_448 N a1 fu v5 v10 v11 (v13 + (1 : Int32)) M128
              ))
        ))
      )
def F_X6_close_396 (N : Nat) (a1 : Int32) : Nat → Int32 → Int32 → Int64 → Int32 → MM → Option (Int64 × MM)
  | 0, _, _, _, _, _ => none
  | fu + 1, v4, v5, v8, v10, M =>
    if v4 ≤ v10 then
      bnd (sL M 1 5664 v8) (fun M49 =>
      bnd ((gL M49 1 5663).toInt32) (fun x50 =>
      F_X6_close_448 N a1 N v5 x50 (0 : Int64) (0 : Int32) M49
      ))
    else
      gd (ib v10 7) (
      bnd (v8 + (gL M 3 (ix v10))) (fun x52 =>
      F_X6_close_396 N a1 fu v4 v5 x52 (v10 + (1 : Int32)) M
      ))
def F_X6_close_305 (N : Nat) (a1 : Int32) : Nat → Int32 → Int32 → Int64 → Int32 → MM → Option (Int64 × MM)
  | 0, _, _, _, _, _ => none
  | fu + 1, v4, v5, v8, v10, M =>
    if v5 ≤ v10 then
      F_X6_close_396 N a1 N v4 v5 v8 (0 : Int32) M
    else
      gd (ib (F_X6_part v10 (4 : Int32)) 5672) (
      bnd ((gL M 1 (ix (F_X6_part v10 (4 : Int32)))).toInt32) (fun x34 =>
      gd (ib v10 40) (
      if (2 : Int32) ≤ gI M 6 (ix v10) then
        bnd (sL M 5 (ix v10) (0 : Int64)) (fun M37 =>
        bnd (v8 - (gL M37 5 (ix v10))) (fun x38 =>
        F_X6_close_305 N a1 fu v4 v5 x38 (v10 + (1 : Int32)) M37
        ))
      else
        gd (ib x34 7) (
        gd (ib (F_X6_part v10 (3 : Int32)) 5672) (
        gd (ib x34 6) (
        gd (nz (gL M 4 (ix x34))) (
        bnd (sL M 5 (ix v10) (((gL M 3 (ix x34)) * (gL M 1 (ix (F_X6_part v10 (3 : Int32))))) / (gL M 4 (ix x34)))) (fun M43 =>
        bnd (v8 - (gL M43 5 (ix v10))) (fun x44 =>
        F_X6_close_305 N a1 fu v4 v5 x44 (v10 + (1 : Int32)) M43
        ))))))
      )))
def F_X6_close_242 (N : Nat) (a1 : Int32) : Nat → Int64 → Int32 → Int32 → Int64 → Int64 → Int32 → Int64 → Int32 → MM → Option Int32
  | 0, _, _, _, _, _, _, _, _, _ => none
  | fu + 1, v2, v4, v5, v6, v8, v10, v11, v13, M =>
    if v4 ≤ v13 then
      some v13
    else
      gd (ib v13 6) (
      if gL M 4 (ix v13) = (0 : Int64) then
        F_X6_close_242 N a1 fu v2 v4 v5 v6 v8 v10 v11 (v13 + (1 : Int32)) M
      else
        some v13
      )
def F_X6_close_206 (N : Nat) (a1 : Int32) : Nat → Int64 → Int32 → Int32 → Int64 → Int64 → Int32 → MM → Option (Int64 × MM)
  | 0, _, _, _, _, _, _, _ => none
  | fu + 1, v2, v4, v5, v6, v8, v10, M =>
    if v4 ≤ v10 then
      F_X6_close_305 N a1 N v4 v5 v8 (0 : Int32) M
    else
      if v6 ≤ (0 : Int64) then
        F_X6_close_305 N a1 N v4 v5 v8 (0 : Int32) M
      else
        gd (ib (F_X6_groupCell v10 (3 : Int32)) 5672) (
        bnd ((v2 * (gL M 1 (ix (F_X6_groupCell v10 (3 : Int32))))) / v6) (fun x26 =>
          bn1 (F_X6_close_242 N a1 N v2 v4 v5 v6 v8 v10 x26 v10 M) (fun x27 =>
            if x27 = v4 then
              F_X6_close_206 N a1 fu v2 v4 v5 v6 v8 (v10 + (1 : Int32)) M
            else
              gd (ib x27 7) (
              bnd (sL M 3 (ix x27) ((gL M 3 (ix x27)) + x26)) (fun M30 =>
              bnd (v8 - x26) (fun x31 =>
              F_X6_close_206 N a1 fu v2 v4 v5 v6 x31 (v10 + (1 : Int32)) M30
              )))
          )
        ))
def F_X6_close_132 (N : Nat) (a1 : Int32) : Nat → Int64 → Int32 → Int32 → Int64 → Int32 → MM → Option (Int64 × MM)
  | 0, _, _, _, _, _, _ => none
  | fu + 1, v2, v4, v5, v6, v8, M =>
    if v5 ≤ v8 then
      F_X6_close_206 N a1 N v2 v4 v5 v6 v2 (0 : Int32) M
    else
      bn1 (F_X6_stands N v8 M) (fun x15 =>
      gd (ib v8 40) (
      bnd (sI M 6 (ix v8) x15) (fun M17 =>
      if (2 : Int32) ≤ gI M17 6 (ix v8) then
        F_X6_close_132 N a1 fu v2 v4 v5 v6 (v8 + (1 : Int32)) M17
      else
        gd (ib (F_X6_part v8 (4 : Int32)) 5672) (
        gd (ib ((gL M17 1 (ix (F_X6_part v8 (4 : Int32)))).toInt32) 6) (
        gd (ib (F_X6_part v8 (3 : Int32)) 5672) (
        bnd (sL M17 4 (ix ((gL M17 1 (ix (F_X6_part v8 (4 : Int32)))).toInt32)) ((gL M17 4 (ix ((gL M17 1 (ix (F_X6_part v8 (4 : Int32)))).toInt32))) + (gL M17 1 (ix (F_X6_part v8 (3 : Int32)))))) (fun M22 =>
        F_X6_close_132 N a1 fu v2 v4 v5 v6 (v8 + (1 : Int32)) M22
        ))))
      )))
def F_X6_close_84 (N : Nat) (a1 : Int32) : Nat → Int64 → Int32 → Int32 → Int64 → Int32 → MM → Option (Int64 × MM)
  | 0, _, _, _, _, _, _ => none
  | fu + 1, v2, v4, v5, v6, v8, M =>
    if v4 ≤ v8 then
      F_X6_close_132 N a1 N v2 v4 v5 v6 (0 : Int32) M
    else
      gd (ib (F_X6_groupCell v8 (3 : Int32)) 5672) (
      bnd (v6 + (gL M 1 (ix (F_X6_groupCell v8 (3 : Int32))))) (fun x9 =>
      gd (ib v8 6) (
      bnd (sL M 4 (ix v8) (0 : Int64)) (fun M11 =>
      gd (ib v8 7) (
      bnd (sL M11 3 (ix v8) (0 : Int64)) (fun M13 =>
      F_X6_close_84 N a1 fu v2 v4 v5 x9 (v8 + (1 : Int32)) M13
      ))))))
def F_X6_close (N : Nat) (a1 : Int32) (M : MM) : Option (Int64 × MM) :=
  if bI (F_X6_in a1.toInt64 (0 : Int64) (100000000 : Int64)) = (0 : Int32) then
    some ((-1000000000000000 : Int64), M)
  else
    if gL M 1 5663 = (60 : Int64) then
      some ((-1000000000000000 : Int64), M)
    else
      bnd ((gL M 1 5664) + a1.toInt64) (fun x3 =>
      bnd (sL M 1 5671 ((gL M 1 5671) + a1.toInt64)) (fun M4 =>
      bnd ((gL M4 1 5669).toInt32) (fun x5 =>
      bnd ((gL M4 1 5670).toInt32) (fun x6 =>
      F_X6_close_84 N a1 N x3 x5 x6 (0 : Int64) (0 : Int32) M4
      ))))
theorem hd_X6_keep : yX6_keep.cls ≠ "java/lang/invoke/MethodHandle" ∧ yX6_keep.cls ≠ "java/lang/invoke/VarHandle" ∧ (parseMethodDescriptor yX6_keep.desc).map (fun d => d.parameters.length) = some 0 := by decide +kernel
set_option maxHeartbeats 4000000 in
set_option maxRecDepth 100000 in
theorem L_X6_keep_2 (l : Launch) (E : EE) (ad : Nat → Nat) (hI : ad_I ad 7) (N : Nat)   {p : Program} {e : Env} {s : State} {m : MethodId} {below : List Frame} {meth : Method} {c : Code} (S : CallFix p m c cX6_keep 2 s [.ref (ad 0)].toArray bg_B "SurvivorPurseModel") (hr : meth.sig.returnType = (some .long)) (hlk : meth.locks = false) (hK : va_K E.1 vwCl (tysE E) s) (hN : NW s) (r : Int64) (M' : MM) : ∀ (fu : Nat) (v1 : Int32)  (M : MM), F_X6_keep_2 N  fu v1 M = some (r, M') → ∀ (H : Heap) (locs : List Loc) (ls : Array Slot), va_P E.1 vwCl (mw (entM E ad M) ad 7) H → va_S (AA ad 7 s.heap.size) s.heap H locs → lv_has ls 2 [(0, .ref (ad 0)), (1, .int v1)] → W p l e { frames := 0, cells := 0, slots := 0, locals := 0 } s m [.ref (ad 0)].toArray below meth c H locs 0 0 (MQ below (va_Ql (fun r0 (_ : Unit) => r0 = r) (fun _ t => QB E (entM E ad M') ad 7 t) (AA ad 7 s.heap.size)) [.ref (ad 0)].toArray s 0 0 (AA ad 7 s.heap.size)) (F0 m 2 ls []) := by
  intro fu
  induction fu with
  | zero =>
    intro v1 M hf
    rw [F_X6_keep_2] at hf
    cases hf
  | succ fu ih =>
    intro v1 M hf H locs ls hP hS hl
    rw [F_X6_keep_2] at hf
    refine lv_iload_n S.1 S.2.1 dX6_keep_2 rfl (lv_at hl 1 rfl) ?_
    refine lv_sipush (v := (5672 : Int32)) S.1 S.2.1 dX6_keep_3 (by decide) ?_
    refine lv_icmp_ge (tgt := 27) S.1 S.2.1 dX6_keep_6 (by decide) (fun h1 => ?_) (fun h1 => ?_)
    · replace hf := ift h1 hf
      refine lv_aload_n S.1 S.2.1 dX6_keep_27 rfl (lv_at hl 0 rfl) ?_
      refine lv_iconst (v := (1 : Int32)) S.1 S.2.1 dX6_keep_28 (by decide) ?_
      refine x_put S hI hK hP hS w_lay_X6 tyX6 tyX6_ok nmX6 (ci := 6) rfl 0 (by decide) m0 2 (by decide) w_fl_X6_136 rfl rfl (bo_nar (by decide)) (bo_fit (by decide)) (Nat.le_of_ble_eq_true rfl) (entM E ad (sI M 0 2 (1 : Int32))) (h1_X6_2 (by decide)) (fun _ h => entM_sI _ h) dX6_keep_29 (fun H locs hP hS => ?_)
      obtain ⟨M2, eM2, hf⟩ := bnd_some hf
      rw [← eM2] at hP
      refine lv_lconst (v := (1 : Int64)) S.1 S.2.1 dX6_keep_32 (by decide) ?_
      cases hf
      exact r_l S hr hlk hP hS dX6_keep_33
    · replace hf := iff_ h1 hf
      refine lv_aload_n S.1 S.2.1 dX6_keep_9 rfl (lv_at hl 0 rfl) ?_
      refine x_get (v := .ref (ad 2)) S hK hP w_lay_X6 (ci := 6) rfl 0 (by decide) m0 1 (by decide) w_fl_X6_13 rfl rfl dX6_keep_10 ?_
      refine lv_iload_n S.1 S.2.1 dX6_keep_13 rfl (lv_at hl 1 rfl) ?_
      refine lv_aload_n S.1 S.2.1 dX6_keep_14 rfl (lv_at hl 0 rfl) ?_
      refine x_get (v := .ref (ad 1)) S hK hP w_lay_X6 (ci := 6) rfl 0 (by decide) m0 0 (by decide) w_fl_X6_7 rfl rfl dX6_keep_15 ?_
      refine lv_iload_n S.1 S.2.1 dX6_keep_18 rfl (lv_at hl 1 rfl) ?_
      obtain ⟨h3, hf⟩ := gd_some hf
      refine x_lald S hK hP 1 (by decide) m1 h3 dX6_keep_19 ?_
      refine x_last S hI hK hP hS 2 (by decide) m2 h3 (entM E ad (sL M 2 (ix v1) (gL M 1 (ix v1)))) n2 (fun _ h => entM_sL _ h) dX6_keep_20 (fun H locs hP hS => ?_)
      obtain ⟨M4, eM4, hf⟩ := bnd_some hf
      rw [← eM4] at hP
      refine lv_iinc (v := v1 + (1 : Int32)) (lv' := [(1, .int (v1 + (1 : Int32))), (0, .ref (ad 0))]) S.1 S.2.1 dX6_keep_21 hl (k := 1) rfl rfl (by decide) rfl (fun ls hl => ?_)
      refine lv_goto (tgt := 2) S.1 S.2.1 dX6_keep_24 (by decide) ?_
      exact ih (v1 + (1 : Int32))  M4 hf _ _ _ hP hS (lv_sub hl [1, 0] rfl)
set_option maxHeartbeats 4000000 in
set_option maxRecDepth 100000 in
theorem K_X6_keep (l : Launch) (E : EE) (ad : Nat → Nat) (hI : ad_I ad 7) (sz : Nat) (N : Nat)   (M : MM) (r : Int64) (M' : MM) (hf : F_X6_keep N  M = some (r, M')) : CtL l yX6_keep cX6_keep 2 0 0 E (entM E ad M) (entM E ad M') ad 7 sz [.ref (ad 0)] (r) := by
  unfold CtL
  refine body_of (by decide) "SurvivorPurseModel" rfl (Nat.le_of_ble_eq_true rfl) ?_
  intro p e s m below meth c hsz S hr hlk hP hK hN ls hl
  subst hsz
  have hS : va_S (AA ad 7 s.heap.size) s.heap s.heap [] := va_S.rf
  have hl : lv_has ls 2 [(0, .ref (ad 0))] := hl
  rw [F_X6_keep] at hf
  refine lv_iconst (v := (0 : Int32)) S.1 S.2.1 dX6_keep_0 (by decide) ?_
  refine lv_istore_n (lv' := [(1, .int (0 : Int32)), (0, .ref (ad 0))]) S.1 S.2.1 dX6_keep_1 rfl hl (by decide) rfl (fun ls hl => ?_)
  exact L_X6_keep_2 l E ad hI N   S hr hlk hK hN _ _ N (0 : Int32)  M hf _ _ _ hP hS (lv_sub hl [1, 0] rfl)
theorem hd_X6_back : yX6_back.cls ≠ "java/lang/invoke/MethodHandle" ∧ yX6_back.cls ≠ "java/lang/invoke/VarHandle" ∧ (parseMethodDescriptor yX6_back.desc).map (fun d => d.parameters.length) = some 0 := by decide +kernel
set_option maxHeartbeats 4000000 in
set_option maxRecDepth 100000 in
theorem L_X6_back_13 (l : Launch) (E : EE) (ad : Nat → Nat) (hI : ad_I ad 7) (N : Nat)   {p : Program} {e : Env} {s : State} {m : MethodId} {below : List Frame} {meth : Method} {c : Code} (S : CallFix p m c cX6_back 2 s [.ref (ad 0)].toArray bg_B "SurvivorPurseModel") (hr : meth.sig.returnType = (some .long)) (hlk : meth.locks = false) (hK : va_K E.1 vwCl (tysE E) s) (hN : NW s) (r : Int64) (M' : MM) : ∀ (fu : Nat) (v1 : Int32)  (M : MM), F_X6_back_13 N  fu v1 M = some (r, M') → ∀ (H : Heap) (locs : List Loc) (ls : Array Slot), va_P E.1 vwCl (mw (entM E ad M) ad 7) H → va_S (AA ad 7 s.heap.size) s.heap H locs → lv_has ls 2 [(0, .ref (ad 0)), (1, .int v1)] → W p l e { frames := 0, cells := 0, slots := 0, locals := 0 } s m [.ref (ad 0)].toArray below meth c H locs 0 0 (MQ below (va_Ql (fun r0 (_ : Unit) => r0 = r) (fun _ t => QB E (entM E ad M') ad 7 t) (AA ad 7 s.heap.size)) [.ref (ad 0)].toArray s 0 0 (AA ad 7 s.heap.size)) (F0 m 13 ls []) := by
  intro fu
  induction fu with
  | zero =>
    intro v1 M hf
    rw [F_X6_back_13] at hf
    cases hf
  | succ fu ih =>
    intro v1 M hf H locs ls hP hS hl
    rw [F_X6_back_13] at hf
    refine lv_iload_n S.1 S.2.1 dX6_back_13 rfl (lv_at hl 1 rfl) ?_
    refine lv_sipush (v := (5672 : Int32)) S.1 S.2.1 dX6_back_14 (by decide) ?_
    refine lv_icmp_ge (tgt := 38) S.1 S.2.1 dX6_back_17 (by decide) (fun h2 => ?_) (fun h2 => ?_)
    · replace hf := ift h2 hf
      refine lv_lconst (v := (1 : Int64)) S.1 S.2.1 dX6_back_38 (by decide) ?_
      cases hf
      exact r_l S hr hlk hP hS dX6_back_39
    · replace hf := iff_ h2 hf
      refine lv_aload_n S.1 S.2.1 dX6_back_20 rfl (lv_at hl 0 rfl) ?_
      refine x_get (v := .ref (ad 1)) S hK hP w_lay_X6 (ci := 6) rfl 0 (by decide) m0 0 (by decide) w_fl_X6_7 rfl rfl dX6_back_21 ?_
      refine lv_iload_n S.1 S.2.1 dX6_back_24 rfl (lv_at hl 1 rfl) ?_
      refine lv_aload_n S.1 S.2.1 dX6_back_25 rfl (lv_at hl 0 rfl) ?_
      refine x_get (v := .ref (ad 2)) S hK hP w_lay_X6 (ci := 6) rfl 0 (by decide) m0 1 (by decide) w_fl_X6_13 rfl rfl dX6_back_26 ?_
      refine lv_iload_n S.1 S.2.1 dX6_back_29 rfl (lv_at hl 1 rfl) ?_
      obtain ⟨h3, hf⟩ := gd_some hf
      refine x_lald S hK hP 2 (by decide) m2 h3 dX6_back_30 ?_
      refine x_last S hI hK hP hS 1 (by decide) m1 h3 (entM E ad (sL M 1 (ix v1) (gL M 2 (ix v1)))) n1 (fun _ h => entM_sL _ h) dX6_back_31 (fun H locs hP hS => ?_)
      obtain ⟨M4, eM4, hf⟩ := bnd_some hf
      rw [← eM4] at hP
      refine lv_iinc (v := v1 + (1 : Int32)) (lv' := [(1, .int (v1 + (1 : Int32))), (0, .ref (ad 0))]) S.1 S.2.1 dX6_back_32 hl (k := 1) rfl rfl (by decide) rfl (fun ls hl => ?_)
      refine lv_goto (tgt := 13) S.1 S.2.1 dX6_back_35 (by decide) ?_
      exact ih (v1 + (1 : Int32))  M4 hf _ _ _ hP hS (lv_sub hl [1, 0] rfl)
set_option maxHeartbeats 4000000 in
set_option maxRecDepth 100000 in
theorem K_X6_back (l : Launch) (E : EE) (ad : Nat → Nat) (hI : ad_I ad 7) (sz : Nat) (N : Nat)   (M : MM) (r : Int64) (M' : MM) (hf : F_X6_back N  M = some (r, M')) : CtL l yX6_back cX6_back 2 0 0 E (entM E ad M) (entM E ad M') ad 7 sz [.ref (ad 0)] (r) := by
  unfold CtL
  refine body_of (by decide) "SurvivorPurseModel" rfl (Nat.le_of_ble_eq_true rfl) ?_
  intro p e s m below meth c hsz S hr hlk hP hK hN ls hl
  subst hsz
  have hS : va_S (AA ad 7 s.heap.size) s.heap s.heap [] := va_S.rf
  have hl : lv_has ls 2 [(0, .ref (ad 0))] := hl
  rw [F_X6_back] at hf
  refine lv_aload_n S.1 S.2.1 dX6_back_0 rfl (lv_at hl 0 rfl) ?_
  refine x_get (v := .int (bo (gI M 0 2))) S hK hP w_lay_X6 (ci := 6) rfl 0 (by decide) m0 2 (by decide) w_fl_X6_136 rfl rfl dX6_back_1 ?_
  refine lv_if_ne (tgt := 11) S.1 S.2.1 dX6_back_4 (by decide) (fun h1 => ?_) (fun h1 => ?_)
  · replace hf := iff_ h1 hf
    refine lv_iconst (v := (0 : Int32)) S.1 S.2.1 dX6_back_11 (by decide) ?_
    refine lv_istore_n (lv' := [(1, .int (0 : Int32)), (0, .ref (ad 0))]) S.1 S.2.1 dX6_back_12 rfl hl (by decide) rfl (fun ls hl => ?_)
    exact L_X6_back_13 l E ad hI N   S hr hlk hK hN _ _ N (0 : Int32)  M hf _ _ _ hP hS (lv_sub hl [1, 0] rfl)
  · replace hf := ift h1 hf
    refine lv_ldc2 (own := "SurvivorPurseModel") (v := (-1000000000000000 : Int64)) S.1 S.2.1 S.2.2.2.1 (S.2.2.2.2 _ w_kl_X6_41) dX6_back_7 ?_
    cases hf
    exact r_l S hr hlk hP hS dX6_back_10
theorem hd_X6_death : yX6_death.cls ≠ "java/lang/invoke/MethodHandle" ∧ yX6_death.cls ≠ "java/lang/invoke/VarHandle" ∧ (parseMethodDescriptor yX6_death.desc).map (fun d => d.parameters.length) = some 2 := by decide +kernel
set_option maxHeartbeats 4000000 in
set_option maxRecDepth 100000 in
theorem L_X6_death_91 (l : Launch) (E : EE) (ad : Nat → Nat) (hI : ad_I ad 7) (N : Nat) (a1 : Int32) (a2 : Int32)  {p : Program} {e : Env} {s : State} {m : MethodId} {below : List Frame} {meth : Method} {c : Code} (S : CallFix p m c cX6_death 6 s [.ref (ad 0), .int a1, .int a2].toArray bg_B "SurvivorPurseModel") (hr : meth.sig.returnType = (some .long)) (hlk : meth.locks = false) (hK : va_K E.1 vwCl (tysE E) s) (hN : NW s) (r : Int64) (M' : MM) : ∀ (fu : Nat) (v3 : Int64) (v5 : Int32)  (M : MM), F_X6_death_91 N a1 a2 fu v3 v5 M = some (r, M') → ∀ (H : Heap) (locs : List Loc) (ls : Array Slot), va_P E.1 vwCl (mw (entM E ad M) ad 7) H → va_S (AA ad 7 s.heap.size) s.heap H locs → lv_has ls 6 [(0, .ref (ad 0)), (1, .int a1), (3, .long v3), (5, .int v5)] → W p l e { frames := 3, cells := 0, slots := 0, locals := 83 } s m [.ref (ad 0), .int a1, .int a2].toArray below meth c H locs 0 0 (MQ below (va_Ql (fun r0 (_ : Unit) => r0 = r) (fun _ t => QB E (entM E ad M') ad 7 t) (AA ad 7 s.heap.size)) [.ref (ad 0), .int a1, .int a2].toArray s 0 0 (AA ad 7 s.heap.size)) (F0 m 91 ls []) := by
  intro fu
  induction fu with
  | zero =>
    intro v3 v5 M hf
    rw [F_X6_death_91] at hf
    cases hf
  | succ fu ih =>
    intro v3 v5 M hf H locs ls hP hS hl
    rw [F_X6_death_91] at hf
    refine lv_iload S.1 S.2.1 dX6_death_91 (lv_at hl 3 rfl) ?_
    refine lv_i2l (v := v5.toInt64) S.1 S.2.1 dX6_death_93 rfl ?_
    refine lv_aload_n S.1 S.2.1 dX6_death_94 rfl (lv_at hl 0 rfl) ?_
    refine x_get (v := .ref (ad 1)) S hK hP w_lay_X6 (ci := 6) rfl 0 (by decide) m0 0 (by decide) w_fl_X6_7 rfl rfl dX6_death_95 ?_
    refine lv_sipush (v := (5670 : Int32)) S.1 S.2.1 dX6_death_98 (by decide) ?_
    refine x_laldc (j := 5670) S hK hP 1 (by decide) m1 (by decide) (by decide) dX6_death_101 ?_
    refine ll_ge (tgt := 140) S dX6_death_102 dX6_death_103 (by decide) (fun h13 => ?_) (fun h13 => ?_)
    · replace hf := ift h13 hf
      refine lv_lload_n S.1 S.2.1 dX6_death_140 rfl (lv_at hl 2 rfl) ?_
      cases hf
      exact r_l S hr hlk hP hS dX6_death_141
    · replace hf := iff_ h13 hf
      refine lv_aload_n S.1 S.2.1 dX6_death_106 rfl (lv_at hl 0 rfl) ?_
      refine lv_iload S.1 S.2.1 dX6_death_107 (lv_at hl 3 rfl) ?_
      refine lv_iload_n S.1 S.2.1 dX6_death_109 rfl (lv_at hl 1 rfl) ?_
      obtain ⟨x14, gx14, hf⟩ := bn1_some hf
      refine y_Vi (As := [.int v5, .int a1]) S hK hN hP hS rfl (by decide) m0 rfl (K_X6_hasLife l E ad hI _ N v5 a1  M x14 gx14) (cV 2 S w_co_yX6_hasLife w_in_X6 w_ml_X6_101 w_im_yX6_hasLife w_se_yX6_hasLife hd_X6_hasLife ⟨Nat.le_of_ble_eq_true rfl, Nat.le_of_ble_eq_true rfl⟩) hl.1 rfl rfl (Nat.le_of_ble_eq_true rfl) dX6_death_110 ⟨Nat.zero_le _, Nat.zero_le _⟩ (fun H locs hP hS => ?_)
      refine lv_if_eq (tgt := 134) S.1 S.2.1 dX6_death_113 (by decide) (fun h15 => ?_) (fun h15 => ?_)
      · replace hf := ift h15 hf
        refine lv_iinc (v := v5 + (1 : Int32)) (lv' := [(5, .int (v5 + (1 : Int32))), (0, .ref (ad 0)), (1, .int a1), (3, .long v3)]) S.1 S.2.1 dX6_death_134 hl (k := 3) rfl rfl (by decide) rfl (fun ls hl => ?_)
        refine lv_goto (tgt := 91) S.1 S.2.1 dX6_death_137 (by decide) ?_
        exact ih v3 (v5 + (1 : Int32))  M hf _ _ _ hP hS (lv_sub hl [1, 2, 3, 0] rfl)
      · replace hf := iff_ h15 hf
        refine lv_aload_n S.1 S.2.1 dX6_death_116 rfl (lv_at hl 0 rfl) ?_
        refine lv_iload S.1 S.2.1 dX6_death_117 (lv_at hl 3 rfl) ?_
        obtain ⟨x16, gx16, hf⟩ := bn1_some hf
        refine y_Vi (As := [.int v5]) S hK hN hP hS rfl (by decide) m0 rfl (K_X6_areDead l E ad hI _ N v5  M x16 gx16) (cV 1 S w_co_yX6_areDead w_in_X6 w_ml_X6_109 w_im_yX6_areDead w_se_yX6_areDead hd_X6_areDead ⟨Nat.le_of_ble_eq_true rfl, Nat.le_of_ble_eq_true rfl⟩) hl.1 rfl rfl (Nat.le_of_ble_eq_true rfl) dX6_death_119 ⟨Nat.zero_le _, Nat.zero_le _⟩ (fun H locs hP hS => ?_)
        refine lv_if_eq (tgt := 134) S.1 S.2.1 dX6_death_122 (by decide) (fun h17 => ?_) (fun h17 => ?_)
        · replace hf := ift h17 hf
          refine lv_iinc (v := v5 + (1 : Int32)) (lv' := [(5, .int (v5 + (1 : Int32))), (0, .ref (ad 0)), (1, .int a1), (3, .long v3)]) S.1 S.2.1 dX6_death_134 hl (k := 3) rfl rfl (by decide) rfl (fun ls hl => ?_)
          refine lv_goto (tgt := 91) S.1 S.2.1 dX6_death_137 (by decide) ?_
          exact ih v3 (v5 + (1 : Int32))  M hf _ _ _ hP hS (lv_sub hl [1, 2, 3, 0] rfl)
        · replace hf := iff_ h17 hf
          refine lv_lload_n S.1 S.2.1 dX6_death_125 rfl (lv_at hl 2 rfl) ?_
          refine lv_aload_n S.1 S.2.1 dX6_death_126 rfl (lv_at hl 0 rfl) ?_
          refine lv_iload S.1 S.2.1 dX6_death_127 (lv_at hl 3 rfl) ?_
          obtain ⟨x19, M18, gM18, hf⟩ := bn2_some hf
          refine y_Vl (As := [.int v5]) S hK hN hP hS rfl (by decide) m0 rfl (K_X6_ends l E ad hI _ N v5  M x19 M18 gM18) (cV 1 S w_co_yX6_ends w_in_X6 w_ml_X6_125 w_im_yX6_ends w_se_yX6_ends hd_X6_ends ⟨Nat.le_of_ble_eq_true rfl, Nat.le_of_ble_eq_true rfl⟩) hl.1 rfl rfl (Nat.le_of_ble_eq_true rfl) dX6_death_129 ⟨Nat.zero_le _, Nat.zero_le _⟩ (fun H locs hP hS => ?_)
          refine lv_ladd S.1 S.2.1 dX6_death_132 ?_
          obtain ⟨x20, ex20, hf⟩ := bnd_some hf
          refine lv_rel ex20 ?_
          refine lv_lstore_n (lv' := [(3, .long x20), (0, .ref (ad 0)), (1, .int a1), (5, .int v5)]) S.1 S.2.1 dX6_death_133 rfl hl (by decide) rfl (fun ls hl => ?_)
          refine lv_iinc (v := v5 + (1 : Int32)) (lv' := [(5, .int (v5 + (1 : Int32))), (3, .long x20), (0, .ref (ad 0)), (1, .int a1)]) S.1 S.2.1 dX6_death_134 hl (k := 3) rfl rfl (by decide) rfl (fun ls hl => ?_)
          refine lv_goto (tgt := 91) S.1 S.2.1 dX6_death_137 (by decide) ?_
          exact ih x20 (v5 + (1 : Int32))  M18 hf _ _ _ hP hS (lv_sub hl [2, 3, 1, 0] rfl)
set_option maxHeartbeats 4000000 in
set_option maxRecDepth 100000 in
theorem K_X6_death (l : Launch) (E : EE) (ad : Nat → Nat) (hI : ad_I ad 7) (sz : Nat) (N : Nat) (a1 : Int32) (a2 : Int32)  (M : MM) (r : Int64) (M' : MM) (hf : F_X6_death N a1 a2 M = some (r, M')) : CtL l yX6_death cX6_death 6 3 83 E (entM E ad M) (entM E ad M') ad 7 sz [.ref (ad 0), .int a1, .int a2] (r) := by
  unfold CtL
  refine body_of (by decide) "SurvivorPurseModel" rfl (Nat.le_of_ble_eq_true rfl) ?_
  intro p e s m below meth c hsz S hr hlk hP hK hN ls hl
  subst hsz
  have hS : va_S (AA ad 7 s.heap.size) s.heap s.heap [] := va_S.rf
  have hl : lv_has ls 6 [(0, .ref (ad 0)), (1, .int a1), (2, .int a2)] := hl
  rw [F_X6_death] at hf
  refine lv_aload_n S.1 S.2.1 dX6_death_0 rfl (lv_at hl 0 rfl) ?_
  refine lv_iload_n S.1 S.2.1 dX6_death_1 rfl (lv_at hl 1 rfl) ?_
  refine y_Vi (As := [.int a1]) S hK hN hP hS rfl (by decide) m0 rfl (K_X6_isMember l E ad hI _ a1  M _ rfl) (cV 1 S w_co_yX6_isMember w_in_X6 w_ml_X6_66 w_im_yX6_isMember w_se_yX6_isMember hd_X6_isMember ⟨Nat.le_of_ble_eq_true rfl, Nat.le_of_ble_eq_true rfl⟩) hl.1 rfl rfl (Nat.le_of_ble_eq_true rfl) dX6_death_2 ⟨Nat.zero_le _, Nat.zero_le _⟩ (fun H locs hP hS => ?_)
  refine lv_if_eq (tgt := 47) S.1 S.2.1 dX6_death_5 (by decide) (fun h1 => ?_) (fun h1 => ?_)
  · replace hf := ift h1 hf
    refine lv_ldc2 (own := "SurvivorPurseModel") (v := (-1000000000000000 : Int64)) S.1 S.2.1 S.2.2.2.1 (S.2.2.2.2 _ w_kl_X6_41) dX6_death_47 ?_
    cases hf
    exact r_l S hr hlk hP hS dX6_death_50
  · replace hf := iff_ h1 hf
    refine lv_aload_n S.1 S.2.1 dX6_death_8 rfl (lv_at hl 0 rfl) ?_
    refine lv_iload_n S.1 S.2.1 dX6_death_9 rfl (lv_at hl 1 rfl) ?_
    refine lv_i2l (v := a1.toInt64) S.1 S.2.1 dX6_death_10 rfl ?_
    obtain ⟨x2, gx2, hf⟩ := bn1_some hf
    refine y_Vi (As := [.long a1.toInt64]) S hK hN hP hS rfl (by decide) m0 rfl (K_X6_isDead l E ad hI _ N a1.toInt64  M x2 gx2) (cV 1 S w_co_yX6_isDead w_in_X6 w_ml_X6_75 w_im_yX6_isDead w_se_yX6_isDead hd_X6_isDead ⟨Nat.le_of_ble_eq_true rfl, Nat.le_of_ble_eq_true rfl⟩) hl.1 rfl rfl (Nat.le_of_ble_eq_true rfl) dX6_death_11 ⟨Nat.zero_le _, Nat.zero_le _⟩ (fun H locs hP hS => ?_)
    refine lv_if_ne (tgt := 47) S.1 S.2.1 dX6_death_14 (by decide) (fun h3 => ?_) (fun h3 => ?_)
    · replace hf := iff_ h3 hf
      refine lv_ldc2 (own := "SurvivorPurseModel") (v := (-1000000000000000 : Int64)) S.1 S.2.1 S.2.2.2.1 (S.2.2.2.2 _ w_kl_X6_41) dX6_death_47 ?_
      cases hf
      exact r_l S hr hlk hP hS dX6_death_50
    · replace hf := ift h3 hf
      refine lv_iload_n S.1 S.2.1 dX6_death_17 rfl (lv_at hl 2 rfl) ?_
      refine lv_i2l (v := a2.toInt64) S.1 S.2.1 dX6_death_18 rfl ?_
      refine lv_aload_n S.1 S.2.1 dX6_death_19 rfl (lv_at hl 0 rfl) ?_
      refine x_get (v := .ref (ad 1)) S hK hP w_lay_X6 (ci := 6) rfl 0 (by decide) m0 0 (by decide) w_fl_X6_7 rfl rfl dX6_death_20 ?_
      refine lv_iload_n S.1 S.2.1 dX6_death_23 rfl (lv_at hl 1 rfl) ?_
      refine lv_iconst (v := (0 : Int32)) S.1 S.2.1 dX6_death_24 (by decide) ?_
      refine y_Si (As := [.int a1, .int (0 : Int32)]) S hK hN hP hS rfl (K_X6_cellOf l E ad hI _ a1 (0 : Int32)  M _ rfl) (cS 2 S w_co_yX6_cellOf w_in_X6 w_ml_X6_63 w_st_yX6_cellOf hd_X6_cellOf ⟨Nat.le_of_ble_eq_true rfl, Nat.le_of_ble_eq_true rfl⟩) hl.1 rfl rfl (Nat.le_of_ble_eq_true rfl) dX6_death_25 ⟨Nat.zero_le _, Nat.zero_le _⟩ (fun H locs hP hS => ?_)
      obtain ⟨h4, hf⟩ := gd_some hf
      refine x_lald S hK hP 1 (by decide) m1 h4 dX6_death_28 ?_
      refine ll_lt (tgt := 47) S dX6_death_29 dX6_death_30 (by decide) (fun h5 => ?_) (fun h5 => ?_)
      · replace hf := ift h5 hf
        refine lv_ldc2 (own := "SurvivorPurseModel") (v := (-1000000000000000 : Int64)) S.1 S.2.1 S.2.2.2.1 (S.2.2.2.2 _ w_kl_X6_41) dX6_death_47 ?_
        cases hf
        exact r_l S hr hlk hP hS dX6_death_50
      · replace hf := iff_ h5 hf
        refine lv_iload_n S.1 S.2.1 dX6_death_33 rfl (lv_at hl 2 rfl) ?_
        refine lv_i2l (v := a2.toInt64) S.1 S.2.1 dX6_death_34 rfl ?_
        refine lv_aload_n S.1 S.2.1 dX6_death_35 rfl (lv_at hl 0 rfl) ?_
        refine x_get (v := .ref (ad 1)) S hK hP w_lay_X6 (ci := 6) rfl 0 (by decide) m0 0 (by decide) w_fl_X6_7 rfl rfl dX6_death_36 ?_
        refine lv_sipush (v := (5663 : Int32)) S.1 S.2.1 dX6_death_39 (by decide) ?_
        refine x_laldc (j := 5663) S hK hP 1 (by decide) m1 (by decide) (by decide) dX6_death_42 ?_
        refine ll_le (tgt := 51) S dX6_death_43 dX6_death_44 (by decide) (fun h6 => ?_) (fun h6 => ?_)
        · replace hf := ift h6 hf
          refine lv_aload_n S.1 S.2.1 dX6_death_51 rfl (lv_at hl 0 rfl) ?_
          refine x_get (v := .ref (ad 1)) S hK hP w_lay_X6 (ci := 6) rfl 0 (by decide) m0 0 (by decide) w_fl_X6_7 rfl rfl dX6_death_52 ?_
          refine lv_iload_n S.1 S.2.1 dX6_death_55 rfl (lv_at hl 1 rfl) ?_
          refine lv_iconst (v := (5 : Int32)) S.1 S.2.1 dX6_death_56 (by decide) ?_
          refine y_Si (As := [.int a1, .int (5 : Int32)]) S hK hN hP hS rfl (K_X6_cellOf l E ad hI _ a1 (5 : Int32)  M _ rfl) (cS 2 S w_co_yX6_cellOf w_in_X6 w_ml_X6_63 w_st_yX6_cellOf hd_X6_cellOf ⟨Nat.le_of_ble_eq_true rfl, Nat.le_of_ble_eq_true rfl⟩) hl.1 rfl rfl (Nat.le_of_ble_eq_true rfl) dX6_death_57 ⟨Nat.zero_le _, Nat.zero_le _⟩ (fun H locs hP hS => ?_)
          refine lv_lconst (v := (1 : Int64)) S.1 S.2.1 dX6_death_60 (by decide) ?_
          obtain ⟨h7, hf⟩ := gd_some hf
          refine x_last S hI hK hP hS 1 (by decide) m1 h7 (entM E ad (sL M 1 (ix (F_X6_cellOf a1 (5 : Int32))) (1 : Int64))) n1 (fun _ h => entM_sL _ h) dX6_death_61 (fun H locs hP hS => ?_)
          obtain ⟨M8, eM8, hf⟩ := bnd_some hf
          rw [← eM8] at hP
          refine lv_aload_n S.1 S.2.1 dX6_death_62 rfl (lv_at hl 0 rfl) ?_
          refine x_get (v := .ref (ad 1)) S hK hP w_lay_X6 (ci := 6) rfl 0 (by decide) m0 0 (by decide) w_fl_X6_7 rfl rfl dX6_death_63 ?_
          refine lv_iload_n S.1 S.2.1 dX6_death_66 rfl (lv_at hl 1 rfl) ?_
          refine lv_bipush (v := (6 : Int32)) S.1 S.2.1 dX6_death_67 (by decide) ?_
          refine y_Si (As := [.int a1, .int (6 : Int32)]) S hK hN hP hS rfl (K_X6_cellOf l E ad hI _ a1 (6 : Int32)  M8 _ rfl) (cS 2 S w_co_yX6_cellOf w_in_X6 w_ml_X6_63 w_st_yX6_cellOf hd_X6_cellOf ⟨Nat.le_of_ble_eq_true rfl, Nat.le_of_ble_eq_true rfl⟩) hl.1 rfl rfl (Nat.le_of_ble_eq_true rfl) dX6_death_69 ⟨Nat.zero_le _, Nat.zero_le _⟩ (fun H locs hP hS => ?_)
          refine lv_iload_n S.1 S.2.1 dX6_death_72 rfl (lv_at hl 2 rfl) ?_
          refine lv_i2l (v := a2.toInt64) S.1 S.2.1 dX6_death_73 rfl ?_
          obtain ⟨h9, hf⟩ := gd_some hf
          refine x_last S hI hK hP hS 1 (by decide) m1 h9 (entM E ad (sL M8 1 (ix (F_X6_cellOf a1 (6 : Int32))) a2.toInt64)) n1 (fun _ h => entM_sL _ h) dX6_death_74 (fun H locs hP hS => ?_)
          obtain ⟨M10, eM10, hf⟩ := bnd_some hf
          rw [← eM10] at hP
          refine lv_aload_n S.1 S.2.1 dX6_death_75 rfl (lv_at hl 0 rfl) ?_
          refine x_get (v := .ref (ad 1)) S hK hP w_lay_X6 (ci := 6) rfl 0 (by decide) m0 0 (by decide) w_fl_X6_7 rfl rfl dX6_death_76 ?_
          refine lv_iload_n S.1 S.2.1 dX6_death_79 rfl (lv_at hl 1 rfl) ?_
          refine lv_iconst (v := (4 : Int32)) S.1 S.2.1 dX6_death_80 (by decide) ?_
          refine y_Si (As := [.int a1, .int (4 : Int32)]) S hK hN hP hS rfl (K_X6_cellOf l E ad hI _ a1 (4 : Int32)  M10 _ rfl) (cS 2 S w_co_yX6_cellOf w_in_X6 w_ml_X6_63 w_st_yX6_cellOf hd_X6_cellOf ⟨Nat.le_of_ble_eq_true rfl, Nat.le_of_ble_eq_true rfl⟩) hl.1 rfl rfl (Nat.le_of_ble_eq_true rfl) dX6_death_81 ⟨Nat.zero_le _, Nat.zero_le _⟩ (fun H locs hP hS => ?_)
          refine lv_lconst (v := (0 : Int64)) S.1 S.2.1 dX6_death_84 (by decide) ?_
          obtain ⟨h11, hf⟩ := gd_some hf
          refine x_last S hI hK hP hS 1 (by decide) m1 h11 (entM E ad (sL M10 1 (ix (F_X6_cellOf a1 (4 : Int32))) (0 : Int64))) n1 (fun _ h => entM_sL _ h) dX6_death_85 (fun H locs hP hS => ?_)
          obtain ⟨M12, eM12, hf⟩ := bnd_some hf
          rw [← eM12] at hP
          refine lv_lconst (v := (0 : Int64)) S.1 S.2.1 dX6_death_86 (by decide) ?_
          refine lv_lstore_n (lv' := [(3, .long (0 : Int64)), (0, .ref (ad 0)), (1, .int a1), (2, .int a2)]) S.1 S.2.1 dX6_death_87 rfl hl (by decide) rfl (fun ls hl => ?_)
          refine lv_iconst (v := (0 : Int32)) S.1 S.2.1 dX6_death_88 (by decide) ?_
          refine lv_istore (lv' := [(5, .int (0 : Int32)), (3, .long (0 : Int64)), (0, .ref (ad 0)), (1, .int a1), (2, .int a2)]) S.1 S.2.1 dX6_death_89 hl (by decide) rfl (fun ls hl => ?_)
          exact L_X6_death_91 l E ad hI N a1 a2  S hr hlk hK hN _ _ N (0 : Int64) (0 : Int32)  M12 hf _ _ _ hP hS (lv_sub hl [2, 3, 1, 0] rfl)
        · replace hf := iff_ h6 hf
          refine lv_ldc2 (own := "SurvivorPurseModel") (v := (-1000000000000000 : Int64)) S.1 S.2.1 S.2.2.2.1 (S.2.2.2.2 _ w_kl_X6_41) dX6_death_47 ?_
          cases hf
          exact r_l S hr hlk hP hS dX6_death_50
theorem hd_X6_close : yX6_close.cls ≠ "java/lang/invoke/MethodHandle" ∧ yX6_close.cls ≠ "java/lang/invoke/VarHandle" ∧ (parseMethodDescriptor yX6_close.desc).map (fun d => d.parameters.length) = some 1 := by decide +kernel
set_option maxHeartbeats 4000000 in
set_option maxRecDepth 100000 in
theorem L_X6_close_668 (l : Launch) (E : EE) (ad : Nat → Nat) (hI : ad_I ad 7) (N : Nat) (a1 : Int32)  {p : Program} {e : Env} {s : State} {m : MethodId} {below : List Frame} {meth : Method} {c : Code} (S : CallFix p m c cX6_close 14 s [.ref (ad 0), .int a1].toArray bg_B "SurvivorPurseModel") (hr : meth.sig.returnType = (some .long)) (hlk : meth.locks = false) (hK : va_K E.1 vwCl (tysE E) s) (hN : NW s) (r : Int64) (M' : MM) : ∀ (fu : Nat) (v5 : Int32) (v11 : Int64) (v13 : Int32)  (M : MM), F_X6_close_668 N a1 fu v5 v11 v13 M = some (r, M') → ∀ (H : Heap) (locs : List Loc) (ls : Array Slot), va_P E.1 vwCl (mw (entM E ad M) ad 7) H → va_S (AA ad 7 s.heap.size) s.heap H locs → lv_has ls 14 [(0, .ref (ad 0)), (5, .int v5), (11, .long v11), (13, .int v13)] → W p l e { frames := 4, cells := 0, slots := 0, locals := 89 } s m [.ref (ad 0), .int a1].toArray below meth c H locs 0 0 (MQ below (va_Ql (fun r0 (_ : Unit) => r0 = r) (fun _ t => QB E (entM E ad M') ad 7 t) (AA ad 7 s.heap.size)) [.ref (ad 0), .int a1].toArray s 0 0 (AA ad 7 s.heap.size)) (F0 m 668 ls []) := by
  intro fu
  induction fu with
  | zero =>
    intro v5 v11 v13 M hf
    rw [F_X6_close_668] at hf
    cases hf
  | succ fu ih =>
    intro v5 v11 v13 M hf H locs ls hP hS hl
    rw [F_X6_close_668] at hf
    refine lv_iload S.1 S.2.1 dX6_close_668 (lv_at hl 3 rfl) ?_
    refine lv_iload S.1 S.2.1 dX6_close_670 (lv_at hl 1 rfl) ?_
    refine lv_icmp_ge (tgt := 732) S.1 S.2.1 dX6_close_672 (by decide) (fun h132 => ?_) (fun h132 => ?_)
    · replace hf := ift h132 hf
      refine lv_lload S.1 S.2.1 dX6_close_732 (lv_at hl 2 rfl) ?_
      cases hf
      exact r_l S hr hlk hP hS dX6_close_734
    · replace hf := iff_ h132 hf
      refine lv_aload_n S.1 S.2.1 dX6_close_675 rfl (lv_at hl 0 rfl) ?_
      refine x_get (v := .ref (ad 1)) S hK hP w_lay_X6 (ci := 6) rfl 0 (by decide) m0 0 (by decide) w_fl_X6_7 rfl rfl dX6_close_676 ?_
      refine lv_iload S.1 S.2.1 dX6_close_679 (lv_at hl 3 rfl) ?_
      refine lv_iconst (v := (5 : Int32)) S.1 S.2.1 dX6_close_681 (by decide) ?_
      refine y_Si (As := [.int v13, .int (5 : Int32)]) S hK hN hP hS rfl (K_X6_part l E ad hI _ v13 (5 : Int32)  M _ rfl) (cS 2 S w_co_yX6_part w_in_X6 w_ml_X6_89 w_st_yX6_part hd_X6_part ⟨Nat.le_of_ble_eq_true rfl, Nat.le_of_ble_eq_true rfl⟩) hl.1 rfl rfl (Nat.le_of_ble_eq_true rfl) dX6_close_682 ⟨Nat.zero_le _, Nat.zero_le _⟩ (fun H locs hP hS => ?_)
      obtain ⟨h133, hf⟩ := gd_some hf
      refine x_lald S hK hP 1 (by decide) m1 h133 dX6_close_685 ?_
      refine lv_ldc2 (own := "SurvivorPurseModel") (v := (3 : Int64)) S.1 S.2.1 S.2.2.2.1 (S.2.2.2.2 _ w_kl_X6_79) dX6_close_686 ?_
      refine ll_ne (tgt := 726) S dX6_close_689 dX6_close_690 (by decide) (fun h134 => ?_) (fun h134 => ?_)
      · replace hf := iff_ h134 hf
        refine lv_iinc (v := v13 + (1 : Int32)) (lv' := [(13, .int (v13 + (1 : Int32))), (0, .ref (ad 0)), (5, .int v5), (11, .long v11)]) S.1 S.2.1 dX6_close_726 hl (k := 3) rfl rfl (by decide) rfl (fun ls hl => ?_)
        refine lv_goto (tgt := 668) S.1 S.2.1 dX6_close_729 (by decide) ?_
        exact ih v5 v11 (v13 + (1 : Int32))  M hf _ _ _ hP hS (lv_sub hl [1, 2, 3, 0] rfl)
      · replace hf := ift h134 hf
        refine lv_aload_n S.1 S.2.1 dX6_close_693 rfl (lv_at hl 0 rfl) ?_
        refine x_get (v := .ref (ad 1)) S hK hP w_lay_X6 (ci := 6) rfl 0 (by decide) m0 0 (by decide) w_fl_X6_7 rfl rfl dX6_close_694 ?_
        refine lv_iload S.1 S.2.1 dX6_close_697 (lv_at hl 3 rfl) ?_
        refine lv_bipush (v := (13 : Int32)) S.1 S.2.1 dX6_close_699 (by decide) ?_
        refine y_Si (As := [.int v13, .int (13 : Int32)]) S hK hN hP hS rfl (K_X6_part l E ad hI _ v13 (13 : Int32)  M _ rfl) (cS 2 S w_co_yX6_part w_in_X6 w_ml_X6_89 w_st_yX6_part hd_X6_part ⟨Nat.le_of_ble_eq_true rfl, Nat.le_of_ble_eq_true rfl⟩) hl.1 rfl rfl (Nat.le_of_ble_eq_true rfl) dX6_close_701 ⟨Nat.zero_le _, Nat.zero_le _⟩ (fun H locs hP hS => ?_)
        obtain ⟨h135, hf⟩ := gd_some hf
        refine x_lald S hK hP 1 (by decide) m1 h135 dX6_close_704 ?_
        refine lv_lconst (v := (0 : Int64)) S.1 S.2.1 dX6_close_705 (by decide) ?_
        refine ll_ne (tgt := 726) S dX6_close_706 dX6_close_707 (by decide) (fun h136 => ?_) (fun h136 => ?_)
        · replace hf := iff_ h136 hf
          refine lv_iinc (v := v13 + (1 : Int32)) (lv' := [(13, .int (v13 + (1 : Int32))), (0, .ref (ad 0)), (5, .int v5), (11, .long v11)]) S.1 S.2.1 dX6_close_726 hl (k := 3) rfl rfl (by decide) rfl (fun ls hl => ?_)
          refine lv_goto (tgt := 668) S.1 S.2.1 dX6_close_729 (by decide) ?_
          exact ih v5 v11 (v13 + (1 : Int32))  M hf _ _ _ hP hS (lv_sub hl [1, 2, 3, 0] rfl)
        · replace hf := ift h136 hf
          refine lv_aload_n S.1 S.2.1 dX6_close_710 rfl (lv_at hl 0 rfl) ?_
          refine lv_iload S.1 S.2.1 dX6_close_711 (lv_at hl 3 rfl) ?_
          obtain ⟨x137, gx137, hf⟩ := bn1_some hf
          refine y_Vi (As := [.int v13]) S hK hN hP hS rfl (by decide) m0 rfl (K_X6_stands l E ad hI _ N v13  M x137 gx137) (cV 1 S w_co_yX6_stands w_in_X6 w_ml_X6_117 w_im_yX6_stands w_se_yX6_stands hd_X6_stands ⟨Nat.le_of_ble_eq_true rfl, Nat.le_of_ble_eq_true rfl⟩) hl.1 rfl rfl (Nat.le_of_ble_eq_true rfl) dX6_close_713 ⟨Nat.zero_le _, Nat.zero_le _⟩ (fun H locs hP hS => ?_)
          refine lv_iconst (v := (3 : Int32)) S.1 S.2.1 dX6_close_716 (by decide) ?_
          refine lv_icmp_ne (tgt := 726) S.1 S.2.1 dX6_close_717 (by decide) (fun h138 => ?_) (fun h138 => ?_)
          · replace hf := iff_ h138 hf
            refine lv_iinc (v := v13 + (1 : Int32)) (lv' := [(13, .int (v13 + (1 : Int32))), (0, .ref (ad 0)), (5, .int v5), (11, .long v11)]) S.1 S.2.1 dX6_close_726 hl (k := 3) rfl rfl (by decide) rfl (fun ls hl => ?_)
            refine lv_goto (tgt := 668) S.1 S.2.1 dX6_close_729 (by decide) ?_
            exact ih v5 v11 (v13 + (1 : Int32))  M hf _ _ _ hP hS (lv_sub hl [1, 2, 3, 0] rfl)
          · replace hf := ift h138 hf
            refine lv_aload_n S.1 S.2.1 dX6_close_720 rfl (lv_at hl 0 rfl) ?_
            refine lv_iload S.1 S.2.1 dX6_close_721 (lv_at hl 3 rfl) ?_
            obtain ⟨M139, gM139, hf⟩ := bn1_some hf
            refine y_Vv (As := [.int v13]) S hK hN hP hS rfl (by decide) m0 rfl (K_X6_backGoes l E ad hI _ N v13  M M139 gM139) (cV 1 S w_co_yX6_backGoes w_in_X6 w_ml_X6_132 w_im_yX6_backGoes w_se_yX6_backGoes hd_X6_backGoes ⟨Nat.le_of_ble_eq_true rfl, Nat.le_of_ble_eq_true rfl⟩) hl.1 rfl rfl (Nat.le_of_ble_eq_true rfl) dX6_close_723 ⟨Nat.zero_le _, Nat.zero_le _⟩ (fun H locs hP hS => ?_)
            refine lv_iinc (v := v13 + (1 : Int32)) (lv' := [(13, .int (v13 + (1 : Int32))), (0, .ref (ad 0)), (5, .int v5), (11, .long v11)]) S.1 S.2.1 dX6_close_726 hl (k := 3) rfl rfl (by decide) rfl (fun ls hl => ?_)
            refine lv_goto (tgt := 668) S.1 S.2.1 dX6_close_729 (by decide) ?_
            exact ih v5 v11 (v13 + (1 : Int32))  M139 hf _ _ _ hP hS (lv_sub hl [1, 2, 3, 0] rfl)
set_option maxHeartbeats 4000000 in
set_option maxRecDepth 100000 in
theorem L_X6_close_632 (l : Launch) (E : EE) (ad : Nat → Nat) (hI : ad_I ad 7) (N : Nat) (a1 : Int32)  {p : Program} {e : Env} {s : State} {m : MethodId} {below : List Frame} {meth : Method} {c : Code} (S : CallFix p m c cX6_close 14 s [.ref (ad 0), .int a1].toArray bg_B "SurvivorPurseModel") (hr : meth.sig.returnType = (some .long)) (hlk : meth.locks = false) (hK : va_K E.1 vwCl (tysE E) s) (hN : NW s) (r : Int64) (M' : MM) : ∀ (fu : Nat) (v5 : Int32) (v11 : Int64) (v13 : Int32)  (M : MM), F_X6_close_632 N a1 fu v5 v11 v13 M = some (r, M') → ∀ (H : Heap) (locs : List Loc) (ls : Array Slot), va_P E.1 vwCl (mw (entM E ad M) ad 7) H → va_S (AA ad 7 s.heap.size) s.heap H locs → lv_has ls 14 [(0, .ref (ad 0)), (5, .int v5), (11, .long v11), (13, .int v13)] → W p l e { frames := 4, cells := 0, slots := 0, locals := 89 } s m [.ref (ad 0), .int a1].toArray below meth c H locs 0 0 (MQ below (va_Ql (fun r0 (_ : Unit) => r0 = r) (fun _ t => QB E (entM E ad M') ad 7 t) (AA ad 7 s.heap.size)) [.ref (ad 0), .int a1].toArray s 0 0 (AA ad 7 s.heap.size)) (F0 m 632 ls []) := by
  intro fu
  induction fu with
  | zero =>
    intro v5 v11 v13 M hf
    rw [F_X6_close_632] at hf
    cases hf
  | succ fu ih =>
    intro v5 v11 v13 M hf H locs ls hP hS hl
    rw [F_X6_close_632] at hf
    refine lv_iload S.1 S.2.1 dX6_close_632 (lv_at hl 3 rfl) ?_
    refine lv_i2l (v := v13.toInt64) S.1 S.2.1 dX6_close_634 rfl ?_
    refine lv_aload_n S.1 S.2.1 dX6_close_635 rfl (lv_at hl 0 rfl) ?_
    refine x_get (v := .ref (ad 1)) S hK hP w_lay_X6 (ci := 6) rfl 0 (by decide) m0 0 (by decide) w_fl_X6_7 rfl rfl dX6_close_636 ?_
    refine lv_sipush (v := (5668 : Int32)) S.1 S.2.1 dX6_close_639 (by decide) ?_
    refine x_laldc (j := 5668) S hK hP 1 (by decide) m1 (by decide) (by decide) dX6_close_642 ?_
    refine ll_ge (tgt := 665) S dX6_close_643 dX6_close_644 (by decide) (fun h129 => ?_) (fun h129 => ?_)
    · replace hf := ift h129 hf
      refine lv_iconst (v := (0 : Int32)) S.1 S.2.1 dX6_close_665 (by decide) ?_
      refine lv_istore (lv' := [(13, .int (0 : Int32)), (0, .ref (ad 0)), (5, .int v5), (11, .long v11)]) S.1 S.2.1 dX6_close_666 hl (by decide) rfl (fun ls hl => ?_)
      exact L_X6_close_668 l E ad hI N a1  S hr hlk hK hN _ _ N v5 v11 (0 : Int32)  M hf _ _ _ hP hS (lv_sub hl [1, 2, 3, 0] rfl)
    · replace hf := iff_ h129 hf
      refine lv_aload_n S.1 S.2.1 dX6_close_647 rfl (lv_at hl 0 rfl) ?_
      refine x_get (v := .ref (ad 1)) S hK hP w_lay_X6 (ci := 6) rfl 0 (by decide) m0 0 (by decide) w_fl_X6_7 rfl rfl dX6_close_648 ?_
      refine lv_iload S.1 S.2.1 dX6_close_651 (lv_at hl 3 rfl) ?_
      refine lv_iconst (v := (4 : Int32)) S.1 S.2.1 dX6_close_653 (by decide) ?_
      refine y_Si (As := [.int v13, .int (4 : Int32)]) S hK hN hP hS rfl (K_X6_cellOf l E ad hI _ v13 (4 : Int32)  M _ rfl) (cS 2 S w_co_yX6_cellOf w_in_X6 w_ml_X6_63 w_st_yX6_cellOf hd_X6_cellOf ⟨Nat.le_of_ble_eq_true rfl, Nat.le_of_ble_eq_true rfl⟩) hl.1 rfl rfl (Nat.le_of_ble_eq_true rfl) dX6_close_654 ⟨Nat.zero_le _, Nat.zero_le _⟩ (fun H locs hP hS => ?_)
      refine lv_lconst (v := (0 : Int64)) S.1 S.2.1 dX6_close_657 (by decide) ?_
      obtain ⟨h130, hf⟩ := gd_some hf
      refine x_last S hI hK hP hS 1 (by decide) m1 h130 (entM E ad (sL M 1 (ix (F_X6_cellOf v13 (4 : Int32))) (0 : Int64))) n1 (fun _ h => entM_sL _ h) dX6_close_658 (fun H locs hP hS => ?_)
      obtain ⟨M131, eM131, hf⟩ := bnd_some hf
      rw [← eM131] at hP
      refine lv_iinc (v := v13 + (1 : Int32)) (lv' := [(13, .int (v13 + (1 : Int32))), (0, .ref (ad 0)), (5, .int v5), (11, .long v11)]) S.1 S.2.1 dX6_close_659 hl (k := 3) rfl rfl (by decide) rfl (fun ls hl => ?_)
      refine lv_goto (tgt := 632) S.1 S.2.1 dX6_close_662 (by decide) ?_
      exact ih v5 v11 (v13 + (1 : Int32))  M131 hf _ _ _ hP hS (lv_sub hl [1, 2, 3, 0] rfl)
set_option maxHeartbeats 4000000 in
set_option maxRecDepth 100000 in
theorem L_X6_close_448 (l : Launch) (E : EE) (ad : Nat → Nat) (hI : ad_I ad 7) (N : Nat) (a1 : Int32)  {p : Program} {e : Env} {s : State} {m : MethodId} {below : List Frame} {meth : Method} {c : Code} (S : CallFix p m c cX6_close 14 s [.ref (ad 0), .int a1].toArray bg_B "SurvivorPurseModel") (hr : meth.sig.returnType = (some .long)) (hlk : meth.locks = false) (hK : va_K E.1 vwCl (tysE E) s) (hN : NW s) (r : Int64) (M' : MM) : ∀ (fu : Nat) (v5 : Int32) (v10 : Int32) (v11 : Int64) (v13 : Int32)  (M : MM), F_X6_close_448 N a1 fu v5 v10 v11 v13 M = some (r, M') → ∀ (H : Heap) (locs : List Loc) (ls : Array Slot), va_P E.1 vwCl (mw (entM E ad M) ad 7) H → va_S (AA ad 7 s.heap.size) s.heap H locs → lv_has ls 14 [(0, .ref (ad 0)), (5, .int v5), (10, .int v10), (11, .long v11), (13, .int v13)] → W p l e { frames := 4, cells := 0, slots := 0, locals := 89 } s m [.ref (ad 0), .int a1].toArray below meth c H locs 0 0 (MQ below (va_Ql (fun r0 (_ : Unit) => r0 = r) (fun _ t => QB E (entM E ad M') ad 7 t) (AA ad 7 s.heap.size)) [.ref (ad 0), .int a1].toArray s 0 0 (AA ad 7 s.heap.size)) (F0 m 448 ls []) := by
  intro fu
  induction fu with
  | zero =>
    intro v5 v10 v11 v13 M hf
    rw [F_X6_close_448] at hf
    cases hf
  | succ fu ih =>
    intro v5 v10 v11 v13 M hf H locs ls hP hS hl
    rw [F_X6_close_448] at hf
    refine lv_iload S.1 S.2.1 dX6_close_448 (lv_at hl 4 rfl) ?_
    refine lv_iload S.1 S.2.1 dX6_close_450 (lv_at hl 1 rfl) ?_
    refine lv_icmp_ge (tgt := 617) S.1 S.2.1 dX6_close_452 (by decide) (fun h53 => ?_) (fun h53 => ?_)
    · replace hf := ift h53 hf
      refine lv_aload_n S.1 S.2.1 dX6_close_617 rfl (lv_at hl 0 rfl) ?_
      refine x_get (v := .ref (ad 1)) S hK hP w_lay_X6 (ci := 6) rfl 0 (by decide) m0 0 (by decide) w_fl_X6_7 rfl rfl dX6_close_618 ?_
      refine lv_sipush (v := (5663 : Int32)) S.1 S.2.1 dX6_close_621 (by decide) ?_
      refine lv_dup2_11 S.1 S.2.1 dX6_close_624 rfl rfl ?_
      refine x_laldc (j := 5663) S hK hP 1 (by decide) m1 (by decide) (by decide) dX6_close_625 ?_
      refine lv_lconst (v := (1 : Int64)) S.1 S.2.1 dX6_close_626 (by decide) ?_
      refine lv_ladd S.1 S.2.1 dX6_close_627 ?_
      refine x_lastc (j := 5663) S hI hK hP hS 1 (by decide) m1 (by decide) (by decide) (entM E ad (sL M 1 5663 ((gL M 1 5663) + (1 : Int64)))) n1 (fun _ h => entM_sL _ h) dX6_close_628 (fun H locs hP hS => ?_)
      obtain ⟨M54, eM54, hf⟩ := bnd_some hf
      rw [← eM54] at hP
      refine lv_iconst (v := (0 : Int32)) S.1 S.2.1 dX6_close_629 (by decide) ?_
      refine lv_istore (lv' := [(13, .int (0 : Int32)), (0, .ref (ad 0)), (5, .int v5), (10, .int v10), (11, .long v11)]) S.1 S.2.1 dX6_close_630 hl (by decide) rfl (fun ls hl => ?_)
      exact L_X6_close_632 l E ad hI N a1  S hr hlk hK hN _ _ N v5 v11 (0 : Int32)  M54 hf _ _ _ hP hS (lv_sub hl [1, 2, 4, 0] rfl)
    · replace hf := iff_ h53 hf
      refine lv_aload_n S.1 S.2.1 dX6_close_455 rfl (lv_at hl 0 rfl) ?_
      refine x_get (v := .ref (ad 6)) S hK hP w_lay_X6 (ci := 6) rfl 0 (by decide) m0 6 (by decide) w_fl_X6_25 rfl rfl dX6_close_456 ?_
      refine lv_iload S.1 S.2.1 dX6_close_459 (lv_at hl 4 rfl) ?_
      obtain ⟨h55, hf⟩ := gd_some hf
      refine x_iald S hK hP 6 (by decide) m6 h55 dX6_close_461 ?_
      refine lv_iconst (v := (2 : Int32)) S.1 S.2.1 dX6_close_462 (by decide) ?_
      refine lv_icmp_ge (tgt := 490) S.1 S.2.1 dX6_close_463 (by decide) (fun h56 => ?_) (fun h56 => ?_)
      · replace hf := ift h56 hf
        refine lv_aload_n S.1 S.2.1 dX6_close_490 rfl (lv_at hl 0 rfl) ?_
        refine x_get (v := .ref (ad 6)) S hK hP w_lay_X6 (ci := 6) rfl 0 (by decide) m0 6 (by decide) w_fl_X6_25 rfl rfl dX6_close_491 ?_
        refine lv_iload S.1 S.2.1 dX6_close_494 (lv_at hl 4 rfl) ?_
        refine x_iald S hK hP 6 (by decide) m6 h55 dX6_close_496 ?_
        refine lv_iconst (v := (1 : Int32)) S.1 S.2.1 dX6_close_497 (by decide) ?_
        refine lv_icmp_ne (tgt := 525) S.1 S.2.1 dX6_close_498 (by decide) (fun h57 => ?_) (fun h57 => ?_)
        · replace hf := iff_ h57 hf
          refine lv_aload_n S.1 S.2.1 dX6_close_525 rfl (lv_at hl 0 rfl) ?_
          refine x_get (v := .ref (ad 6)) S hK hP w_lay_X6 (ci := 6) rfl 0 (by decide) m0 6 (by decide) w_fl_X6_25 rfl rfl dX6_close_526 ?_
          refine lv_iload S.1 S.2.1 dX6_close_529 (lv_at hl 4 rfl) ?_
          refine x_iald S hK hP 6 (by decide) m6 h55 dX6_close_531 ?_
          refine lv_if_ne (tgt := 560) S.1 S.2.1 dX6_close_532 (by decide) (fun h76 => ?_) (fun h76 => ?_)
          · replace hf := iff_ h76 hf
            refine lv_aload_n S.1 S.2.1 dX6_close_560 rfl (lv_at hl 0 rfl) ?_
            refine x_get (v := .ref (ad 1)) S hK hP w_lay_X6 (ci := 6) rfl 0 (by decide) m0 0 (by decide) w_fl_X6_7 rfl rfl dX6_close_561 ?_
            refine lv_iload S.1 S.2.1 dX6_close_564 (lv_at hl 4 rfl) ?_
            refine lv_bipush (v := (10 : Int32)) S.1 S.2.1 dX6_close_566 (by decide) ?_
            refine y_Si (As := [.int v13, .int (10 : Int32)]) S hK hN hP hS rfl (K_X6_part l E ad hI _ v13 (10 : Int32)  M _ rfl) (cS 2 S w_co_yX6_part w_in_X6 w_ml_X6_89 w_st_yX6_part hd_X6_part ⟨Nat.le_of_ble_eq_true rfl, Nat.le_of_ble_eq_true rfl⟩) hl.1 rfl rfl (Nat.le_of_ble_eq_true rfl) dX6_close_568 ⟨Nat.zero_le _, Nat.zero_le _⟩ (fun H locs hP hS => ?_)
            refine lv_aload_n S.1 S.2.1 dX6_close_571 rfl (lv_at hl 0 rfl) ?_
            refine x_get (v := .ref (ad 6)) S hK hP w_lay_X6 (ci := 6) rfl 0 (by decide) m0 6 (by decide) w_fl_X6_25 rfl rfl dX6_close_572 ?_
            refine lv_iload S.1 S.2.1 dX6_close_575 (lv_at hl 4 rfl) ?_
            refine x_iald S hK hP 6 (by decide) m6 h55 dX6_close_577 ?_
            refine lv_if_eq (tgt := 592) S.1 S.2.1 dX6_close_578 (by decide) (fun q9 => absurd q9 h76) (fun _ => ?_)
            refine lv_aload_n S.1 S.2.1 dX6_close_581 rfl (lv_at hl 0 rfl) ?_
            refine x_get (v := .ref (ad 6)) S hK hP w_lay_X6 (ci := 6) rfl 0 (by decide) m0 6 (by decide) w_fl_X6_25 rfl rfl dX6_close_582 ?_
            refine lv_iload S.1 S.2.1 dX6_close_585 (lv_at hl 4 rfl) ?_
            refine x_iald S hK hP 6 (by decide) m6 h55 dX6_close_587 ?_
            refine lv_iconst (v := (3 : Int32)) S.1 S.2.1 dX6_close_588 (by decide) ?_
            refine lv_icmp_ne (tgt := 596) S.1 S.2.1 dX6_close_589 (by decide) (fun h87 => ?_) (fun h87 => ?_)
            · replace hf := iff_ h87 hf
              refine lv_aload_n S.1 S.2.1 dX6_close_596 rfl (lv_at hl 0 rfl) ?_
              refine x_get (v := .ref (ad 1)) S hK hP w_lay_X6 (ci := 6) rfl 0 (by decide) m0 0 (by decide) w_fl_X6_7 rfl rfl dX6_close_597 ?_
              refine lv_iload S.1 S.2.1 dX6_close_600 (lv_at hl 4 rfl) ?_
              refine lv_bipush (v := (10 : Int32)) S.1 S.2.1 dX6_close_602 (by decide) ?_
              refine y_Si (As := [.int v13, .int (10 : Int32)]) S hK hN hP hS rfl (K_X6_part l E ad hI _ v13 (10 : Int32)  M _ rfl) (cS 2 S w_co_yX6_part w_in_X6 w_ml_X6_89 w_st_yX6_part hd_X6_part ⟨Nat.le_of_ble_eq_true rfl, Nat.le_of_ble_eq_true rfl⟩) hl.1 rfl rfl (Nat.le_of_ble_eq_true rfl) dX6_close_604 ⟨Nat.zero_le _, Nat.zero_le _⟩ (fun H locs hP hS => ?_)
              obtain ⟨h90, hf⟩ := gd_some hf
              refine x_lald S hK hP 1 (by decide) m1 h90 dX6_close_607 ?_
              refine lv_lconst (v := (1 : Int64)) S.1 S.2.1 dX6_close_608 (by decide) ?_
              refine lv_ladd S.1 S.2.1 dX6_close_609 ?_
              refine x_last S hI hK hP hS 1 (by decide) m1 h90 (entM E ad (sL M 1 (ix (F_X6_part v13 (10 : Int32))) ((gL M 1 (ix (F_X6_part v13 (10 : Int32)))) + (1 : Int64)))) n1 (fun _ h => entM_sL _ h) dX6_close_610 (fun H locs hP hS => ?_)
              obtain ⟨M91, eM91, hf⟩ := bnd_some hf
              rw [← eM91] at hP
              refine lv_iinc (v := v13 + (1 : Int32)) (lv' := [(13, .int (v13 + (1 : Int32))), (0, .ref (ad 0)), (5, .int v5), (10, .int v10), (11, .long v11)]) S.1 S.2.1 dX6_close_611 hl (k := 4) rfl rfl (by decide) rfl (fun ls hl => ?_)
              refine lv_goto (tgt := 448) S.1 S.2.1 dX6_close_614 (by decide) ?_
              exact ih v5 v10 v11 (v13 + (1 : Int32))  M91 hf _ _ _ hP hS (lv_sub hl [1, 2, 3, 4, 0] rfl)
            · replace hf := ift h87 hf
              refine lv_lconst (v := (0 : Int64)) S.1 S.2.1 dX6_close_592 (by decide) ?_
              refine lv_goto (tgt := 610) S.1 S.2.1 dX6_close_593 (by decide) ?_
              obtain ⟨h88, hf⟩ := gd_some hf
              refine x_last S hI hK hP hS 1 (by decide) m1 h88 (entM E ad (sL M 1 (ix (F_X6_part v13 (10 : Int32))) (0 : Int64))) n1 (fun _ h => entM_sL _ h) dX6_close_610 (fun H locs hP hS => ?_)
              obtain ⟨M89, eM89, hf⟩ := bnd_some hf
              rw [← eM89] at hP
              refine lv_iinc (v := v13 + (1 : Int32)) (lv' := [(13, .int (v13 + (1 : Int32))), (0, .ref (ad 0)), (5, .int v5), (10, .int v10), (11, .long v11)]) S.1 S.2.1 dX6_close_611 hl (k := 4) rfl rfl (by decide) rfl (fun ls hl => ?_)
              refine lv_goto (tgt := 448) S.1 S.2.1 dX6_close_614 (by decide) ?_
              exact ih v5 v10 v11 (v13 + (1 : Int32))  M89 hf _ _ _ hP hS (lv_sub hl [1, 2, 3, 4, 0] rfl)
          · replace hf := ift h76 hf
            refine lv_aload_n S.1 S.2.1 dX6_close_535 rfl (lv_at hl 0 rfl) ?_
            refine lv_iload S.1 S.2.1 dX6_close_536 (lv_at hl 4 rfl) ?_
            refine lv_aload_n S.1 S.2.1 dX6_close_538 rfl (lv_at hl 0 rfl) ?_
            refine x_get (v := .ref (ad 5)) S hK hP w_lay_X6 (ci := 6) rfl 0 (by decide) m0 5 (by decide) w_fl_X6_22 rfl rfl dX6_close_539 ?_
            refine lv_iload S.1 S.2.1 dX6_close_542 (lv_at hl 4 rfl) ?_
            refine x_lald S hK hP 5 (by decide) m5 h55 dX6_close_544 ?_
            obtain ⟨M77, gM77, hf⟩ := bn1_some hf
            refine y_Vv (As := [.int v13, .long (gL M 5 (ix v13))]) S hK hN hP hS rfl (by decide) m0 rfl (K_X6_pays l E ad hI _ N v13 (gL M 5 (ix v13))  M M77 gM77) (cV 2 S w_co_yX6_pays w_in_X6 w_ml_X6_121 w_im_yX6_pays w_se_yX6_pays hd_X6_pays ⟨Nat.le_of_ble_eq_true rfl, Nat.le_of_ble_eq_true rfl⟩) hl.1 rfl rfl (Nat.le_of_ble_eq_true rfl) dX6_close_545 ⟨Nat.zero_le _, Nat.zero_le _⟩ (fun H locs hP hS => ?_)
            refine lv_lload S.1 S.2.1 dX6_close_548 (lv_at hl 3 rfl) ?_
            refine lv_aload_n S.1 S.2.1 dX6_close_550 rfl (lv_at hl 0 rfl) ?_
            refine x_get (v := .ref (ad 5)) S hK hP w_lay_X6 (ci := 6) rfl 0 (by decide) m0 5 (by decide) w_fl_X6_22 rfl rfl dX6_close_551 ?_
            refine lv_iload S.1 S.2.1 dX6_close_554 (lv_at hl 4 rfl) ?_
            refine x_lald S hK hP 5 (by decide) m5 h55 dX6_close_556 ?_
            refine lv_ladd S.1 S.2.1 dX6_close_557 ?_
            obtain ⟨x78, ex78, hf⟩ := bnd_some hf
            refine lv_rel ex78 ?_
            refine lv_lstore (lv' := [(11, .long x78), (0, .ref (ad 0)), (5, .int v5), (10, .int v10), (13, .int v13)]) S.1 S.2.1 dX6_close_558 hl (by decide) rfl (fun ls hl => ?_)
            refine lv_aload_n S.1 S.2.1 dX6_close_560 rfl (lv_at hl 1 rfl) ?_
            refine x_get (v := .ref (ad 1)) S hK hP w_lay_X6 (ci := 6) rfl 0 (by decide) m0 0 (by decide) w_fl_X6_7 rfl rfl dX6_close_561 ?_
            refine lv_iload S.1 S.2.1 dX6_close_564 (lv_at hl 4 rfl) ?_
            refine lv_bipush (v := (10 : Int32)) S.1 S.2.1 dX6_close_566 (by decide) ?_
            refine y_Si (As := [.int v13, .int (10 : Int32)]) S hK hN hP hS rfl (K_X6_part l E ad hI _ v13 (10 : Int32)  M77 _ rfl) (cS 2 S w_co_yX6_part w_in_X6 w_ml_X6_89 w_st_yX6_part hd_X6_part ⟨Nat.le_of_ble_eq_true rfl, Nat.le_of_ble_eq_true rfl⟩) hl.1 rfl rfl (Nat.le_of_ble_eq_true rfl) dX6_close_568 ⟨Nat.zero_le _, Nat.zero_le _⟩ (fun H locs hP hS => ?_)
            refine lv_aload_n S.1 S.2.1 dX6_close_571 rfl (lv_at hl 1 rfl) ?_
            refine x_get (v := .ref (ad 6)) S hK hP w_lay_X6 (ci := 6) rfl 0 (by decide) m0 6 (by decide) w_fl_X6_25 rfl rfl dX6_close_572 ?_
            refine lv_iload S.1 S.2.1 dX6_close_575 (lv_at hl 4 rfl) ?_
            refine x_iald S hK hP 6 (by decide) m6 h55 dX6_close_577 ?_
            refine lv_if_eq (tgt := 592) S.1 S.2.1 dX6_close_578 (by decide) (fun h79 => ?_) (fun h79 => ?_)
            · replace hf := ift h79 hf
              refine lv_lconst (v := (0 : Int64)) S.1 S.2.1 dX6_close_592 (by decide) ?_
              refine lv_goto (tgt := 610) S.1 S.2.1 dX6_close_593 (by decide) ?_
              obtain ⟨h80, hf⟩ := gd_some hf
              refine x_last S hI hK hP hS 1 (by decide) m1 h80 (entM E ad (sL M77 1 (ix (F_X6_part v13 (10 : Int32))) (0 : Int64))) n1 (fun _ h => entM_sL _ h) dX6_close_610 (fun H locs hP hS => ?_)
              obtain ⟨M81, eM81, hf⟩ := bnd_some hf
              rw [← eM81] at hP
              refine lv_iinc (v := v13 + (1 : Int32)) (lv' := [(13, .int (v13 + (1 : Int32))), (11, .long x78), (0, .ref (ad 0)), (5, .int v5), (10, .int v10)]) S.1 S.2.1 dX6_close_611 hl (k := 4) rfl rfl (by decide) rfl (fun ls hl => ?_)
              refine lv_goto (tgt := 448) S.1 S.2.1 dX6_close_614 (by decide) ?_
              exact ih v5 v10 x78 (v13 + (1 : Int32))  M81 hf _ _ _ hP hS (lv_sub hl [2, 3, 4, 1, 0] rfl)
            · replace hf := iff_ h79 hf
              refine lv_aload_n S.1 S.2.1 dX6_close_581 rfl (lv_at hl 1 rfl) ?_
              refine x_get (v := .ref (ad 6)) S hK hP w_lay_X6 (ci := 6) rfl 0 (by decide) m0 6 (by decide) w_fl_X6_25 rfl rfl dX6_close_582 ?_
              refine lv_iload S.1 S.2.1 dX6_close_585 (lv_at hl 4 rfl) ?_
              refine x_iald S hK hP 6 (by decide) m6 h55 dX6_close_587 ?_
              refine lv_iconst (v := (3 : Int32)) S.1 S.2.1 dX6_close_588 (by decide) ?_
              refine lv_icmp_ne (tgt := 596) S.1 S.2.1 dX6_close_589 (by decide) (fun h82 => ?_) (fun h82 => ?_)
              · replace hf := iff_ h82 hf
                refine lv_aload_n S.1 S.2.1 dX6_close_596 rfl (lv_at hl 1 rfl) ?_
                refine x_get (v := .ref (ad 1)) S hK hP w_lay_X6 (ci := 6) rfl 0 (by decide) m0 0 (by decide) w_fl_X6_7 rfl rfl dX6_close_597 ?_
                refine lv_iload S.1 S.2.1 dX6_close_600 (lv_at hl 4 rfl) ?_
                refine lv_bipush (v := (10 : Int32)) S.1 S.2.1 dX6_close_602 (by decide) ?_
                refine y_Si (As := [.int v13, .int (10 : Int32)]) S hK hN hP hS rfl (K_X6_part l E ad hI _ v13 (10 : Int32)  M77 _ rfl) (cS 2 S w_co_yX6_part w_in_X6 w_ml_X6_89 w_st_yX6_part hd_X6_part ⟨Nat.le_of_ble_eq_true rfl, Nat.le_of_ble_eq_true rfl⟩) hl.1 rfl rfl (Nat.le_of_ble_eq_true rfl) dX6_close_604 ⟨Nat.zero_le _, Nat.zero_le _⟩ (fun H locs hP hS => ?_)
                obtain ⟨h85, hf⟩ := gd_some hf
                refine x_lald S hK hP 1 (by decide) m1 h85 dX6_close_607 ?_
                refine lv_lconst (v := (1 : Int64)) S.1 S.2.1 dX6_close_608 (by decide) ?_
                refine lv_ladd S.1 S.2.1 dX6_close_609 ?_
                refine x_last S hI hK hP hS 1 (by decide) m1 h85 (entM E ad (sL M77 1 (ix (F_X6_part v13 (10 : Int32))) ((gL M77 1 (ix (F_X6_part v13 (10 : Int32)))) + (1 : Int64)))) n1 (fun _ h => entM_sL _ h) dX6_close_610 (fun H locs hP hS => ?_)
                obtain ⟨M86, eM86, hf⟩ := bnd_some hf
                rw [← eM86] at hP
                refine lv_iinc (v := v13 + (1 : Int32)) (lv' := [(13, .int (v13 + (1 : Int32))), (11, .long x78), (0, .ref (ad 0)), (5, .int v5), (10, .int v10)]) S.1 S.2.1 dX6_close_611 hl (k := 4) rfl rfl (by decide) rfl (fun ls hl => ?_)
                refine lv_goto (tgt := 448) S.1 S.2.1 dX6_close_614 (by decide) ?_
                exact ih v5 v10 x78 (v13 + (1 : Int32))  M86 hf _ _ _ hP hS (lv_sub hl [2, 3, 4, 1, 0] rfl)
              · replace hf := ift h82 hf
                refine lv_lconst (v := (0 : Int64)) S.1 S.2.1 dX6_close_592 (by decide) ?_
                refine lv_goto (tgt := 610) S.1 S.2.1 dX6_close_593 (by decide) ?_
                obtain ⟨h83, hf⟩ := gd_some hf
                refine x_last S hI hK hP hS 1 (by decide) m1 h83 (entM E ad (sL M77 1 (ix (F_X6_part v13 (10 : Int32))) (0 : Int64))) n1 (fun _ h => entM_sL _ h) dX6_close_610 (fun H locs hP hS => ?_)
                obtain ⟨M84, eM84, hf⟩ := bnd_some hf
                rw [← eM84] at hP
                refine lv_iinc (v := v13 + (1 : Int32)) (lv' := [(13, .int (v13 + (1 : Int32))), (11, .long x78), (0, .ref (ad 0)), (5, .int v5), (10, .int v10)]) S.1 S.2.1 dX6_close_611 hl (k := 4) rfl rfl (by decide) rfl (fun ls hl => ?_)
                refine lv_goto (tgt := 448) S.1 S.2.1 dX6_close_614 (by decide) ?_
                exact ih v5 v10 x78 (v13 + (1 : Int32))  M84 hf _ _ _ hP hS (lv_sub hl [2, 3, 4, 1, 0] rfl)
        · replace hf := ift h57 hf
          refine lv_aload_n S.1 S.2.1 dX6_close_501 rfl (lv_at hl 0 rfl) ?_
          refine x_get (v := .ref (ad 1)) S hK hP w_lay_X6 (ci := 6) rfl 0 (by decide) m0 0 (by decide) w_fl_X6_7 rfl rfl dX6_close_502 ?_
          refine lv_sipush (v := (3263 : Int32)) S.1 S.2.1 dX6_close_505 (by decide) ?_
          refine lv_bipush (v := (60 : Int32)) S.1 S.2.1 dX6_close_508 (by decide) ?_
          refine lv_iload S.1 S.2.1 dX6_close_510 (lv_at hl 4 rfl) ?_
          refine lv_imul S.1 S.2.1 dX6_close_512 ?_
          refine lv_iadd S.1 S.2.1 dX6_close_513 ?_
          refine lv_iload S.1 S.2.1 dX6_close_514 (lv_at hl 2 rfl) ?_
          refine lv_iadd S.1 S.2.1 dX6_close_516 ?_
          refine lv_aload_n S.1 S.2.1 dX6_close_517 rfl (lv_at hl 0 rfl) ?_
          refine x_get (v := .ref (ad 5)) S hK hP w_lay_X6 (ci := 6) rfl 0 (by decide) m0 5 (by decide) w_fl_X6_22 rfl rfl dX6_close_518 ?_
          refine lv_iload S.1 S.2.1 dX6_close_521 (lv_at hl 4 rfl) ?_
          refine x_lald S hK hP 5 (by decide) m5 h55 dX6_close_523 ?_
          obtain ⟨h58, hf⟩ := gd_some hf
          refine x_last S hI hK hP hS 1 (by decide) m1 h58 (entM E ad (sL M 1 (ix (((3263 : Int32) + ((60 : Int32) * v13)) + v10)) (gL M 5 (ix v13)))) n1 (fun _ h => entM_sL _ h) dX6_close_524 (fun H locs hP hS => ?_)
          obtain ⟨M59, eM59, hf⟩ := bnd_some hf
          rw [← eM59] at hP
          refine lv_aload_n S.1 S.2.1 dX6_close_525 rfl (lv_at hl 0 rfl) ?_
          refine x_get (v := .ref (ad 6)) S hK hP w_lay_X6 (ci := 6) rfl 0 (by decide) m0 6 (by decide) w_fl_X6_25 rfl rfl dX6_close_526 ?_
          refine lv_iload S.1 S.2.1 dX6_close_529 (lv_at hl 4 rfl) ?_
          refine x_iald S hK hP 6 (by decide) m6 h55 dX6_close_531 ?_
          refine lv_if_ne (tgt := 560) S.1 S.2.1 dX6_close_532 (by decide) (fun h60 => ?_) (fun h60 => ?_)
          · replace hf := iff_ h60 hf
            refine lv_aload_n S.1 S.2.1 dX6_close_560 rfl (lv_at hl 0 rfl) ?_
            refine x_get (v := .ref (ad 1)) S hK hP w_lay_X6 (ci := 6) rfl 0 (by decide) m0 0 (by decide) w_fl_X6_7 rfl rfl dX6_close_561 ?_
            refine lv_iload S.1 S.2.1 dX6_close_564 (lv_at hl 4 rfl) ?_
            refine lv_bipush (v := (10 : Int32)) S.1 S.2.1 dX6_close_566 (by decide) ?_
            refine y_Si (As := [.int v13, .int (10 : Int32)]) S hK hN hP hS rfl (K_X6_part l E ad hI _ v13 (10 : Int32)  M59 _ rfl) (cS 2 S w_co_yX6_part w_in_X6 w_ml_X6_89 w_st_yX6_part hd_X6_part ⟨Nat.le_of_ble_eq_true rfl, Nat.le_of_ble_eq_true rfl⟩) hl.1 rfl rfl (Nat.le_of_ble_eq_true rfl) dX6_close_568 ⟨Nat.zero_le _, Nat.zero_le _⟩ (fun H locs hP hS => ?_)
            refine lv_aload_n S.1 S.2.1 dX6_close_571 rfl (lv_at hl 0 rfl) ?_
            refine x_get (v := .ref (ad 6)) S hK hP w_lay_X6 (ci := 6) rfl 0 (by decide) m0 6 (by decide) w_fl_X6_25 rfl rfl dX6_close_572 ?_
            refine lv_iload S.1 S.2.1 dX6_close_575 (lv_at hl 4 rfl) ?_
            refine x_iald S hK hP 6 (by decide) m6 h55 dX6_close_577 ?_
            refine lv_if_eq (tgt := 592) S.1 S.2.1 dX6_close_578 (by decide) (fun q9 => absurd q9 h60) (fun _ => ?_)
            refine lv_aload_n S.1 S.2.1 dX6_close_581 rfl (lv_at hl 0 rfl) ?_
            refine x_get (v := .ref (ad 6)) S hK hP w_lay_X6 (ci := 6) rfl 0 (by decide) m0 6 (by decide) w_fl_X6_25 rfl rfl dX6_close_582 ?_
            refine lv_iload S.1 S.2.1 dX6_close_585 (lv_at hl 4 rfl) ?_
            refine x_iald S hK hP 6 (by decide) m6 h55 dX6_close_587 ?_
            refine lv_iconst (v := (3 : Int32)) S.1 S.2.1 dX6_close_588 (by decide) ?_
            refine lv_icmp_ne (tgt := 596) S.1 S.2.1 dX6_close_589 (by decide) (fun h71 => ?_) (fun h71 => ?_)
            · replace hf := iff_ h71 hf
              refine lv_aload_n S.1 S.2.1 dX6_close_596 rfl (lv_at hl 0 rfl) ?_
              refine x_get (v := .ref (ad 1)) S hK hP w_lay_X6 (ci := 6) rfl 0 (by decide) m0 0 (by decide) w_fl_X6_7 rfl rfl dX6_close_597 ?_
              refine lv_iload S.1 S.2.1 dX6_close_600 (lv_at hl 4 rfl) ?_
              refine lv_bipush (v := (10 : Int32)) S.1 S.2.1 dX6_close_602 (by decide) ?_
              refine y_Si (As := [.int v13, .int (10 : Int32)]) S hK hN hP hS rfl (K_X6_part l E ad hI _ v13 (10 : Int32)  M59 _ rfl) (cS 2 S w_co_yX6_part w_in_X6 w_ml_X6_89 w_st_yX6_part hd_X6_part ⟨Nat.le_of_ble_eq_true rfl, Nat.le_of_ble_eq_true rfl⟩) hl.1 rfl rfl (Nat.le_of_ble_eq_true rfl) dX6_close_604 ⟨Nat.zero_le _, Nat.zero_le _⟩ (fun H locs hP hS => ?_)
              obtain ⟨h74, hf⟩ := gd_some hf
              refine x_lald S hK hP 1 (by decide) m1 h74 dX6_close_607 ?_
              refine lv_lconst (v := (1 : Int64)) S.1 S.2.1 dX6_close_608 (by decide) ?_
              refine lv_ladd S.1 S.2.1 dX6_close_609 ?_
              refine x_last S hI hK hP hS 1 (by decide) m1 h74 (entM E ad (sL M59 1 (ix (F_X6_part v13 (10 : Int32))) ((gL M59 1 (ix (F_X6_part v13 (10 : Int32)))) + (1 : Int64)))) n1 (fun _ h => entM_sL _ h) dX6_close_610 (fun H locs hP hS => ?_)
              obtain ⟨M75, eM75, hf⟩ := bnd_some hf
              rw [← eM75] at hP
              refine lv_iinc (v := v13 + (1 : Int32)) (lv' := [(13, .int (v13 + (1 : Int32))), (0, .ref (ad 0)), (5, .int v5), (10, .int v10), (11, .long v11)]) S.1 S.2.1 dX6_close_611 hl (k := 4) rfl rfl (by decide) rfl (fun ls hl => ?_)
              refine lv_goto (tgt := 448) S.1 S.2.1 dX6_close_614 (by decide) ?_
              exact ih v5 v10 v11 (v13 + (1 : Int32))  M75 hf _ _ _ hP hS (lv_sub hl [1, 2, 3, 4, 0] rfl)
            · replace hf := ift h71 hf
              refine lv_lconst (v := (0 : Int64)) S.1 S.2.1 dX6_close_592 (by decide) ?_
              refine lv_goto (tgt := 610) S.1 S.2.1 dX6_close_593 (by decide) ?_
              obtain ⟨h72, hf⟩ := gd_some hf
              refine x_last S hI hK hP hS 1 (by decide) m1 h72 (entM E ad (sL M59 1 (ix (F_X6_part v13 (10 : Int32))) (0 : Int64))) n1 (fun _ h => entM_sL _ h) dX6_close_610 (fun H locs hP hS => ?_)
              obtain ⟨M73, eM73, hf⟩ := bnd_some hf
              rw [← eM73] at hP
              refine lv_iinc (v := v13 + (1 : Int32)) (lv' := [(13, .int (v13 + (1 : Int32))), (0, .ref (ad 0)), (5, .int v5), (10, .int v10), (11, .long v11)]) S.1 S.2.1 dX6_close_611 hl (k := 4) rfl rfl (by decide) rfl (fun ls hl => ?_)
              refine lv_goto (tgt := 448) S.1 S.2.1 dX6_close_614 (by decide) ?_
              exact ih v5 v10 v11 (v13 + (1 : Int32))  M73 hf _ _ _ hP hS (lv_sub hl [1, 2, 3, 4, 0] rfl)
          · replace hf := ift h60 hf
            refine lv_aload_n S.1 S.2.1 dX6_close_535 rfl (lv_at hl 0 rfl) ?_
            refine lv_iload S.1 S.2.1 dX6_close_536 (lv_at hl 4 rfl) ?_
            refine lv_aload_n S.1 S.2.1 dX6_close_538 rfl (lv_at hl 0 rfl) ?_
            refine x_get (v := .ref (ad 5)) S hK hP w_lay_X6 (ci := 6) rfl 0 (by decide) m0 5 (by decide) w_fl_X6_22 rfl rfl dX6_close_539 ?_
            refine lv_iload S.1 S.2.1 dX6_close_542 (lv_at hl 4 rfl) ?_
            refine x_lald S hK hP 5 (by decide) m5 h55 dX6_close_544 ?_
            obtain ⟨M61, gM61, hf⟩ := bn1_some hf
            refine y_Vv (As := [.int v13, .long (gL M59 5 (ix v13))]) S hK hN hP hS rfl (by decide) m0 rfl (K_X6_pays l E ad hI _ N v13 (gL M59 5 (ix v13))  M59 M61 gM61) (cV 2 S w_co_yX6_pays w_in_X6 w_ml_X6_121 w_im_yX6_pays w_se_yX6_pays hd_X6_pays ⟨Nat.le_of_ble_eq_true rfl, Nat.le_of_ble_eq_true rfl⟩) hl.1 rfl rfl (Nat.le_of_ble_eq_true rfl) dX6_close_545 ⟨Nat.zero_le _, Nat.zero_le _⟩ (fun H locs hP hS => ?_)
            refine lv_lload S.1 S.2.1 dX6_close_548 (lv_at hl 3 rfl) ?_
            refine lv_aload_n S.1 S.2.1 dX6_close_550 rfl (lv_at hl 0 rfl) ?_
            refine x_get (v := .ref (ad 5)) S hK hP w_lay_X6 (ci := 6) rfl 0 (by decide) m0 5 (by decide) w_fl_X6_22 rfl rfl dX6_close_551 ?_
            refine lv_iload S.1 S.2.1 dX6_close_554 (lv_at hl 4 rfl) ?_
            refine x_lald S hK hP 5 (by decide) m5 h55 dX6_close_556 ?_
            refine lv_ladd S.1 S.2.1 dX6_close_557 ?_
            obtain ⟨x62, ex62, hf⟩ := bnd_some hf
            refine lv_rel ex62 ?_
            refine lv_lstore (lv' := [(11, .long x62), (0, .ref (ad 0)), (5, .int v5), (10, .int v10), (13, .int v13)]) S.1 S.2.1 dX6_close_558 hl (by decide) rfl (fun ls hl => ?_)
            refine lv_aload_n S.1 S.2.1 dX6_close_560 rfl (lv_at hl 1 rfl) ?_
            refine x_get (v := .ref (ad 1)) S hK hP w_lay_X6 (ci := 6) rfl 0 (by decide) m0 0 (by decide) w_fl_X6_7 rfl rfl dX6_close_561 ?_
            refine lv_iload S.1 S.2.1 dX6_close_564 (lv_at hl 4 rfl) ?_
            refine lv_bipush (v := (10 : Int32)) S.1 S.2.1 dX6_close_566 (by decide) ?_
            refine y_Si (As := [.int v13, .int (10 : Int32)]) S hK hN hP hS rfl (K_X6_part l E ad hI _ v13 (10 : Int32)  M61 _ rfl) (cS 2 S w_co_yX6_part w_in_X6 w_ml_X6_89 w_st_yX6_part hd_X6_part ⟨Nat.le_of_ble_eq_true rfl, Nat.le_of_ble_eq_true rfl⟩) hl.1 rfl rfl (Nat.le_of_ble_eq_true rfl) dX6_close_568 ⟨Nat.zero_le _, Nat.zero_le _⟩ (fun H locs hP hS => ?_)
            refine lv_aload_n S.1 S.2.1 dX6_close_571 rfl (lv_at hl 1 rfl) ?_
            refine x_get (v := .ref (ad 6)) S hK hP w_lay_X6 (ci := 6) rfl 0 (by decide) m0 6 (by decide) w_fl_X6_25 rfl rfl dX6_close_572 ?_
            refine lv_iload S.1 S.2.1 dX6_close_575 (lv_at hl 4 rfl) ?_
            refine x_iald S hK hP 6 (by decide) m6 h55 dX6_close_577 ?_
            refine lv_if_eq (tgt := 592) S.1 S.2.1 dX6_close_578 (by decide) (fun h63 => ?_) (fun h63 => ?_)
            · replace hf := ift h63 hf
              refine lv_lconst (v := (0 : Int64)) S.1 S.2.1 dX6_close_592 (by decide) ?_
              refine lv_goto (tgt := 610) S.1 S.2.1 dX6_close_593 (by decide) ?_
              obtain ⟨h64, hf⟩ := gd_some hf
              refine x_last S hI hK hP hS 1 (by decide) m1 h64 (entM E ad (sL M61 1 (ix (F_X6_part v13 (10 : Int32))) (0 : Int64))) n1 (fun _ h => entM_sL _ h) dX6_close_610 (fun H locs hP hS => ?_)
              obtain ⟨M65, eM65, hf⟩ := bnd_some hf
              rw [← eM65] at hP
              refine lv_iinc (v := v13 + (1 : Int32)) (lv' := [(13, .int (v13 + (1 : Int32))), (11, .long x62), (0, .ref (ad 0)), (5, .int v5), (10, .int v10)]) S.1 S.2.1 dX6_close_611 hl (k := 4) rfl rfl (by decide) rfl (fun ls hl => ?_)
              refine lv_goto (tgt := 448) S.1 S.2.1 dX6_close_614 (by decide) ?_
              exact ih v5 v10 x62 (v13 + (1 : Int32))  M65 hf _ _ _ hP hS (lv_sub hl [2, 3, 4, 1, 0] rfl)
            · replace hf := iff_ h63 hf
              refine lv_aload_n S.1 S.2.1 dX6_close_581 rfl (lv_at hl 1 rfl) ?_
              refine x_get (v := .ref (ad 6)) S hK hP w_lay_X6 (ci := 6) rfl 0 (by decide) m0 6 (by decide) w_fl_X6_25 rfl rfl dX6_close_582 ?_
              refine lv_iload S.1 S.2.1 dX6_close_585 (lv_at hl 4 rfl) ?_
              refine x_iald S hK hP 6 (by decide) m6 h55 dX6_close_587 ?_
              refine lv_iconst (v := (3 : Int32)) S.1 S.2.1 dX6_close_588 (by decide) ?_
              refine lv_icmp_ne (tgt := 596) S.1 S.2.1 dX6_close_589 (by decide) (fun h66 => ?_) (fun h66 => ?_)
              · replace hf := iff_ h66 hf
                refine lv_aload_n S.1 S.2.1 dX6_close_596 rfl (lv_at hl 1 rfl) ?_
                refine x_get (v := .ref (ad 1)) S hK hP w_lay_X6 (ci := 6) rfl 0 (by decide) m0 0 (by decide) w_fl_X6_7 rfl rfl dX6_close_597 ?_
                refine lv_iload S.1 S.2.1 dX6_close_600 (lv_at hl 4 rfl) ?_
                refine lv_bipush (v := (10 : Int32)) S.1 S.2.1 dX6_close_602 (by decide) ?_
                refine y_Si (As := [.int v13, .int (10 : Int32)]) S hK hN hP hS rfl (K_X6_part l E ad hI _ v13 (10 : Int32)  M61 _ rfl) (cS 2 S w_co_yX6_part w_in_X6 w_ml_X6_89 w_st_yX6_part hd_X6_part ⟨Nat.le_of_ble_eq_true rfl, Nat.le_of_ble_eq_true rfl⟩) hl.1 rfl rfl (Nat.le_of_ble_eq_true rfl) dX6_close_604 ⟨Nat.zero_le _, Nat.zero_le _⟩ (fun H locs hP hS => ?_)
                obtain ⟨h69, hf⟩ := gd_some hf
                refine x_lald S hK hP 1 (by decide) m1 h69 dX6_close_607 ?_
                refine lv_lconst (v := (1 : Int64)) S.1 S.2.1 dX6_close_608 (by decide) ?_
                refine lv_ladd S.1 S.2.1 dX6_close_609 ?_
                refine x_last S hI hK hP hS 1 (by decide) m1 h69 (entM E ad (sL M61 1 (ix (F_X6_part v13 (10 : Int32))) ((gL M61 1 (ix (F_X6_part v13 (10 : Int32)))) + (1 : Int64)))) n1 (fun _ h => entM_sL _ h) dX6_close_610 (fun H locs hP hS => ?_)
                obtain ⟨M70, eM70, hf⟩ := bnd_some hf
                rw [← eM70] at hP
                refine lv_iinc (v := v13 + (1 : Int32)) (lv' := [(13, .int (v13 + (1 : Int32))), (11, .long x62), (0, .ref (ad 0)), (5, .int v5), (10, .int v10)]) S.1 S.2.1 dX6_close_611 hl (k := 4) rfl rfl (by decide) rfl (fun ls hl => ?_)
                refine lv_goto (tgt := 448) S.1 S.2.1 dX6_close_614 (by decide) ?_
                exact ih v5 v10 x62 (v13 + (1 : Int32))  M70 hf _ _ _ hP hS (lv_sub hl [2, 3, 4, 1, 0] rfl)
              · replace hf := ift h66 hf
                refine lv_lconst (v := (0 : Int64)) S.1 S.2.1 dX6_close_592 (by decide) ?_
                refine lv_goto (tgt := 610) S.1 S.2.1 dX6_close_593 (by decide) ?_
                obtain ⟨h67, hf⟩ := gd_some hf
                refine x_last S hI hK hP hS 1 (by decide) m1 h67 (entM E ad (sL M61 1 (ix (F_X6_part v13 (10 : Int32))) (0 : Int64))) n1 (fun _ h => entM_sL _ h) dX6_close_610 (fun H locs hP hS => ?_)
                obtain ⟨M68, eM68, hf⟩ := bnd_some hf
                rw [← eM68] at hP
                refine lv_iinc (v := v13 + (1 : Int32)) (lv' := [(13, .int (v13 + (1 : Int32))), (11, .long x62), (0, .ref (ad 0)), (5, .int v5), (10, .int v10)]) S.1 S.2.1 dX6_close_611 hl (k := 4) rfl rfl (by decide) rfl (fun ls hl => ?_)
                refine lv_goto (tgt := 448) S.1 S.2.1 dX6_close_614 (by decide) ?_
                exact ih v5 v10 x62 (v13 + (1 : Int32))  M68 hf _ _ _ hP hS (lv_sub hl [2, 3, 4, 1, 0] rfl)
      · replace hf := iff_ h56 hf
        refine lv_aload_n S.1 S.2.1 dX6_close_466 rfl (lv_at hl 0 rfl) ?_
        refine x_get (v := .ref (ad 1)) S hK hP w_lay_X6 (ci := 6) rfl 0 (by decide) m0 0 (by decide) w_fl_X6_7 rfl rfl dX6_close_467 ?_
        refine lv_sipush (v := (863 : Int32)) S.1 S.2.1 dX6_close_470 (by decide) ?_
        refine lv_bipush (v := (60 : Int32)) S.1 S.2.1 dX6_close_473 (by decide) ?_
        refine lv_iload S.1 S.2.1 dX6_close_475 (lv_at hl 4 rfl) ?_
        refine lv_imul S.1 S.2.1 dX6_close_477 ?_
        refine lv_iadd S.1 S.2.1 dX6_close_478 ?_
        refine lv_iload S.1 S.2.1 dX6_close_479 (lv_at hl 2 rfl) ?_
        refine lv_iadd S.1 S.2.1 dX6_close_481 ?_
        refine lv_aload_n S.1 S.2.1 dX6_close_482 rfl (lv_at hl 0 rfl) ?_
        refine x_get (v := .ref (ad 5)) S hK hP w_lay_X6 (ci := 6) rfl 0 (by decide) m0 5 (by decide) w_fl_X6_22 rfl rfl dX6_close_483 ?_
        refine lv_iload S.1 S.2.1 dX6_close_486 (lv_at hl 4 rfl) ?_
        refine x_lald S hK hP 5 (by decide) m5 h55 dX6_close_488 ?_
        obtain ⟨h92, hf⟩ := gd_some hf
        refine x_last S hI hK hP hS 1 (by decide) m1 h92 (entM E ad (sL M 1 (ix (((863 : Int32) + ((60 : Int32) * v13)) + v10)) (gL M 5 (ix v13)))) n1 (fun _ h => entM_sL _ h) dX6_close_489 (fun H locs hP hS => ?_)
        obtain ⟨M93, eM93, hf⟩ := bnd_some hf
        rw [← eM93] at hP
        refine lv_aload_n S.1 S.2.1 dX6_close_490 rfl (lv_at hl 0 rfl) ?_
        refine x_get (v := .ref (ad 6)) S hK hP w_lay_X6 (ci := 6) rfl 0 (by decide) m0 6 (by decide) w_fl_X6_25 rfl rfl dX6_close_491 ?_
        refine lv_iload S.1 S.2.1 dX6_close_494 (lv_at hl 4 rfl) ?_
        refine x_iald S hK hP 6 (by decide) m6 h55 dX6_close_496 ?_
        refine lv_iconst (v := (1 : Int32)) S.1 S.2.1 dX6_close_497 (by decide) ?_
        refine lv_icmp_ne (tgt := 525) S.1 S.2.1 dX6_close_498 (by decide) (fun h94 => ?_) (fun h94 => ?_)
        · replace hf := iff_ h94 hf
          refine lv_aload_n S.1 S.2.1 dX6_close_525 rfl (lv_at hl 0 rfl) ?_
          refine x_get (v := .ref (ad 6)) S hK hP w_lay_X6 (ci := 6) rfl 0 (by decide) m0 6 (by decide) w_fl_X6_25 rfl rfl dX6_close_526 ?_
          refine lv_iload S.1 S.2.1 dX6_close_529 (lv_at hl 4 rfl) ?_
          refine x_iald S hK hP 6 (by decide) m6 h55 dX6_close_531 ?_
          refine lv_if_ne (tgt := 560) S.1 S.2.1 dX6_close_532 (by decide) (fun h113 => ?_) (fun h113 => ?_)
          · replace hf := iff_ h113 hf
            refine lv_aload_n S.1 S.2.1 dX6_close_560 rfl (lv_at hl 0 rfl) ?_
            refine x_get (v := .ref (ad 1)) S hK hP w_lay_X6 (ci := 6) rfl 0 (by decide) m0 0 (by decide) w_fl_X6_7 rfl rfl dX6_close_561 ?_
            refine lv_iload S.1 S.2.1 dX6_close_564 (lv_at hl 4 rfl) ?_
            refine lv_bipush (v := (10 : Int32)) S.1 S.2.1 dX6_close_566 (by decide) ?_
            refine y_Si (As := [.int v13, .int (10 : Int32)]) S hK hN hP hS rfl (K_X6_part l E ad hI _ v13 (10 : Int32)  M93 _ rfl) (cS 2 S w_co_yX6_part w_in_X6 w_ml_X6_89 w_st_yX6_part hd_X6_part ⟨Nat.le_of_ble_eq_true rfl, Nat.le_of_ble_eq_true rfl⟩) hl.1 rfl rfl (Nat.le_of_ble_eq_true rfl) dX6_close_568 ⟨Nat.zero_le _, Nat.zero_le _⟩ (fun H locs hP hS => ?_)
            refine lv_aload_n S.1 S.2.1 dX6_close_571 rfl (lv_at hl 0 rfl) ?_
            refine x_get (v := .ref (ad 6)) S hK hP w_lay_X6 (ci := 6) rfl 0 (by decide) m0 6 (by decide) w_fl_X6_25 rfl rfl dX6_close_572 ?_
            refine lv_iload S.1 S.2.1 dX6_close_575 (lv_at hl 4 rfl) ?_
            refine x_iald S hK hP 6 (by decide) m6 h55 dX6_close_577 ?_
            refine lv_if_eq (tgt := 592) S.1 S.2.1 dX6_close_578 (by decide) (fun q9 => absurd q9 h113) (fun _ => ?_)
            refine lv_aload_n S.1 S.2.1 dX6_close_581 rfl (lv_at hl 0 rfl) ?_
            refine x_get (v := .ref (ad 6)) S hK hP w_lay_X6 (ci := 6) rfl 0 (by decide) m0 6 (by decide) w_fl_X6_25 rfl rfl dX6_close_582 ?_
            refine lv_iload S.1 S.2.1 dX6_close_585 (lv_at hl 4 rfl) ?_
            refine x_iald S hK hP 6 (by decide) m6 h55 dX6_close_587 ?_
            refine lv_iconst (v := (3 : Int32)) S.1 S.2.1 dX6_close_588 (by decide) ?_
            refine lv_icmp_ne (tgt := 596) S.1 S.2.1 dX6_close_589 (by decide) (fun h124 => ?_) (fun h124 => ?_)
            · replace hf := iff_ h124 hf
              refine lv_aload_n S.1 S.2.1 dX6_close_596 rfl (lv_at hl 0 rfl) ?_
              refine x_get (v := .ref (ad 1)) S hK hP w_lay_X6 (ci := 6) rfl 0 (by decide) m0 0 (by decide) w_fl_X6_7 rfl rfl dX6_close_597 ?_
              refine lv_iload S.1 S.2.1 dX6_close_600 (lv_at hl 4 rfl) ?_
              refine lv_bipush (v := (10 : Int32)) S.1 S.2.1 dX6_close_602 (by decide) ?_
              refine y_Si (As := [.int v13, .int (10 : Int32)]) S hK hN hP hS rfl (K_X6_part l E ad hI _ v13 (10 : Int32)  M93 _ rfl) (cS 2 S w_co_yX6_part w_in_X6 w_ml_X6_89 w_st_yX6_part hd_X6_part ⟨Nat.le_of_ble_eq_true rfl, Nat.le_of_ble_eq_true rfl⟩) hl.1 rfl rfl (Nat.le_of_ble_eq_true rfl) dX6_close_604 ⟨Nat.zero_le _, Nat.zero_le _⟩ (fun H locs hP hS => ?_)
              obtain ⟨h127, hf⟩ := gd_some hf
              refine x_lald S hK hP 1 (by decide) m1 h127 dX6_close_607 ?_
              refine lv_lconst (v := (1 : Int64)) S.1 S.2.1 dX6_close_608 (by decide) ?_
              refine lv_ladd S.1 S.2.1 dX6_close_609 ?_
              refine x_last S hI hK hP hS 1 (by decide) m1 h127 (entM E ad (sL M93 1 (ix (F_X6_part v13 (10 : Int32))) ((gL M93 1 (ix (F_X6_part v13 (10 : Int32)))) + (1 : Int64)))) n1 (fun _ h => entM_sL _ h) dX6_close_610 (fun H locs hP hS => ?_)
              obtain ⟨M128, eM128, hf⟩ := bnd_some hf
              rw [← eM128] at hP
              refine lv_iinc (v := v13 + (1 : Int32)) (lv' := [(13, .int (v13 + (1 : Int32))), (0, .ref (ad 0)), (5, .int v5), (10, .int v10), (11, .long v11)]) S.1 S.2.1 dX6_close_611 hl (k := 4) rfl rfl (by decide) rfl (fun ls hl => ?_)
              refine lv_goto (tgt := 448) S.1 S.2.1 dX6_close_614 (by decide) ?_
              exact ih v5 v10 v11 (v13 + (1 : Int32))  M128 hf _ _ _ hP hS (lv_sub hl [1, 2, 3, 4, 0] rfl)
            · replace hf := ift h124 hf
              refine lv_lconst (v := (0 : Int64)) S.1 S.2.1 dX6_close_592 (by decide) ?_
              refine lv_goto (tgt := 610) S.1 S.2.1 dX6_close_593 (by decide) ?_
              obtain ⟨h125, hf⟩ := gd_some hf
              refine x_last S hI hK hP hS 1 (by decide) m1 h125 (entM E ad (sL M93 1 (ix (F_X6_part v13 (10 : Int32))) (0 : Int64))) n1 (fun _ h => entM_sL _ h) dX6_close_610 (fun H locs hP hS => ?_)
              obtain ⟨M126, eM126, hf⟩ := bnd_some hf
              rw [← eM126] at hP
              refine lv_iinc (v := v13 + (1 : Int32)) (lv' := [(13, .int (v13 + (1 : Int32))), (0, .ref (ad 0)), (5, .int v5), (10, .int v10), (11, .long v11)]) S.1 S.2.1 dX6_close_611 hl (k := 4) rfl rfl (by decide) rfl (fun ls hl => ?_)
              refine lv_goto (tgt := 448) S.1 S.2.1 dX6_close_614 (by decide) ?_
              exact ih v5 v10 v11 (v13 + (1 : Int32))  M126 hf _ _ _ hP hS (lv_sub hl [1, 2, 3, 4, 0] rfl)
          · replace hf := ift h113 hf
            refine lv_aload_n S.1 S.2.1 dX6_close_535 rfl (lv_at hl 0 rfl) ?_
            refine lv_iload S.1 S.2.1 dX6_close_536 (lv_at hl 4 rfl) ?_
            refine lv_aload_n S.1 S.2.1 dX6_close_538 rfl (lv_at hl 0 rfl) ?_
            refine x_get (v := .ref (ad 5)) S hK hP w_lay_X6 (ci := 6) rfl 0 (by decide) m0 5 (by decide) w_fl_X6_22 rfl rfl dX6_close_539 ?_
            refine lv_iload S.1 S.2.1 dX6_close_542 (lv_at hl 4 rfl) ?_
            refine x_lald S hK hP 5 (by decide) m5 h55 dX6_close_544 ?_
            obtain ⟨M114, gM114, hf⟩ := bn1_some hf
            refine y_Vv (As := [.int v13, .long (gL M93 5 (ix v13))]) S hK hN hP hS rfl (by decide) m0 rfl (K_X6_pays l E ad hI _ N v13 (gL M93 5 (ix v13))  M93 M114 gM114) (cV 2 S w_co_yX6_pays w_in_X6 w_ml_X6_121 w_im_yX6_pays w_se_yX6_pays hd_X6_pays ⟨Nat.le_of_ble_eq_true rfl, Nat.le_of_ble_eq_true rfl⟩) hl.1 rfl rfl (Nat.le_of_ble_eq_true rfl) dX6_close_545 ⟨Nat.zero_le _, Nat.zero_le _⟩ (fun H locs hP hS => ?_)
            refine lv_lload S.1 S.2.1 dX6_close_548 (lv_at hl 3 rfl) ?_
            refine lv_aload_n S.1 S.2.1 dX6_close_550 rfl (lv_at hl 0 rfl) ?_
            refine x_get (v := .ref (ad 5)) S hK hP w_lay_X6 (ci := 6) rfl 0 (by decide) m0 5 (by decide) w_fl_X6_22 rfl rfl dX6_close_551 ?_
            refine lv_iload S.1 S.2.1 dX6_close_554 (lv_at hl 4 rfl) ?_
            refine x_lald S hK hP 5 (by decide) m5 h55 dX6_close_556 ?_
            refine lv_ladd S.1 S.2.1 dX6_close_557 ?_
            obtain ⟨x115, ex115, hf⟩ := bnd_some hf
            refine lv_rel ex115 ?_
            refine lv_lstore (lv' := [(11, .long x115), (0, .ref (ad 0)), (5, .int v5), (10, .int v10), (13, .int v13)]) S.1 S.2.1 dX6_close_558 hl (by decide) rfl (fun ls hl => ?_)
            refine lv_aload_n S.1 S.2.1 dX6_close_560 rfl (lv_at hl 1 rfl) ?_
            refine x_get (v := .ref (ad 1)) S hK hP w_lay_X6 (ci := 6) rfl 0 (by decide) m0 0 (by decide) w_fl_X6_7 rfl rfl dX6_close_561 ?_
            refine lv_iload S.1 S.2.1 dX6_close_564 (lv_at hl 4 rfl) ?_
            refine lv_bipush (v := (10 : Int32)) S.1 S.2.1 dX6_close_566 (by decide) ?_
            refine y_Si (As := [.int v13, .int (10 : Int32)]) S hK hN hP hS rfl (K_X6_part l E ad hI _ v13 (10 : Int32)  M114 _ rfl) (cS 2 S w_co_yX6_part w_in_X6 w_ml_X6_89 w_st_yX6_part hd_X6_part ⟨Nat.le_of_ble_eq_true rfl, Nat.le_of_ble_eq_true rfl⟩) hl.1 rfl rfl (Nat.le_of_ble_eq_true rfl) dX6_close_568 ⟨Nat.zero_le _, Nat.zero_le _⟩ (fun H locs hP hS => ?_)
            refine lv_aload_n S.1 S.2.1 dX6_close_571 rfl (lv_at hl 1 rfl) ?_
            refine x_get (v := .ref (ad 6)) S hK hP w_lay_X6 (ci := 6) rfl 0 (by decide) m0 6 (by decide) w_fl_X6_25 rfl rfl dX6_close_572 ?_
            refine lv_iload S.1 S.2.1 dX6_close_575 (lv_at hl 4 rfl) ?_
            refine x_iald S hK hP 6 (by decide) m6 h55 dX6_close_577 ?_
            refine lv_if_eq (tgt := 592) S.1 S.2.1 dX6_close_578 (by decide) (fun h116 => ?_) (fun h116 => ?_)
            · replace hf := ift h116 hf
              refine lv_lconst (v := (0 : Int64)) S.1 S.2.1 dX6_close_592 (by decide) ?_
              refine lv_goto (tgt := 610) S.1 S.2.1 dX6_close_593 (by decide) ?_
              obtain ⟨h117, hf⟩ := gd_some hf
              refine x_last S hI hK hP hS 1 (by decide) m1 h117 (entM E ad (sL M114 1 (ix (F_X6_part v13 (10 : Int32))) (0 : Int64))) n1 (fun _ h => entM_sL _ h) dX6_close_610 (fun H locs hP hS => ?_)
              obtain ⟨M118, eM118, hf⟩ := bnd_some hf
              rw [← eM118] at hP
              refine lv_iinc (v := v13 + (1 : Int32)) (lv' := [(13, .int (v13 + (1 : Int32))), (11, .long x115), (0, .ref (ad 0)), (5, .int v5), (10, .int v10)]) S.1 S.2.1 dX6_close_611 hl (k := 4) rfl rfl (by decide) rfl (fun ls hl => ?_)
              refine lv_goto (tgt := 448) S.1 S.2.1 dX6_close_614 (by decide) ?_
              exact ih v5 v10 x115 (v13 + (1 : Int32))  M118 hf _ _ _ hP hS (lv_sub hl [2, 3, 4, 1, 0] rfl)
            · replace hf := iff_ h116 hf
              refine lv_aload_n S.1 S.2.1 dX6_close_581 rfl (lv_at hl 1 rfl) ?_
              refine x_get (v := .ref (ad 6)) S hK hP w_lay_X6 (ci := 6) rfl 0 (by decide) m0 6 (by decide) w_fl_X6_25 rfl rfl dX6_close_582 ?_
              refine lv_iload S.1 S.2.1 dX6_close_585 (lv_at hl 4 rfl) ?_
              refine x_iald S hK hP 6 (by decide) m6 h55 dX6_close_587 ?_
              refine lv_iconst (v := (3 : Int32)) S.1 S.2.1 dX6_close_588 (by decide) ?_
              refine lv_icmp_ne (tgt := 596) S.1 S.2.1 dX6_close_589 (by decide) (fun h119 => ?_) (fun h119 => ?_)
              · replace hf := iff_ h119 hf
                refine lv_aload_n S.1 S.2.1 dX6_close_596 rfl (lv_at hl 1 rfl) ?_
                refine x_get (v := .ref (ad 1)) S hK hP w_lay_X6 (ci := 6) rfl 0 (by decide) m0 0 (by decide) w_fl_X6_7 rfl rfl dX6_close_597 ?_
                refine lv_iload S.1 S.2.1 dX6_close_600 (lv_at hl 4 rfl) ?_
                refine lv_bipush (v := (10 : Int32)) S.1 S.2.1 dX6_close_602 (by decide) ?_
                refine y_Si (As := [.int v13, .int (10 : Int32)]) S hK hN hP hS rfl (K_X6_part l E ad hI _ v13 (10 : Int32)  M114 _ rfl) (cS 2 S w_co_yX6_part w_in_X6 w_ml_X6_89 w_st_yX6_part hd_X6_part ⟨Nat.le_of_ble_eq_true rfl, Nat.le_of_ble_eq_true rfl⟩) hl.1 rfl rfl (Nat.le_of_ble_eq_true rfl) dX6_close_604 ⟨Nat.zero_le _, Nat.zero_le _⟩ (fun H locs hP hS => ?_)
                obtain ⟨h122, hf⟩ := gd_some hf
                refine x_lald S hK hP 1 (by decide) m1 h122 dX6_close_607 ?_
                refine lv_lconst (v := (1 : Int64)) S.1 S.2.1 dX6_close_608 (by decide) ?_
                refine lv_ladd S.1 S.2.1 dX6_close_609 ?_
                refine x_last S hI hK hP hS 1 (by decide) m1 h122 (entM E ad (sL M114 1 (ix (F_X6_part v13 (10 : Int32))) ((gL M114 1 (ix (F_X6_part v13 (10 : Int32)))) + (1 : Int64)))) n1 (fun _ h => entM_sL _ h) dX6_close_610 (fun H locs hP hS => ?_)
                obtain ⟨M123, eM123, hf⟩ := bnd_some hf
                rw [← eM123] at hP
                refine lv_iinc (v := v13 + (1 : Int32)) (lv' := [(13, .int (v13 + (1 : Int32))), (11, .long x115), (0, .ref (ad 0)), (5, .int v5), (10, .int v10)]) S.1 S.2.1 dX6_close_611 hl (k := 4) rfl rfl (by decide) rfl (fun ls hl => ?_)
                refine lv_goto (tgt := 448) S.1 S.2.1 dX6_close_614 (by decide) ?_
                exact ih v5 v10 x115 (v13 + (1 : Int32))  M123 hf _ _ _ hP hS (lv_sub hl [2, 3, 4, 1, 0] rfl)
              · replace hf := ift h119 hf
                refine lv_lconst (v := (0 : Int64)) S.1 S.2.1 dX6_close_592 (by decide) ?_
                refine lv_goto (tgt := 610) S.1 S.2.1 dX6_close_593 (by decide) ?_
                obtain ⟨h120, hf⟩ := gd_some hf
                refine x_last S hI hK hP hS 1 (by decide) m1 h120 (entM E ad (sL M114 1 (ix (F_X6_part v13 (10 : Int32))) (0 : Int64))) n1 (fun _ h => entM_sL _ h) dX6_close_610 (fun H locs hP hS => ?_)
                obtain ⟨M121, eM121, hf⟩ := bnd_some hf
                rw [← eM121] at hP
                refine lv_iinc (v := v13 + (1 : Int32)) (lv' := [(13, .int (v13 + (1 : Int32))), (11, .long x115), (0, .ref (ad 0)), (5, .int v5), (10, .int v10)]) S.1 S.2.1 dX6_close_611 hl (k := 4) rfl rfl (by decide) rfl (fun ls hl => ?_)
                refine lv_goto (tgt := 448) S.1 S.2.1 dX6_close_614 (by decide) ?_
                exact ih v5 v10 x115 (v13 + (1 : Int32))  M121 hf _ _ _ hP hS (lv_sub hl [2, 3, 4, 1, 0] rfl)
        · replace hf := ift h94 hf
          refine lv_aload_n S.1 S.2.1 dX6_close_501 rfl (lv_at hl 0 rfl) ?_
          refine x_get (v := .ref (ad 1)) S hK hP w_lay_X6 (ci := 6) rfl 0 (by decide) m0 0 (by decide) w_fl_X6_7 rfl rfl dX6_close_502 ?_
          refine lv_sipush (v := (3263 : Int32)) S.1 S.2.1 dX6_close_505 (by decide) ?_
          refine lv_bipush (v := (60 : Int32)) S.1 S.2.1 dX6_close_508 (by decide) ?_
          refine lv_iload S.1 S.2.1 dX6_close_510 (lv_at hl 4 rfl) ?_
          refine lv_imul S.1 S.2.1 dX6_close_512 ?_
          refine lv_iadd S.1 S.2.1 dX6_close_513 ?_
          refine lv_iload S.1 S.2.1 dX6_close_514 (lv_at hl 2 rfl) ?_
          refine lv_iadd S.1 S.2.1 dX6_close_516 ?_
          refine lv_aload_n S.1 S.2.1 dX6_close_517 rfl (lv_at hl 0 rfl) ?_
          refine x_get (v := .ref (ad 5)) S hK hP w_lay_X6 (ci := 6) rfl 0 (by decide) m0 5 (by decide) w_fl_X6_22 rfl rfl dX6_close_518 ?_
          refine lv_iload S.1 S.2.1 dX6_close_521 (lv_at hl 4 rfl) ?_
          refine x_lald S hK hP 5 (by decide) m5 h55 dX6_close_523 ?_
          obtain ⟨h95, hf⟩ := gd_some hf
          refine x_last S hI hK hP hS 1 (by decide) m1 h95 (entM E ad (sL M93 1 (ix (((3263 : Int32) + ((60 : Int32) * v13)) + v10)) (gL M93 5 (ix v13)))) n1 (fun _ h => entM_sL _ h) dX6_close_524 (fun H locs hP hS => ?_)
          obtain ⟨M96, eM96, hf⟩ := bnd_some hf
          rw [← eM96] at hP
          refine lv_aload_n S.1 S.2.1 dX6_close_525 rfl (lv_at hl 0 rfl) ?_
          refine x_get (v := .ref (ad 6)) S hK hP w_lay_X6 (ci := 6) rfl 0 (by decide) m0 6 (by decide) w_fl_X6_25 rfl rfl dX6_close_526 ?_
          refine lv_iload S.1 S.2.1 dX6_close_529 (lv_at hl 4 rfl) ?_
          refine x_iald S hK hP 6 (by decide) m6 h55 dX6_close_531 ?_
          refine lv_if_ne (tgt := 560) S.1 S.2.1 dX6_close_532 (by decide) (fun h97 => ?_) (fun h97 => ?_)
          · replace hf := iff_ h97 hf
            refine lv_aload_n S.1 S.2.1 dX6_close_560 rfl (lv_at hl 0 rfl) ?_
            refine x_get (v := .ref (ad 1)) S hK hP w_lay_X6 (ci := 6) rfl 0 (by decide) m0 0 (by decide) w_fl_X6_7 rfl rfl dX6_close_561 ?_
            refine lv_iload S.1 S.2.1 dX6_close_564 (lv_at hl 4 rfl) ?_
            refine lv_bipush (v := (10 : Int32)) S.1 S.2.1 dX6_close_566 (by decide) ?_
            refine y_Si (As := [.int v13, .int (10 : Int32)]) S hK hN hP hS rfl (K_X6_part l E ad hI _ v13 (10 : Int32)  M96 _ rfl) (cS 2 S w_co_yX6_part w_in_X6 w_ml_X6_89 w_st_yX6_part hd_X6_part ⟨Nat.le_of_ble_eq_true rfl, Nat.le_of_ble_eq_true rfl⟩) hl.1 rfl rfl (Nat.le_of_ble_eq_true rfl) dX6_close_568 ⟨Nat.zero_le _, Nat.zero_le _⟩ (fun H locs hP hS => ?_)
            refine lv_aload_n S.1 S.2.1 dX6_close_571 rfl (lv_at hl 0 rfl) ?_
            refine x_get (v := .ref (ad 6)) S hK hP w_lay_X6 (ci := 6) rfl 0 (by decide) m0 6 (by decide) w_fl_X6_25 rfl rfl dX6_close_572 ?_
            refine lv_iload S.1 S.2.1 dX6_close_575 (lv_at hl 4 rfl) ?_
            refine x_iald S hK hP 6 (by decide) m6 h55 dX6_close_577 ?_
            refine lv_if_eq (tgt := 592) S.1 S.2.1 dX6_close_578 (by decide) (fun q9 => absurd q9 h97) (fun _ => ?_)
            refine lv_aload_n S.1 S.2.1 dX6_close_581 rfl (lv_at hl 0 rfl) ?_
            refine x_get (v := .ref (ad 6)) S hK hP w_lay_X6 (ci := 6) rfl 0 (by decide) m0 6 (by decide) w_fl_X6_25 rfl rfl dX6_close_582 ?_
            refine lv_iload S.1 S.2.1 dX6_close_585 (lv_at hl 4 rfl) ?_
            refine x_iald S hK hP 6 (by decide) m6 h55 dX6_close_587 ?_
            refine lv_iconst (v := (3 : Int32)) S.1 S.2.1 dX6_close_588 (by decide) ?_
            refine lv_icmp_ne (tgt := 596) S.1 S.2.1 dX6_close_589 (by decide) (fun h108 => ?_) (fun h108 => ?_)
            · replace hf := iff_ h108 hf
              refine lv_aload_n S.1 S.2.1 dX6_close_596 rfl (lv_at hl 0 rfl) ?_
              refine x_get (v := .ref (ad 1)) S hK hP w_lay_X6 (ci := 6) rfl 0 (by decide) m0 0 (by decide) w_fl_X6_7 rfl rfl dX6_close_597 ?_
              refine lv_iload S.1 S.2.1 dX6_close_600 (lv_at hl 4 rfl) ?_
              refine lv_bipush (v := (10 : Int32)) S.1 S.2.1 dX6_close_602 (by decide) ?_
              refine y_Si (As := [.int v13, .int (10 : Int32)]) S hK hN hP hS rfl (K_X6_part l E ad hI _ v13 (10 : Int32)  M96 _ rfl) (cS 2 S w_co_yX6_part w_in_X6 w_ml_X6_89 w_st_yX6_part hd_X6_part ⟨Nat.le_of_ble_eq_true rfl, Nat.le_of_ble_eq_true rfl⟩) hl.1 rfl rfl (Nat.le_of_ble_eq_true rfl) dX6_close_604 ⟨Nat.zero_le _, Nat.zero_le _⟩ (fun H locs hP hS => ?_)
              obtain ⟨h111, hf⟩ := gd_some hf
              refine x_lald S hK hP 1 (by decide) m1 h111 dX6_close_607 ?_
              refine lv_lconst (v := (1 : Int64)) S.1 S.2.1 dX6_close_608 (by decide) ?_
              refine lv_ladd S.1 S.2.1 dX6_close_609 ?_
              refine x_last S hI hK hP hS 1 (by decide) m1 h111 (entM E ad (sL M96 1 (ix (F_X6_part v13 (10 : Int32))) ((gL M96 1 (ix (F_X6_part v13 (10 : Int32)))) + (1 : Int64)))) n1 (fun _ h => entM_sL _ h) dX6_close_610 (fun H locs hP hS => ?_)
              obtain ⟨M112, eM112, hf⟩ := bnd_some hf
              rw [← eM112] at hP
              refine lv_iinc (v := v13 + (1 : Int32)) (lv' := [(13, .int (v13 + (1 : Int32))), (0, .ref (ad 0)), (5, .int v5), (10, .int v10), (11, .long v11)]) S.1 S.2.1 dX6_close_611 hl (k := 4) rfl rfl (by decide) rfl (fun ls hl => ?_)
              refine lv_goto (tgt := 448) S.1 S.2.1 dX6_close_614 (by decide) ?_
              exact ih v5 v10 v11 (v13 + (1 : Int32))  M112 hf _ _ _ hP hS (lv_sub hl [1, 2, 3, 4, 0] rfl)
            · replace hf := ift h108 hf
              refine lv_lconst (v := (0 : Int64)) S.1 S.2.1 dX6_close_592 (by decide) ?_
              refine lv_goto (tgt := 610) S.1 S.2.1 dX6_close_593 (by decide) ?_
              obtain ⟨h109, hf⟩ := gd_some hf
              refine x_last S hI hK hP hS 1 (by decide) m1 h109 (entM E ad (sL M96 1 (ix (F_X6_part v13 (10 : Int32))) (0 : Int64))) n1 (fun _ h => entM_sL _ h) dX6_close_610 (fun H locs hP hS => ?_)
              obtain ⟨M110, eM110, hf⟩ := bnd_some hf
              rw [← eM110] at hP
              refine lv_iinc (v := v13 + (1 : Int32)) (lv' := [(13, .int (v13 + (1 : Int32))), (0, .ref (ad 0)), (5, .int v5), (10, .int v10), (11, .long v11)]) S.1 S.2.1 dX6_close_611 hl (k := 4) rfl rfl (by decide) rfl (fun ls hl => ?_)
              refine lv_goto (tgt := 448) S.1 S.2.1 dX6_close_614 (by decide) ?_
              exact ih v5 v10 v11 (v13 + (1 : Int32))  M110 hf _ _ _ hP hS (lv_sub hl [1, 2, 3, 4, 0] rfl)
          · replace hf := ift h97 hf
            refine lv_aload_n S.1 S.2.1 dX6_close_535 rfl (lv_at hl 0 rfl) ?_
            refine lv_iload S.1 S.2.1 dX6_close_536 (lv_at hl 4 rfl) ?_
            refine lv_aload_n S.1 S.2.1 dX6_close_538 rfl (lv_at hl 0 rfl) ?_
            refine x_get (v := .ref (ad 5)) S hK hP w_lay_X6 (ci := 6) rfl 0 (by decide) m0 5 (by decide) w_fl_X6_22 rfl rfl dX6_close_539 ?_
            refine lv_iload S.1 S.2.1 dX6_close_542 (lv_at hl 4 rfl) ?_
            refine x_lald S hK hP 5 (by decide) m5 h55 dX6_close_544 ?_
            obtain ⟨M98, gM98, hf⟩ := bn1_some hf
            refine y_Vv (As := [.int v13, .long (gL M96 5 (ix v13))]) S hK hN hP hS rfl (by decide) m0 rfl (K_X6_pays l E ad hI _ N v13 (gL M96 5 (ix v13))  M96 M98 gM98) (cV 2 S w_co_yX6_pays w_in_X6 w_ml_X6_121 w_im_yX6_pays w_se_yX6_pays hd_X6_pays ⟨Nat.le_of_ble_eq_true rfl, Nat.le_of_ble_eq_true rfl⟩) hl.1 rfl rfl (Nat.le_of_ble_eq_true rfl) dX6_close_545 ⟨Nat.zero_le _, Nat.zero_le _⟩ (fun H locs hP hS => ?_)
            refine lv_lload S.1 S.2.1 dX6_close_548 (lv_at hl 3 rfl) ?_
            refine lv_aload_n S.1 S.2.1 dX6_close_550 rfl (lv_at hl 0 rfl) ?_
            refine x_get (v := .ref (ad 5)) S hK hP w_lay_X6 (ci := 6) rfl 0 (by decide) m0 5 (by decide) w_fl_X6_22 rfl rfl dX6_close_551 ?_
            refine lv_iload S.1 S.2.1 dX6_close_554 (lv_at hl 4 rfl) ?_
            refine x_lald S hK hP 5 (by decide) m5 h55 dX6_close_556 ?_
            refine lv_ladd S.1 S.2.1 dX6_close_557 ?_
            obtain ⟨x99, ex99, hf⟩ := bnd_some hf
            refine lv_rel ex99 ?_
            refine lv_lstore (lv' := [(11, .long x99), (0, .ref (ad 0)), (5, .int v5), (10, .int v10), (13, .int v13)]) S.1 S.2.1 dX6_close_558 hl (by decide) rfl (fun ls hl => ?_)
            refine lv_aload_n S.1 S.2.1 dX6_close_560 rfl (lv_at hl 1 rfl) ?_
            refine x_get (v := .ref (ad 1)) S hK hP w_lay_X6 (ci := 6) rfl 0 (by decide) m0 0 (by decide) w_fl_X6_7 rfl rfl dX6_close_561 ?_
            refine lv_iload S.1 S.2.1 dX6_close_564 (lv_at hl 4 rfl) ?_
            refine lv_bipush (v := (10 : Int32)) S.1 S.2.1 dX6_close_566 (by decide) ?_
            refine y_Si (As := [.int v13, .int (10 : Int32)]) S hK hN hP hS rfl (K_X6_part l E ad hI _ v13 (10 : Int32)  M98 _ rfl) (cS 2 S w_co_yX6_part w_in_X6 w_ml_X6_89 w_st_yX6_part hd_X6_part ⟨Nat.le_of_ble_eq_true rfl, Nat.le_of_ble_eq_true rfl⟩) hl.1 rfl rfl (Nat.le_of_ble_eq_true rfl) dX6_close_568 ⟨Nat.zero_le _, Nat.zero_le _⟩ (fun H locs hP hS => ?_)
            refine lv_aload_n S.1 S.2.1 dX6_close_571 rfl (lv_at hl 1 rfl) ?_
            refine x_get (v := .ref (ad 6)) S hK hP w_lay_X6 (ci := 6) rfl 0 (by decide) m0 6 (by decide) w_fl_X6_25 rfl rfl dX6_close_572 ?_
            refine lv_iload S.1 S.2.1 dX6_close_575 (lv_at hl 4 rfl) ?_
            refine x_iald S hK hP 6 (by decide) m6 h55 dX6_close_577 ?_
            refine lv_if_eq (tgt := 592) S.1 S.2.1 dX6_close_578 (by decide) (fun h100 => ?_) (fun h100 => ?_)
            · replace hf := ift h100 hf
              refine lv_lconst (v := (0 : Int64)) S.1 S.2.1 dX6_close_592 (by decide) ?_
              refine lv_goto (tgt := 610) S.1 S.2.1 dX6_close_593 (by decide) ?_
              obtain ⟨h101, hf⟩ := gd_some hf
              refine x_last S hI hK hP hS 1 (by decide) m1 h101 (entM E ad (sL M98 1 (ix (F_X6_part v13 (10 : Int32))) (0 : Int64))) n1 (fun _ h => entM_sL _ h) dX6_close_610 (fun H locs hP hS => ?_)
              obtain ⟨M102, eM102, hf⟩ := bnd_some hf
              rw [← eM102] at hP
              refine lv_iinc (v := v13 + (1 : Int32)) (lv' := [(13, .int (v13 + (1 : Int32))), (11, .long x99), (0, .ref (ad 0)), (5, .int v5), (10, .int v10)]) S.1 S.2.1 dX6_close_611 hl (k := 4) rfl rfl (by decide) rfl (fun ls hl => ?_)
              refine lv_goto (tgt := 448) S.1 S.2.1 dX6_close_614 (by decide) ?_
              exact ih v5 v10 x99 (v13 + (1 : Int32))  M102 hf _ _ _ hP hS (lv_sub hl [2, 3, 4, 1, 0] rfl)
            · replace hf := iff_ h100 hf
              refine lv_aload_n S.1 S.2.1 dX6_close_581 rfl (lv_at hl 1 rfl) ?_
              refine x_get (v := .ref (ad 6)) S hK hP w_lay_X6 (ci := 6) rfl 0 (by decide) m0 6 (by decide) w_fl_X6_25 rfl rfl dX6_close_582 ?_
              refine lv_iload S.1 S.2.1 dX6_close_585 (lv_at hl 4 rfl) ?_
              refine x_iald S hK hP 6 (by decide) m6 h55 dX6_close_587 ?_
              refine lv_iconst (v := (3 : Int32)) S.1 S.2.1 dX6_close_588 (by decide) ?_
              refine lv_icmp_ne (tgt := 596) S.1 S.2.1 dX6_close_589 (by decide) (fun h103 => ?_) (fun h103 => ?_)
              · replace hf := iff_ h103 hf
                refine lv_aload_n S.1 S.2.1 dX6_close_596 rfl (lv_at hl 1 rfl) ?_
                refine x_get (v := .ref (ad 1)) S hK hP w_lay_X6 (ci := 6) rfl 0 (by decide) m0 0 (by decide) w_fl_X6_7 rfl rfl dX6_close_597 ?_
                refine lv_iload S.1 S.2.1 dX6_close_600 (lv_at hl 4 rfl) ?_
                refine lv_bipush (v := (10 : Int32)) S.1 S.2.1 dX6_close_602 (by decide) ?_
                refine y_Si (As := [.int v13, .int (10 : Int32)]) S hK hN hP hS rfl (K_X6_part l E ad hI _ v13 (10 : Int32)  M98 _ rfl) (cS 2 S w_co_yX6_part w_in_X6 w_ml_X6_89 w_st_yX6_part hd_X6_part ⟨Nat.le_of_ble_eq_true rfl, Nat.le_of_ble_eq_true rfl⟩) hl.1 rfl rfl (Nat.le_of_ble_eq_true rfl) dX6_close_604 ⟨Nat.zero_le _, Nat.zero_le _⟩ (fun H locs hP hS => ?_)
                obtain ⟨h106, hf⟩ := gd_some hf
                refine x_lald S hK hP 1 (by decide) m1 h106 dX6_close_607 ?_
                refine lv_lconst (v := (1 : Int64)) S.1 S.2.1 dX6_close_608 (by decide) ?_
                refine lv_ladd S.1 S.2.1 dX6_close_609 ?_
                refine x_last S hI hK hP hS 1 (by decide) m1 h106 (entM E ad (sL M98 1 (ix (F_X6_part v13 (10 : Int32))) ((gL M98 1 (ix (F_X6_part v13 (10 : Int32)))) + (1 : Int64)))) n1 (fun _ h => entM_sL _ h) dX6_close_610 (fun H locs hP hS => ?_)
                obtain ⟨M107, eM107, hf⟩ := bnd_some hf
                rw [← eM107] at hP
                refine lv_iinc (v := v13 + (1 : Int32)) (lv' := [(13, .int (v13 + (1 : Int32))), (11, .long x99), (0, .ref (ad 0)), (5, .int v5), (10, .int v10)]) S.1 S.2.1 dX6_close_611 hl (k := 4) rfl rfl (by decide) rfl (fun ls hl => ?_)
                refine lv_goto (tgt := 448) S.1 S.2.1 dX6_close_614 (by decide) ?_
                exact ih v5 v10 x99 (v13 + (1 : Int32))  M107 hf _ _ _ hP hS (lv_sub hl [2, 3, 4, 1, 0] rfl)
              · replace hf := ift h103 hf
                refine lv_lconst (v := (0 : Int64)) S.1 S.2.1 dX6_close_592 (by decide) ?_
                refine lv_goto (tgt := 610) S.1 S.2.1 dX6_close_593 (by decide) ?_
                obtain ⟨h104, hf⟩ := gd_some hf
                refine x_last S hI hK hP hS 1 (by decide) m1 h104 (entM E ad (sL M98 1 (ix (F_X6_part v13 (10 : Int32))) (0 : Int64))) n1 (fun _ h => entM_sL _ h) dX6_close_610 (fun H locs hP hS => ?_)
                obtain ⟨M105, eM105, hf⟩ := bnd_some hf
                rw [← eM105] at hP
                refine lv_iinc (v := v13 + (1 : Int32)) (lv' := [(13, .int (v13 + (1 : Int32))), (11, .long x99), (0, .ref (ad 0)), (5, .int v5), (10, .int v10)]) S.1 S.2.1 dX6_close_611 hl (k := 4) rfl rfl (by decide) rfl (fun ls hl => ?_)
                refine lv_goto (tgt := 448) S.1 S.2.1 dX6_close_614 (by decide) ?_
                exact ih v5 v10 x99 (v13 + (1 : Int32))  M105 hf _ _ _ hP hS (lv_sub hl [2, 3, 4, 1, 0] rfl)
set_option maxHeartbeats 4000000 in
set_option maxRecDepth 100000 in
theorem L_X6_close_396 (l : Launch) (E : EE) (ad : Nat → Nat) (hI : ad_I ad 7) (N : Nat) (a1 : Int32)  {p : Program} {e : Env} {s : State} {m : MethodId} {below : List Frame} {meth : Method} {c : Code} (S : CallFix p m c cX6_close 14 s [.ref (ad 0), .int a1].toArray bg_B "SurvivorPurseModel") (hr : meth.sig.returnType = (some .long)) (hlk : meth.locks = false) (hK : va_K E.1 vwCl (tysE E) s) (hN : NW s) (r : Int64) (M' : MM) : ∀ (fu : Nat) (v4 : Int32) (v5 : Int32) (v8 : Int64) (v10 : Int32)  (M : MM), F_X6_close_396 N a1 fu v4 v5 v8 v10 M = some (r, M') → ∀ (H : Heap) (locs : List Loc) (ls : Array Slot), va_P E.1 vwCl (mw (entM E ad M) ad 7) H → va_S (AA ad 7 s.heap.size) s.heap H locs → lv_has ls 14 [(0, .ref (ad 0)), (4, .int v4), (5, .int v5), (8, .long v8), (10, .int v10)] → W p l e { frames := 4, cells := 0, slots := 0, locals := 89 } s m [.ref (ad 0), .int a1].toArray below meth c H locs 0 0 (MQ below (va_Ql (fun r0 (_ : Unit) => r0 = r) (fun _ t => QB E (entM E ad M') ad 7 t) (AA ad 7 s.heap.size)) [.ref (ad 0), .int a1].toArray s 0 0 (AA ad 7 s.heap.size)) (F0 m 396 ls []) := by
  intro fu
  induction fu with
  | zero =>
    intro v4 v5 v8 v10 M hf
    rw [F_X6_close_396] at hf
    cases hf
  | succ fu ih =>
    intro v4 v5 v8 v10 M hf H locs ls hP hS hl
    rw [F_X6_close_396] at hf
    refine lv_iload S.1 S.2.1 dX6_close_396 (lv_at hl 4 rfl) ?_
    refine lv_iload S.1 S.2.1 dX6_close_398 (lv_at hl 1 rfl) ?_
    refine lv_icmp_ge (tgt := 421) S.1 S.2.1 dX6_close_400 (by decide) (fun h48 => ?_) (fun h48 => ?_)
    · replace hf := ift h48 hf
      refine lv_aload_n S.1 S.2.1 dX6_close_421 rfl (lv_at hl 0 rfl) ?_
      refine x_get (v := .ref (ad 1)) S hK hP w_lay_X6 (ci := 6) rfl 0 (by decide) m0 0 (by decide) w_fl_X6_7 rfl rfl dX6_close_422 ?_
      refine lv_sipush (v := (5664 : Int32)) S.1 S.2.1 dX6_close_425 (by decide) ?_
      refine lv_lload S.1 S.2.1 dX6_close_428 (lv_at hl 3 rfl) ?_
      refine x_lastc (j := 5664) S hI hK hP hS 1 (by decide) m1 (by decide) (by decide) (entM E ad (sL M 1 5664 v8)) n1 (fun _ h => entM_sL _ h) dX6_close_430 (fun H locs hP hS => ?_)
      obtain ⟨M49, eM49, hf⟩ := bnd_some hf
      rw [← eM49] at hP
      refine lv_aload_n S.1 S.2.1 dX6_close_431 rfl (lv_at hl 0 rfl) ?_
      refine x_get (v := .ref (ad 1)) S hK hP w_lay_X6 (ci := 6) rfl 0 (by decide) m0 0 (by decide) w_fl_X6_7 rfl rfl dX6_close_432 ?_
      refine lv_sipush (v := (5663 : Int32)) S.1 S.2.1 dX6_close_435 (by decide) ?_
      refine x_laldc (j := 5663) S hK hP 1 (by decide) m1 (by decide) (by decide) dX6_close_438 ?_
      refine lv_l2i (v := (gL M49 1 5663).toInt32) S.1 S.2.1 dX6_close_439 rfl ?_
      obtain ⟨x50, ex50, hf⟩ := bnd_some hf
      refine lv_rei ex50 ?_
      refine lv_istore (lv' := [(10, .int x50), (0, .ref (ad 0)), (4, .int v4), (5, .int v5), (8, .long v8)]) S.1 S.2.1 dX6_close_440 hl (by decide) rfl (fun ls hl => ?_)
      refine lv_lconst (v := (0 : Int64)) S.1 S.2.1 dX6_close_442 (by decide) ?_
      refine lv_lstore (lv' := [(11, .long (0 : Int64)), (10, .int x50), (0, .ref (ad 0)), (4, .int v4), (5, .int v5), (8, .long v8)]) S.1 S.2.1 dX6_close_443 hl (by decide) rfl (fun ls hl => ?_)
      refine lv_iconst (v := (0 : Int32)) S.1 S.2.1 dX6_close_445 (by decide) ?_
      refine lv_istore (lv' := [(13, .int (0 : Int32)), (11, .long (0 : Int64)), (10, .int x50), (0, .ref (ad 0)), (4, .int v4), (5, .int v5), (8, .long v8)]) S.1 S.2.1 dX6_close_446 hl (by decide) rfl (fun ls hl => ?_)
      exact L_X6_close_448 l E ad hI N a1  S hr hlk hK hN _ _ N v5 x50 (0 : Int64) (0 : Int32)  M49 hf _ _ _ hP hS (lv_sub hl [3, 5, 2, 1, 0] rfl)
    · replace hf := iff_ h48 hf
      refine lv_lload S.1 S.2.1 dX6_close_403 (lv_at hl 3 rfl) ?_
      refine lv_aload_n S.1 S.2.1 dX6_close_405 rfl (lv_at hl 0 rfl) ?_
      refine x_get (v := .ref (ad 3)) S hK hP w_lay_X6 (ci := 6) rfl 0 (by decide) m0 3 (by decide) w_fl_X6_16 rfl rfl dX6_close_406 ?_
      refine lv_iload S.1 S.2.1 dX6_close_409 (lv_at hl 4 rfl) ?_
      obtain ⟨h51, hf⟩ := gd_some hf
      refine x_lald S hK hP 3 (by decide) m3 h51 dX6_close_411 ?_
      refine lv_ladd S.1 S.2.1 dX6_close_412 ?_
      obtain ⟨x52, ex52, hf⟩ := bnd_some hf
      refine lv_rel ex52 ?_
      refine lv_lstore (lv' := [(8, .long x52), (0, .ref (ad 0)), (4, .int v4), (5, .int v5), (10, .int v10)]) S.1 S.2.1 dX6_close_413 hl (by decide) rfl (fun ls hl => ?_)
      refine lv_iinc (v := v10 + (1 : Int32)) (lv' := [(10, .int (v10 + (1 : Int32))), (8, .long x52), (0, .ref (ad 0)), (4, .int v4), (5, .int v5)]) S.1 S.2.1 dX6_close_415 hl (k := 4) rfl rfl (by decide) rfl (fun ls hl => ?_)
      refine lv_goto (tgt := 396) S.1 S.2.1 dX6_close_418 (by decide) ?_
      exact ih v4 v5 x52 (v10 + (1 : Int32))  M hf _ _ _ hP hS (lv_sub hl [2, 3, 4, 1, 0] rfl)
set_option maxHeartbeats 4000000 in
set_option maxRecDepth 100000 in
theorem L_X6_close_305 (l : Launch) (E : EE) (ad : Nat → Nat) (hI : ad_I ad 7) (N : Nat) (a1 : Int32)  {p : Program} {e : Env} {s : State} {m : MethodId} {below : List Frame} {meth : Method} {c : Code} (S : CallFix p m c cX6_close 14 s [.ref (ad 0), .int a1].toArray bg_B "SurvivorPurseModel") (hr : meth.sig.returnType = (some .long)) (hlk : meth.locks = false) (hK : va_K E.1 vwCl (tysE E) s) (hN : NW s) (r : Int64) (M' : MM) : ∀ (fu : Nat) (v4 : Int32) (v5 : Int32) (v8 : Int64) (v10 : Int32)  (M : MM), F_X6_close_305 N a1 fu v4 v5 v8 v10 M = some (r, M') → ∀ (H : Heap) (locs : List Loc) (ls : Array Slot), va_P E.1 vwCl (mw (entM E ad M) ad 7) H → va_S (AA ad 7 s.heap.size) s.heap H locs → lv_has ls 14 [(0, .ref (ad 0)), (4, .int v4), (5, .int v5), (8, .long v8), (10, .int v10)] → W p l e { frames := 4, cells := 0, slots := 0, locals := 89 } s m [.ref (ad 0), .int a1].toArray below meth c H locs 0 0 (MQ below (va_Ql (fun r0 (_ : Unit) => r0 = r) (fun _ t => QB E (entM E ad M') ad 7 t) (AA ad 7 s.heap.size)) [.ref (ad 0), .int a1].toArray s 0 0 (AA ad 7 s.heap.size)) (F0 m 305 ls []) := by
  intro fu
  induction fu with
  | zero =>
    intro v4 v5 v8 v10 M hf
    rw [F_X6_close_305] at hf
    cases hf
  | succ fu ih =>
    intro v4 v5 v8 v10 M hf H locs ls hP hS hl
    rw [F_X6_close_305] at hf
    refine lv_iload S.1 S.2.1 dX6_close_305 (lv_at hl 4 rfl) ?_
    refine lv_iload S.1 S.2.1 dX6_close_307 (lv_at hl 2 rfl) ?_
    refine lv_icmp_ge (tgt := 393) S.1 S.2.1 dX6_close_309 (by decide) (fun h32 => ?_) (fun h32 => ?_)
    · replace hf := ift h32 hf
      refine lv_iconst (v := (0 : Int32)) S.1 S.2.1 dX6_close_393 (by decide) ?_
      refine lv_istore (lv' := [(10, .int (0 : Int32)), (0, .ref (ad 0)), (4, .int v4), (5, .int v5), (8, .long v8)]) S.1 S.2.1 dX6_close_394 hl (by decide) rfl (fun ls hl => ?_)
      exact L_X6_close_396 l E ad hI N a1  S hr hlk hK hN _ _ N v4 v5 v8 (0 : Int32)  M hf _ _ _ hP hS (lv_sub hl [1, 2, 3, 4, 0] rfl)
    · replace hf := iff_ h32 hf
      refine lv_aload_n S.1 S.2.1 dX6_close_312 rfl (lv_at hl 0 rfl) ?_
      refine x_get (v := .ref (ad 1)) S hK hP w_lay_X6 (ci := 6) rfl 0 (by decide) m0 0 (by decide) w_fl_X6_7 rfl rfl dX6_close_313 ?_
      refine lv_iload S.1 S.2.1 dX6_close_316 (lv_at hl 4 rfl) ?_
      refine lv_iconst (v := (4 : Int32)) S.1 S.2.1 dX6_close_318 (by decide) ?_
      refine y_Si (As := [.int v10, .int (4 : Int32)]) S hK hN hP hS rfl (K_X6_part l E ad hI _ v10 (4 : Int32)  M _ rfl) (cS 2 S w_co_yX6_part w_in_X6 w_ml_X6_89 w_st_yX6_part hd_X6_part ⟨Nat.le_of_ble_eq_true rfl, Nat.le_of_ble_eq_true rfl⟩) hl.1 rfl rfl (Nat.le_of_ble_eq_true rfl) dX6_close_319 ⟨Nat.zero_le _, Nat.zero_le _⟩ (fun H locs hP hS => ?_)
      obtain ⟨h33, hf⟩ := gd_some hf
      refine x_lald S hK hP 1 (by decide) m1 h33 dX6_close_322 ?_
      refine lv_l2i (v := (gL M 1 (ix (F_X6_part v10 (4 : Int32)))).toInt32) S.1 S.2.1 dX6_close_323 rfl ?_
      obtain ⟨x34, ex34, hf⟩ := bnd_some hf
      refine lv_rei ex34 ?_
      refine lv_istore (lv' := [(11, .int x34), (0, .ref (ad 0)), (4, .int v4), (5, .int v5), (8, .long v8), (10, .int v10)]) S.1 S.2.1 dX6_close_324 hl (by decide) rfl (fun ls hl => ?_)
      refine lv_aload_n S.1 S.2.1 dX6_close_326 rfl (lv_at hl 1 rfl) ?_
      refine x_get (v := .ref (ad 5)) S hK hP w_lay_X6 (ci := 6) rfl 0 (by decide) m0 5 (by decide) w_fl_X6_22 rfl rfl dX6_close_327 ?_
      refine lv_iload S.1 S.2.1 dX6_close_330 (lv_at hl 5 rfl) ?_
      refine lv_aload_n S.1 S.2.1 dX6_close_332 rfl (lv_at hl 1 rfl) ?_
      refine x_get (v := .ref (ad 6)) S hK hP w_lay_X6 (ci := 6) rfl 0 (by decide) m0 6 (by decide) w_fl_X6_25 rfl rfl dX6_close_333 ?_
      refine lv_iload S.1 S.2.1 dX6_close_336 (lv_at hl 5 rfl) ?_
      obtain ⟨h35, hf⟩ := gd_some hf
      refine x_iald S hK hP 6 (by decide) m6 h35 dX6_close_338 ?_
      refine lv_iconst (v := (2 : Int32)) S.1 S.2.1 dX6_close_339 (by decide) ?_
      refine lv_icmp_ge (tgt := 373) S.1 S.2.1 dX6_close_340 (by decide) (fun h36 => ?_) (fun h36 => ?_)
      · replace hf := ift h36 hf
        refine lv_lconst (v := (0 : Int64)) S.1 S.2.1 dX6_close_373 (by decide) ?_
        refine x_last S hI hK hP hS 5 (by decide) m5 h35 (entM E ad (sL M 5 (ix v10) (0 : Int64))) n5 (fun _ h => entM_sL _ h) dX6_close_374 (fun H locs hP hS => ?_)
        obtain ⟨M37, eM37, hf⟩ := bnd_some hf
        rw [← eM37] at hP
        refine lv_lload S.1 S.2.1 dX6_close_375 (lv_at hl 4 rfl) ?_
        refine lv_aload_n S.1 S.2.1 dX6_close_377 rfl (lv_at hl 1 rfl) ?_
        refine x_get (v := .ref (ad 5)) S hK hP w_lay_X6 (ci := 6) rfl 0 (by decide) m0 5 (by decide) w_fl_X6_22 rfl rfl dX6_close_378 ?_
        refine lv_iload S.1 S.2.1 dX6_close_381 (lv_at hl 5 rfl) ?_
        refine x_lald S hK hP 5 (by decide) m5 h35 dX6_close_383 ?_
        refine lv_lsub S.1 S.2.1 dX6_close_384 ?_
        obtain ⟨x38, ex38, hf⟩ := bnd_some hf
        refine lv_rel ex38 ?_
        refine lv_lstore (lv' := [(8, .long x38), (11, .int x34), (0, .ref (ad 0)), (4, .int v4), (5, .int v5), (10, .int v10)]) S.1 S.2.1 dX6_close_385 hl (by decide) rfl (fun ls hl => ?_)
        refine lv_iinc (v := v10 + (1 : Int32)) (lv' := [(10, .int (v10 + (1 : Int32))), (8, .long x38), (11, .int x34), (0, .ref (ad 0)), (4, .int v4), (5, .int v5)]) S.1 S.2.1 dX6_close_387 hl (k := 5) rfl rfl (by decide) rfl (fun ls hl => ?_)
        refine lv_goto (tgt := 305) S.1 S.2.1 dX6_close_390 (by decide) ?_
        exact ih v4 v5 x38 (v10 + (1 : Int32))  M37 hf _ _ _ hP hS (lv_sub hl [3, 4, 5, 1, 0] rfl)
      · replace hf := iff_ h36 hf
        refine lv_aload_n S.1 S.2.1 dX6_close_343 rfl (lv_at hl 1 rfl) ?_
        refine x_get (v := .ref (ad 3)) S hK hP w_lay_X6 (ci := 6) rfl 0 (by decide) m0 3 (by decide) w_fl_X6_16 rfl rfl dX6_close_344 ?_
        refine lv_iload S.1 S.2.1 dX6_close_347 (lv_at hl 0 rfl) ?_
        obtain ⟨h39, hf⟩ := gd_some hf
        refine x_lald S hK hP 3 (by decide) m3 h39 dX6_close_349 ?_
        refine lv_aload_n S.1 S.2.1 dX6_close_350 rfl (lv_at hl 1 rfl) ?_
        refine x_get (v := .ref (ad 1)) S hK hP w_lay_X6 (ci := 6) rfl 0 (by decide) m0 0 (by decide) w_fl_X6_7 rfl rfl dX6_close_351 ?_
        refine lv_iload S.1 S.2.1 dX6_close_354 (lv_at hl 5 rfl) ?_
        refine lv_iconst (v := (3 : Int32)) S.1 S.2.1 dX6_close_356 (by decide) ?_
        refine y_Si (As := [.int v10, .int (3 : Int32)]) S hK hN hP hS rfl (K_X6_part l E ad hI _ v10 (3 : Int32)  M _ rfl) (cS 2 S w_co_yX6_part w_in_X6 w_ml_X6_89 w_st_yX6_part hd_X6_part ⟨Nat.le_of_ble_eq_true rfl, Nat.le_of_ble_eq_true rfl⟩) hl.1 rfl rfl (Nat.le_of_ble_eq_true rfl) dX6_close_357 ⟨Nat.zero_le _, Nat.zero_le _⟩ (fun H locs hP hS => ?_)
        obtain ⟨h40, hf⟩ := gd_some hf
        refine x_lald S hK hP 1 (by decide) m1 h40 dX6_close_360 ?_
        refine lv_lmul S.1 S.2.1 dX6_close_361 ?_
        refine lv_aload_n S.1 S.2.1 dX6_close_362 rfl (lv_at hl 1 rfl) ?_
        refine x_get (v := .ref (ad 4)) S hK hP w_lay_X6 (ci := 6) rfl 0 (by decide) m0 4 (by decide) w_fl_X6_19 rfl rfl dX6_close_363 ?_
        refine lv_iload S.1 S.2.1 dX6_close_366 (lv_at hl 0 rfl) ?_
        obtain ⟨h41, hf⟩ := gd_some hf
        refine x_lald S hK hP 4 (by decide) m4 h41 dX6_close_368 ?_
        obtain ⟨h42, hf⟩ := gd_some hf
        refine lv_ldiv S.1 S.2.1 dX6_close_369 (nz_ne h42) ?_
        refine lv_goto (tgt := 374) S.1 S.2.1 dX6_close_370 (by decide) ?_
        refine x_last S hI hK hP hS 5 (by decide) m5 h35 (entM E ad (sL M 5 (ix v10) (((gL M 3 (ix x34)) * (gL M 1 (ix (F_X6_part v10 (3 : Int32))))) / (gL M 4 (ix x34))))) n5 (fun _ h => entM_sL _ h) dX6_close_374 (fun H locs hP hS => ?_)
        obtain ⟨M43, eM43, hf⟩ := bnd_some hf
        rw [← eM43] at hP
        refine lv_lload S.1 S.2.1 dX6_close_375 (lv_at hl 4 rfl) ?_
        refine lv_aload_n S.1 S.2.1 dX6_close_377 rfl (lv_at hl 1 rfl) ?_
        refine x_get (v := .ref (ad 5)) S hK hP w_lay_X6 (ci := 6) rfl 0 (by decide) m0 5 (by decide) w_fl_X6_22 rfl rfl dX6_close_378 ?_
        refine lv_iload S.1 S.2.1 dX6_close_381 (lv_at hl 5 rfl) ?_
        refine x_lald S hK hP 5 (by decide) m5 h35 dX6_close_383 ?_
        refine lv_lsub S.1 S.2.1 dX6_close_384 ?_
        obtain ⟨x44, ex44, hf⟩ := bnd_some hf
        refine lv_rel ex44 ?_
        refine lv_lstore (lv' := [(8, .long x44), (11, .int x34), (0, .ref (ad 0)), (4, .int v4), (5, .int v5), (10, .int v10)]) S.1 S.2.1 dX6_close_385 hl (by decide) rfl (fun ls hl => ?_)
        refine lv_iinc (v := v10 + (1 : Int32)) (lv' := [(10, .int (v10 + (1 : Int32))), (8, .long x44), (11, .int x34), (0, .ref (ad 0)), (4, .int v4), (5, .int v5)]) S.1 S.2.1 dX6_close_387 hl (k := 5) rfl rfl (by decide) rfl (fun ls hl => ?_)
        refine lv_goto (tgt := 305) S.1 S.2.1 dX6_close_390 (by decide) ?_
        exact ih v4 v5 x44 (v10 + (1 : Int32))  M43 hf _ _ _ hP hS (lv_sub hl [3, 4, 5, 1, 0] rfl)
set_option maxHeartbeats 4000000 in
set_option maxRecDepth 100000 in
theorem L_X6_close_242 (l : Launch) (E : EE) (ad : Nat → Nat) (hI : ad_I ad 7) (N : Nat) (a1 : Int32)  {p : Program} {e : Env} {s : State} {m : MethodId} {below : List Frame} {meth : Method} {c : Code} (S : CallFix p m c cX6_close 14 s [.ref (ad 0), .int a1].toArray bg_B "SurvivorPurseModel") (hr : meth.sig.returnType = (some .long)) (hlk : meth.locks = false) (hK : va_K E.1 vwCl (tysE E) s) (hN : NW s) {Q : State → Prop} (o13 : Int32) : ∀ (fu : Nat) (v2 : Int64) (v4 : Int32) (v5 : Int32) (v6 : Int64) (v8 : Int64) (v10 : Int32) (v11 : Int64) (v13 : Int32)  (M : MM), F_X6_close_242 N a1 fu v2 v4 v5 v6 v8 v10 v11 v13 M = some o13 → ∀ (H : Heap) (locs : List Loc) (ls : Array Slot), va_P E.1 vwCl (mw (entM E ad M) ad 7) H → va_S (AA ad 7 s.heap.size) s.heap H locs → lv_has ls 14 [(0, .ref (ad 0)), (2, .long v2), (4, .int v4), (5, .int v5), (6, .long v6), (8, .long v8), (10, .int v10), (11, .long v11), (13, .int v13)] → (∀ (H : Heap) (locs : List Loc) (ls : Array Slot), va_P E.1 vwCl (mw (entM E ad M) ad 7) H → va_S (AA ad 7 s.heap.size) s.heap H locs → lv_has ls 14 [(0, .ref (ad 0)), (2, .long v2), (4, .int v4), (5, .int v5), (6, .long v6), (8, .long v8), (10, .int v10), (11, .long v11), (13, .int o13)] → W p l e { frames := 4, cells := 0, slots := 0, locals := 89 } s m [.ref (ad 0), .int a1].toArray below meth c H locs 0 0 Q (F0 m 267 ls [])) → W p l e { frames := 4, cells := 0, slots := 0, locals := 89 } s m [.ref (ad 0), .int a1].toArray below meth c H locs 0 0 Q (F0 m 242 ls []) := by
  intro fu
  induction fu with
  | zero =>
    intro v2 v4 v5 v6 v8 v10 v11 v13 M hf
    rw [F_X6_close_242] at hf
    cases hf
  | succ fu ih =>
    intro v2 v4 v5 v6 v8 v10 v11 v13 M hf H locs ls hP hS hl kk
    rw [F_X6_close_242] at hf
    refine lv_iload S.1 S.2.1 dX6_close_242 (lv_at hl 8 rfl) ?_
    refine lv_iload S.1 S.2.1 dX6_close_244 (lv_at hl 2 rfl) ?_
    refine lv_icmp_ge (tgt := 267) S.1 S.2.1 dX6_close_246 (by decide) (fun h45 => ?_) (fun h45 => ?_)
    · replace hf := ift h45 hf
      cases hf
      exact kk _ _ _ hP hS (lv_sub hl [0, 1, 2, 3, 4, 5, 6, 7, 8] rfl)
    · replace hf := iff_ h45 hf
      refine lv_aload_n S.1 S.2.1 dX6_close_249 rfl (lv_at hl 0 rfl) ?_
      refine x_get (v := .ref (ad 4)) S hK hP w_lay_X6 (ci := 6) rfl 0 (by decide) m0 4 (by decide) w_fl_X6_19 rfl rfl dX6_close_250 ?_
      refine lv_iload S.1 S.2.1 dX6_close_253 (lv_at hl 8 rfl) ?_
      obtain ⟨h46, hf⟩ := gd_some hf
      refine x_lald S hK hP 4 (by decide) m4 h46 dX6_close_255 ?_
      refine lv_lconst (v := (0 : Int64)) S.1 S.2.1 dX6_close_256 (by decide) ?_
      refine ll_ne (tgt := 267) S dX6_close_257 dX6_close_258 (by decide) (fun h47 => ?_) (fun h47 => ?_)
      · replace hf := iff_ h47 hf
        cases hf
        exact kk _ _ _ hP hS (lv_sub hl [0, 1, 2, 3, 4, 5, 6, 7, 8] rfl)
      · replace hf := ift h47 hf
        refine lv_iinc (v := v13 + (1 : Int32)) (lv' := [(13, .int (v13 + (1 : Int32))), (0, .ref (ad 0)), (2, .long v2), (4, .int v4), (5, .int v5), (6, .long v6), (8, .long v8), (10, .int v10), (11, .long v11)]) S.1 S.2.1 dX6_close_261 hl (k := 8) rfl rfl (by decide) rfl (fun ls hl => ?_)
        refine lv_goto (tgt := 242) S.1 S.2.1 dX6_close_264 (by decide) ?_
        exact ih v2 v4 v5 v6 v8 v10 v11 (v13 + (1 : Int32))  M hf _ _ _ hP hS (lv_sub hl [1, 2, 3, 4, 5, 6, 7, 8, 0] rfl) kk
set_option maxHeartbeats 4000000 in
set_option maxRecDepth 100000 in
theorem L_X6_close_206 (l : Launch) (E : EE) (ad : Nat → Nat) (hI : ad_I ad 7) (N : Nat) (a1 : Int32)  {p : Program} {e : Env} {s : State} {m : MethodId} {below : List Frame} {meth : Method} {c : Code} (S : CallFix p m c cX6_close 14 s [.ref (ad 0), .int a1].toArray bg_B "SurvivorPurseModel") (hr : meth.sig.returnType = (some .long)) (hlk : meth.locks = false) (hK : va_K E.1 vwCl (tysE E) s) (hN : NW s) (r : Int64) (M' : MM) : ∀ (fu : Nat) (v2 : Int64) (v4 : Int32) (v5 : Int32) (v6 : Int64) (v8 : Int64) (v10 : Int32)  (M : MM), F_X6_close_206 N a1 fu v2 v4 v5 v6 v8 v10 M = some (r, M') → ∀ (H : Heap) (locs : List Loc) (ls : Array Slot), va_P E.1 vwCl (mw (entM E ad M) ad 7) H → va_S (AA ad 7 s.heap.size) s.heap H locs → lv_has ls 14 [(0, .ref (ad 0)), (2, .long v2), (4, .int v4), (5, .int v5), (6, .long v6), (8, .long v8), (10, .int v10)] → W p l e { frames := 4, cells := 0, slots := 0, locals := 89 } s m [.ref (ad 0), .int a1].toArray below meth c H locs 0 0 (MQ below (va_Ql (fun r0 (_ : Unit) => r0 = r) (fun _ t => QB E (entM E ad M') ad 7 t) (AA ad 7 s.heap.size)) [.ref (ad 0), .int a1].toArray s 0 0 (AA ad 7 s.heap.size)) (F0 m 206 ls []) := by
  intro fu
  induction fu with
  | zero =>
    intro v2 v4 v5 v6 v8 v10 M hf
    rw [F_X6_close_206] at hf
    cases hf
  | succ fu ih =>
    intro v2 v4 v5 v6 v8 v10 M hf H locs ls hP hS hl
    rw [F_X6_close_206] at hf
    refine lv_iload S.1 S.2.1 dX6_close_206 (lv_at hl 6 rfl) ?_
    refine lv_iload S.1 S.2.1 dX6_close_208 (lv_at hl 2 rfl) ?_
    refine lv_icmp_ge (tgt := 302) S.1 S.2.1 dX6_close_210 (by decide) (fun h23 => ?_) (fun h23 => ?_)
    · replace hf := ift h23 hf
      refine lv_iconst (v := (0 : Int32)) S.1 S.2.1 dX6_close_302 (by decide) ?_
      refine lv_istore (lv' := [(10, .int (0 : Int32)), (0, .ref (ad 0)), (2, .long v2), (4, .int v4), (5, .int v5), (6, .long v6), (8, .long v8)]) S.1 S.2.1 dX6_close_303 hl (by decide) rfl (fun ls hl => ?_)
      exact L_X6_close_305 l E ad hI N a1  S hr hlk hK hN _ _ N v4 v5 v8 (0 : Int32)  M hf _ _ _ hP hS (lv_sub hl [1, 3, 4, 6, 0] rfl)
    · replace hf := iff_ h23 hf
      refine lv_lload S.1 S.2.1 dX6_close_213 (lv_at hl 4 rfl) ?_
      refine lv_lconst (v := (0 : Int64)) S.1 S.2.1 dX6_close_215 (by decide) ?_
      refine ll_le (tgt := 302) S dX6_close_216 dX6_close_217 (by decide) (fun h24 => ?_) (fun h24 => ?_)
      · replace hf := ift h24 hf
        refine lv_iconst (v := (0 : Int32)) S.1 S.2.1 dX6_close_302 (by decide) ?_
        refine lv_istore (lv' := [(10, .int (0 : Int32)), (0, .ref (ad 0)), (2, .long v2), (4, .int v4), (5, .int v5), (6, .long v6), (8, .long v8)]) S.1 S.2.1 dX6_close_303 hl (by decide) rfl (fun ls hl => ?_)
        exact L_X6_close_305 l E ad hI N a1  S hr hlk hK hN _ _ N v4 v5 v8 (0 : Int32)  M hf _ _ _ hP hS (lv_sub hl [1, 3, 4, 6, 0] rfl)
      · replace hf := iff_ h24 hf
        refine lv_lload_n S.1 S.2.1 dX6_close_220 rfl (lv_at hl 1 rfl) ?_
        refine lv_aload_n S.1 S.2.1 dX6_close_221 rfl (lv_at hl 0 rfl) ?_
        refine x_get (v := .ref (ad 1)) S hK hP w_lay_X6 (ci := 6) rfl 0 (by decide) m0 0 (by decide) w_fl_X6_7 rfl rfl dX6_close_222 ?_
        refine lv_iload S.1 S.2.1 dX6_close_225 (lv_at hl 6 rfl) ?_
        refine lv_iconst (v := (3 : Int32)) S.1 S.2.1 dX6_close_227 (by decide) ?_
        refine y_Si (As := [.int v10, .int (3 : Int32)]) S hK hN hP hS rfl (K_X6_groupCell l E ad hI _ v10 (3 : Int32)  M _ rfl) (cS 2 S w_co_yX6_groupCell w_in_X6 w_ml_X6_55 w_st_yX6_groupCell hd_X6_groupCell ⟨Nat.le_of_ble_eq_true rfl, Nat.le_of_ble_eq_true rfl⟩) hl.1 rfl rfl (Nat.le_of_ble_eq_true rfl) dX6_close_228 ⟨Nat.zero_le _, Nat.zero_le _⟩ (fun H locs hP hS => ?_)
        obtain ⟨h25, hf⟩ := gd_some hf
        refine x_lald S hK hP 1 (by decide) m1 h25 dX6_close_231 ?_
        refine lv_lmul S.1 S.2.1 dX6_close_232 ?_
        refine lv_lload S.1 S.2.1 dX6_close_233 (lv_at hl 4 rfl) ?_
        refine lv_ldiv S.1 S.2.1 dX6_close_235 (nle_ne h24) ?_
        obtain ⟨x26, ex26, hf⟩ := bnd_some hf
        refine lv_rel ex26 ?_
        refine lv_lstore (lv' := [(11, .long x26), (0, .ref (ad 0)), (2, .long v2), (4, .int v4), (5, .int v5), (6, .long v6), (8, .long v8), (10, .int v10)]) S.1 S.2.1 dX6_close_236 hl (by decide) rfl (fun ls hl => ?_)
        refine lv_iload S.1 S.2.1 dX6_close_238 (lv_at hl 7 rfl) ?_
        refine lv_istore (lv' := [(13, .int v10), (11, .long x26), (0, .ref (ad 0)), (2, .long v2), (4, .int v4), (5, .int v5), (6, .long v6), (8, .long v8), (10, .int v10)]) S.1 S.2.1 dX6_close_240 hl (by decide) rfl (fun ls hl => ?_)
        obtain ⟨x27, gq, hf⟩ := bn1_some hf
        refine L_X6_close_242 l E ad hI N a1  S hr hlk hK hN x27 N v2 v4 v5 v6 v8 v10 x26 v10  M gq _ _ _ hP hS (lv_sub hl [2, 3, 4, 5, 6, 7, 8, 1, 0] rfl) (fun H locs ls hP hS hl => ?_)
        refine lv_iload S.1 S.2.1 dX6_close_267 (lv_at hl 8 rfl) ?_
        refine lv_iload S.1 S.2.1 dX6_close_269 (lv_at hl 2 rfl) ?_
        refine lv_icmp_ne (tgt := 277) S.1 S.2.1 dX6_close_271 (by decide) (fun h28 => ?_) (fun h28 => ?_)
        · replace hf := iff_ h28 hf
          refine lv_aload_n S.1 S.2.1 dX6_close_277 rfl (lv_at hl 0 rfl) ?_
          refine x_get (v := .ref (ad 3)) S hK hP w_lay_X6 (ci := 6) rfl 0 (by decide) m0 3 (by decide) w_fl_X6_16 rfl rfl dX6_close_278 ?_
          refine lv_iload S.1 S.2.1 dX6_close_281 (lv_at hl 8 rfl) ?_
          refine lv_dup2_11 S.1 S.2.1 dX6_close_283 rfl rfl ?_
          obtain ⟨h29, hf⟩ := gd_some hf
          refine x_lald S hK hP 3 (by decide) m3 h29 dX6_close_284 ?_
          refine lv_lload S.1 S.2.1 dX6_close_285 (lv_at hl 7 rfl) ?_
          refine lv_ladd S.1 S.2.1 dX6_close_287 ?_
          refine x_last S hI hK hP hS 3 (by decide) m3 h29 (entM E ad (sL M 3 (ix x27) ((gL M 3 (ix x27)) + x26))) n3 (fun _ h => entM_sL _ h) dX6_close_288 (fun H locs hP hS => ?_)
          obtain ⟨M30, eM30, hf⟩ := bnd_some hf
          rw [← eM30] at hP
          refine lv_lload S.1 S.2.1 dX6_close_289 (lv_at hl 5 rfl) ?_
          refine lv_lload S.1 S.2.1 dX6_close_291 (lv_at hl 7 rfl) ?_
          refine lv_lsub S.1 S.2.1 dX6_close_293 ?_
          obtain ⟨x31, ex31, hf⟩ := bnd_some hf
          refine lv_rel ex31 ?_
          refine lv_lstore (lv' := [(8, .long x31), (0, .ref (ad 0)), (2, .long v2), (4, .int v4), (5, .int v5), (6, .long v6), (10, .int v10), (11, .long x26), (13, .int x27)]) S.1 S.2.1 dX6_close_294 hl (by decide) rfl (fun ls hl => ?_)
          refine lv_iinc (v := v10 + (1 : Int32)) (lv' := [(10, .int (v10 + (1 : Int32))), (8, .long x31), (0, .ref (ad 0)), (2, .long v2), (4, .int v4), (5, .int v5), (6, .long v6), (11, .long x26), (13, .int x27)]) S.1 S.2.1 dX6_close_296 hl (k := 6) rfl rfl (by decide) rfl (fun ls hl => ?_)
          refine lv_goto (tgt := 206) S.1 S.2.1 dX6_close_299 (by decide) ?_
          exact ih v2 v4 v5 v6 x31 (v10 + (1 : Int32))  M30 hf _ _ _ hP hS (lv_sub hl [2, 3, 4, 5, 6, 1, 0] rfl)
        · replace hf := ift h28 hf
          refine lv_goto (tgt := 296) S.1 S.2.1 dX6_close_274 (by decide) ?_
          refine lv_iinc (v := v10 + (1 : Int32)) (lv' := [(10, .int (v10 + (1 : Int32))), (0, .ref (ad 0)), (2, .long v2), (4, .int v4), (5, .int v5), (6, .long v6), (8, .long v8), (11, .long x26), (13, .int x27)]) S.1 S.2.1 dX6_close_296 hl (k := 6) rfl rfl (by decide) rfl (fun ls hl => ?_)
          refine lv_goto (tgt := 206) S.1 S.2.1 dX6_close_299 (by decide) ?_
          exact ih v2 v4 v5 v6 v8 (v10 + (1 : Int32))  M hf _ _ _ hP hS (lv_sub hl [1, 2, 3, 4, 5, 6, 0] rfl)
set_option maxHeartbeats 4000000 in
set_option maxRecDepth 100000 in
theorem L_X6_close_132 (l : Launch) (E : EE) (ad : Nat → Nat) (hI : ad_I ad 7) (N : Nat) (a1 : Int32)  {p : Program} {e : Env} {s : State} {m : MethodId} {below : List Frame} {meth : Method} {c : Code} (S : CallFix p m c cX6_close 14 s [.ref (ad 0), .int a1].toArray bg_B "SurvivorPurseModel") (hr : meth.sig.returnType = (some .long)) (hlk : meth.locks = false) (hK : va_K E.1 vwCl (tysE E) s) (hN : NW s) (r : Int64) (M' : MM) : ∀ (fu : Nat) (v2 : Int64) (v4 : Int32) (v5 : Int32) (v6 : Int64) (v8 : Int32)  (M : MM), F_X6_close_132 N a1 fu v2 v4 v5 v6 v8 M = some (r, M') → ∀ (H : Heap) (locs : List Loc) (ls : Array Slot), va_P E.1 vwCl (mw (entM E ad M) ad 7) H → va_S (AA ad 7 s.heap.size) s.heap H locs → lv_has ls 14 [(0, .ref (ad 0)), (2, .long v2), (4, .int v4), (5, .int v5), (6, .long v6), (8, .int v8)] → W p l e { frames := 4, cells := 0, slots := 0, locals := 89 } s m [.ref (ad 0), .int a1].toArray below meth c H locs 0 0 (MQ below (va_Ql (fun r0 (_ : Unit) => r0 = r) (fun _ t => QB E (entM E ad M') ad 7 t) (AA ad 7 s.heap.size)) [.ref (ad 0), .int a1].toArray s 0 0 (AA ad 7 s.heap.size)) (F0 m 132 ls []) := by
  intro fu
  induction fu with
  | zero =>
    intro v2 v4 v5 v6 v8 M hf
    rw [F_X6_close_132] at hf
    cases hf
  | succ fu ih =>
    intro v2 v4 v5 v6 v8 M hf H locs ls hP hS hl
    rw [F_X6_close_132] at hf
    refine lv_iload S.1 S.2.1 dX6_close_132 (lv_at hl 5 rfl) ?_
    refine lv_iload S.1 S.2.1 dX6_close_134 (lv_at hl 3 rfl) ?_
    refine lv_icmp_ge (tgt := 200) S.1 S.2.1 dX6_close_136 (by decide) (fun h14 => ?_) (fun h14 => ?_)
    · replace hf := ift h14 hf
      refine lv_lload_n S.1 S.2.1 dX6_close_200 rfl (lv_at hl 1 rfl) ?_
      refine lv_lstore (lv' := [(8, .long v2), (0, .ref (ad 0)), (2, .long v2), (4, .int v4), (5, .int v5), (6, .long v6)]) S.1 S.2.1 dX6_close_201 hl (by decide) rfl (fun ls hl => ?_)
      refine lv_iconst (v := (0 : Int32)) S.1 S.2.1 dX6_close_203 (by decide) ?_
      refine lv_istore (lv' := [(10, .int (0 : Int32)), (8, .long v2), (0, .ref (ad 0)), (2, .long v2), (4, .int v4), (5, .int v5), (6, .long v6)]) S.1 S.2.1 dX6_close_204 hl (by decide) rfl (fun ls hl => ?_)
      exact L_X6_close_206 l E ad hI N a1  S hr hlk hK hN _ _ N v2 v4 v5 v6 v2 (0 : Int32)  M hf _ _ _ hP hS (lv_sub hl [2, 3, 4, 5, 6, 1, 0] rfl)
    · replace hf := iff_ h14 hf
      refine lv_aload_n S.1 S.2.1 dX6_close_139 rfl (lv_at hl 0 rfl) ?_
      refine x_get (v := .ref (ad 6)) S hK hP w_lay_X6 (ci := 6) rfl 0 (by decide) m0 6 (by decide) w_fl_X6_25 rfl rfl dX6_close_140 ?_
      refine lv_iload S.1 S.2.1 dX6_close_143 (lv_at hl 5 rfl) ?_
      refine lv_aload_n S.1 S.2.1 dX6_close_145 rfl (lv_at hl 0 rfl) ?_
      refine lv_iload S.1 S.2.1 dX6_close_146 (lv_at hl 5 rfl) ?_
      obtain ⟨x15, gx15, hf⟩ := bn1_some hf
      refine y_Vi (As := [.int v8]) S hK hN hP hS rfl (by decide) m0 rfl (K_X6_stands l E ad hI _ N v8  M x15 gx15) (cV 1 S w_co_yX6_stands w_in_X6 w_ml_X6_117 w_im_yX6_stands w_se_yX6_stands hd_X6_stands ⟨Nat.le_of_ble_eq_true rfl, Nat.le_of_ble_eq_true rfl⟩) hl.1 rfl rfl (Nat.le_of_ble_eq_true rfl) dX6_close_148 ⟨Nat.zero_le _, Nat.zero_le _⟩ (fun H locs hP hS => ?_)
      obtain ⟨h16, hf⟩ := gd_some hf
      refine x_iast S hI hK hP hS 6 (by decide) m6 h16 (entM E ad (sI M 6 (ix v8) x15)) n6 (fun _ h => entM_sI _ h) dX6_close_151 (fun H locs hP hS => ?_)
      obtain ⟨M17, eM17, hf⟩ := bnd_some hf
      rw [← eM17] at hP
      refine lv_aload_n S.1 S.2.1 dX6_close_152 rfl (lv_at hl 0 rfl) ?_
      refine x_get (v := .ref (ad 6)) S hK hP w_lay_X6 (ci := 6) rfl 0 (by decide) m0 6 (by decide) w_fl_X6_25 rfl rfl dX6_close_153 ?_
      refine lv_iload S.1 S.2.1 dX6_close_156 (lv_at hl 5 rfl) ?_
      refine x_iald S hK hP 6 (by decide) m6 h16 dX6_close_158 ?_
      refine lv_iconst (v := (2 : Int32)) S.1 S.2.1 dX6_close_159 (by decide) ?_
      refine lv_icmp_ge (tgt := 194) S.1 S.2.1 dX6_close_160 (by decide) (fun h18 => ?_) (fun h18 => ?_)
      · replace hf := ift h18 hf
        refine lv_iinc (v := v8 + (1 : Int32)) (lv' := [(8, .int (v8 + (1 : Int32))), (0, .ref (ad 0)), (2, .long v2), (4, .int v4), (5, .int v5), (6, .long v6)]) S.1 S.2.1 dX6_close_194 hl (k := 5) rfl rfl (by decide) rfl (fun ls hl => ?_)
        refine lv_goto (tgt := 132) S.1 S.2.1 dX6_close_197 (by decide) ?_
        exact ih v2 v4 v5 v6 (v8 + (1 : Int32))  M17 hf _ _ _ hP hS (lv_sub hl [1, 2, 3, 4, 5, 0] rfl)
      · replace hf := iff_ h18 hf
        refine lv_aload_n S.1 S.2.1 dX6_close_163 rfl (lv_at hl 0 rfl) ?_
        refine x_get (v := .ref (ad 4)) S hK hP w_lay_X6 (ci := 6) rfl 0 (by decide) m0 4 (by decide) w_fl_X6_19 rfl rfl dX6_close_164 ?_
        refine lv_aload_n S.1 S.2.1 dX6_close_167 rfl (lv_at hl 0 rfl) ?_
        refine x_get (v := .ref (ad 1)) S hK hP w_lay_X6 (ci := 6) rfl 0 (by decide) m0 0 (by decide) w_fl_X6_7 rfl rfl dX6_close_168 ?_
        refine lv_iload S.1 S.2.1 dX6_close_171 (lv_at hl 5 rfl) ?_
        refine lv_iconst (v := (4 : Int32)) S.1 S.2.1 dX6_close_173 (by decide) ?_
        refine y_Si (As := [.int v8, .int (4 : Int32)]) S hK hN hP hS rfl (K_X6_part l E ad hI _ v8 (4 : Int32)  M17 _ rfl) (cS 2 S w_co_yX6_part w_in_X6 w_ml_X6_89 w_st_yX6_part hd_X6_part ⟨Nat.le_of_ble_eq_true rfl, Nat.le_of_ble_eq_true rfl⟩) hl.1 rfl rfl (Nat.le_of_ble_eq_true rfl) dX6_close_174 ⟨Nat.zero_le _, Nat.zero_le _⟩ (fun H locs hP hS => ?_)
        obtain ⟨h19, hf⟩ := gd_some hf
        refine x_lald S hK hP 1 (by decide) m1 h19 dX6_close_177 ?_
        refine lv_l2i (v := (gL M17 1 (ix (F_X6_part v8 (4 : Int32)))).toInt32) S.1 S.2.1 dX6_close_178 rfl ?_
        refine lv_dup2_11 S.1 S.2.1 dX6_close_179 rfl rfl ?_
        obtain ⟨h20, hf⟩ := gd_some hf
        refine x_lald S hK hP 4 (by decide) m4 h20 dX6_close_180 ?_
        refine lv_aload_n S.1 S.2.1 dX6_close_181 rfl (lv_at hl 0 rfl) ?_
        refine x_get (v := .ref (ad 1)) S hK hP w_lay_X6 (ci := 6) rfl 0 (by decide) m0 0 (by decide) w_fl_X6_7 rfl rfl dX6_close_182 ?_
        refine lv_iload S.1 S.2.1 dX6_close_185 (lv_at hl 5 rfl) ?_
        refine lv_iconst (v := (3 : Int32)) S.1 S.2.1 dX6_close_187 (by decide) ?_
        refine y_Si (As := [.int v8, .int (3 : Int32)]) S hK hN hP hS rfl (K_X6_part l E ad hI _ v8 (3 : Int32)  M17 _ rfl) (cS 2 S w_co_yX6_part w_in_X6 w_ml_X6_89 w_st_yX6_part hd_X6_part ⟨Nat.le_of_ble_eq_true rfl, Nat.le_of_ble_eq_true rfl⟩) hl.1 rfl rfl (Nat.le_of_ble_eq_true rfl) dX6_close_188 ⟨Nat.zero_le _, Nat.zero_le _⟩ (fun H locs hP hS => ?_)
        obtain ⟨h21, hf⟩ := gd_some hf
        refine x_lald S hK hP 1 (by decide) m1 h21 dX6_close_191 ?_
        refine lv_ladd S.1 S.2.1 dX6_close_192 ?_
        refine x_last S hI hK hP hS 4 (by decide) m4 h20 (entM E ad (sL M17 4 (ix ((gL M17 1 (ix (F_X6_part v8 (4 : Int32)))).toInt32)) ((gL M17 4 (ix ((gL M17 1 (ix (F_X6_part v8 (4 : Int32)))).toInt32))) + (gL M17 1 (ix (F_X6_part v8 (3 : Int32))))))) n4 (fun _ h => entM_sL _ h) dX6_close_193 (fun H locs hP hS => ?_)
        obtain ⟨M22, eM22, hf⟩ := bnd_some hf
        rw [← eM22] at hP
        refine lv_iinc (v := v8 + (1 : Int32)) (lv' := [(8, .int (v8 + (1 : Int32))), (0, .ref (ad 0)), (2, .long v2), (4, .int v4), (5, .int v5), (6, .long v6)]) S.1 S.2.1 dX6_close_194 hl (k := 5) rfl rfl (by decide) rfl (fun ls hl => ?_)
        refine lv_goto (tgt := 132) S.1 S.2.1 dX6_close_197 (by decide) ?_
        exact ih v2 v4 v5 v6 (v8 + (1 : Int32))  M22 hf _ _ _ hP hS (lv_sub hl [1, 2, 3, 4, 5, 0] rfl)
set_option maxHeartbeats 4000000 in
set_option maxRecDepth 100000 in
theorem L_X6_close_84 (l : Launch) (E : EE) (ad : Nat → Nat) (hI : ad_I ad 7) (N : Nat) (a1 : Int32)  {p : Program} {e : Env} {s : State} {m : MethodId} {below : List Frame} {meth : Method} {c : Code} (S : CallFix p m c cX6_close 14 s [.ref (ad 0), .int a1].toArray bg_B "SurvivorPurseModel") (hr : meth.sig.returnType = (some .long)) (hlk : meth.locks = false) (hK : va_K E.1 vwCl (tysE E) s) (hN : NW s) (r : Int64) (M' : MM) : ∀ (fu : Nat) (v2 : Int64) (v4 : Int32) (v5 : Int32) (v6 : Int64) (v8 : Int32)  (M : MM), F_X6_close_84 N a1 fu v2 v4 v5 v6 v8 M = some (r, M') → ∀ (H : Heap) (locs : List Loc) (ls : Array Slot), va_P E.1 vwCl (mw (entM E ad M) ad 7) H → va_S (AA ad 7 s.heap.size) s.heap H locs → lv_has ls 14 [(0, .ref (ad 0)), (2, .long v2), (4, .int v4), (5, .int v5), (6, .long v6), (8, .int v8)] → W p l e { frames := 4, cells := 0, slots := 0, locals := 89 } s m [.ref (ad 0), .int a1].toArray below meth c H locs 0 0 (MQ below (va_Ql (fun r0 (_ : Unit) => r0 = r) (fun _ t => QB E (entM E ad M') ad 7 t) (AA ad 7 s.heap.size)) [.ref (ad 0), .int a1].toArray s 0 0 (AA ad 7 s.heap.size)) (F0 m 84 ls []) := by
  intro fu
  induction fu with
  | zero =>
    intro v2 v4 v5 v6 v8 M hf
    rw [F_X6_close_84] at hf
    cases hf
  | succ fu ih =>
    intro v2 v4 v5 v6 v8 M hf H locs ls hP hS hl
    rw [F_X6_close_84] at hf
    refine lv_iload S.1 S.2.1 dX6_close_84 (lv_at hl 5 rfl) ?_
    refine lv_iload S.1 S.2.1 dX6_close_86 (lv_at hl 2 rfl) ?_
    refine lv_icmp_ge (tgt := 129) S.1 S.2.1 dX6_close_88 (by decide) (fun h7 => ?_) (fun h7 => ?_)
    · replace hf := ift h7 hf
      refine lv_iconst (v := (0 : Int32)) S.1 S.2.1 dX6_close_129 (by decide) ?_
      refine lv_istore (lv' := [(8, .int (0 : Int32)), (0, .ref (ad 0)), (2, .long v2), (4, .int v4), (5, .int v5), (6, .long v6)]) S.1 S.2.1 dX6_close_130 hl (by decide) rfl (fun ls hl => ?_)
      exact L_X6_close_132 l E ad hI N a1  S hr hlk hK hN _ _ N v2 v4 v5 v6 (0 : Int32)  M hf _ _ _ hP hS (lv_sub hl [1, 2, 3, 4, 5, 0] rfl)
    · replace hf := iff_ h7 hf
      refine lv_lload S.1 S.2.1 dX6_close_91 (lv_at hl 4 rfl) ?_
      refine lv_aload_n S.1 S.2.1 dX6_close_93 rfl (lv_at hl 0 rfl) ?_
      refine x_get (v := .ref (ad 1)) S hK hP w_lay_X6 (ci := 6) rfl 0 (by decide) m0 0 (by decide) w_fl_X6_7 rfl rfl dX6_close_94 ?_
      refine lv_iload S.1 S.2.1 dX6_close_97 (lv_at hl 5 rfl) ?_
      refine lv_iconst (v := (3 : Int32)) S.1 S.2.1 dX6_close_99 (by decide) ?_
      refine y_Si (As := [.int v8, .int (3 : Int32)]) S hK hN hP hS rfl (K_X6_groupCell l E ad hI _ v8 (3 : Int32)  M _ rfl) (cS 2 S w_co_yX6_groupCell w_in_X6 w_ml_X6_55 w_st_yX6_groupCell hd_X6_groupCell ⟨Nat.le_of_ble_eq_true rfl, Nat.le_of_ble_eq_true rfl⟩) hl.1 rfl rfl (Nat.le_of_ble_eq_true rfl) dX6_close_100 ⟨Nat.zero_le _, Nat.zero_le _⟩ (fun H locs hP hS => ?_)
      obtain ⟨h8, hf⟩ := gd_some hf
      refine x_lald S hK hP 1 (by decide) m1 h8 dX6_close_103 ?_
      refine lv_ladd S.1 S.2.1 dX6_close_104 ?_
      obtain ⟨x9, ex9, hf⟩ := bnd_some hf
      refine lv_rel ex9 ?_
      refine lv_lstore (lv' := [(6, .long x9), (0, .ref (ad 0)), (2, .long v2), (4, .int v4), (5, .int v5), (8, .int v8)]) S.1 S.2.1 dX6_close_105 hl (by decide) rfl (fun ls hl => ?_)
      refine lv_aload_n S.1 S.2.1 dX6_close_107 rfl (lv_at hl 1 rfl) ?_
      refine x_get (v := .ref (ad 4)) S hK hP w_lay_X6 (ci := 6) rfl 0 (by decide) m0 4 (by decide) w_fl_X6_19 rfl rfl dX6_close_108 ?_
      refine lv_iload S.1 S.2.1 dX6_close_111 (lv_at hl 5 rfl) ?_
      refine lv_lconst (v := (0 : Int64)) S.1 S.2.1 dX6_close_113 (by decide) ?_
      obtain ⟨h10, hf⟩ := gd_some hf
      refine x_last S hI hK hP hS 4 (by decide) m4 h10 (entM E ad (sL M 4 (ix v8) (0 : Int64))) n4 (fun _ h => entM_sL _ h) dX6_close_114 (fun H locs hP hS => ?_)
      obtain ⟨M11, eM11, hf⟩ := bnd_some hf
      rw [← eM11] at hP
      refine lv_aload_n S.1 S.2.1 dX6_close_115 rfl (lv_at hl 1 rfl) ?_
      refine x_get (v := .ref (ad 3)) S hK hP w_lay_X6 (ci := 6) rfl 0 (by decide) m0 3 (by decide) w_fl_X6_16 rfl rfl dX6_close_116 ?_
      refine lv_iload S.1 S.2.1 dX6_close_119 (lv_at hl 5 rfl) ?_
      refine lv_lconst (v := (0 : Int64)) S.1 S.2.1 dX6_close_121 (by decide) ?_
      obtain ⟨h12, hf⟩ := gd_some hf
      refine x_last S hI hK hP hS 3 (by decide) m3 h12 (entM E ad (sL M11 3 (ix v8) (0 : Int64))) n3 (fun _ h => entM_sL _ h) dX6_close_122 (fun H locs hP hS => ?_)
      obtain ⟨M13, eM13, hf⟩ := bnd_some hf
      rw [← eM13] at hP
      refine lv_iinc (v := v8 + (1 : Int32)) (lv' := [(8, .int (v8 + (1 : Int32))), (6, .long x9), (0, .ref (ad 0)), (2, .long v2), (4, .int v4), (5, .int v5)]) S.1 S.2.1 dX6_close_123 hl (k := 5) rfl rfl (by decide) rfl (fun ls hl => ?_)
      refine lv_goto (tgt := 84) S.1 S.2.1 dX6_close_126 (by decide) ?_
      exact ih v2 v4 v5 x9 (v8 + (1 : Int32))  M13 hf _ _ _ hP hS (lv_sub hl [2, 3, 4, 5, 1, 0] rfl)
set_option maxHeartbeats 4000000 in
set_option maxRecDepth 100000 in
theorem K_X6_close (l : Launch) (E : EE) (ad : Nat → Nat) (hI : ad_I ad 7) (sz : Nat) (N : Nat) (a1 : Int32)  (M : MM) (r : Int64) (M' : MM) (hf : F_X6_close N a1 M = some (r, M')) : CtL l yX6_close cX6_close 14 4 89 E (entM E ad M) (entM E ad M') ad 7 sz [.ref (ad 0), .int a1] (r) := by
  unfold CtL
  refine body_of (by decide) "SurvivorPurseModel" rfl (Nat.le_of_ble_eq_true rfl) ?_
  intro p e s m below meth c hsz S hr hlk hP hK hN ls hl
  subst hsz
  have hS : va_S (AA ad 7 s.heap.size) s.heap s.heap [] := va_S.rf
  have hl : lv_has ls 14 [(0, .ref (ad 0)), (1, .int a1)] := hl
  rw [F_X6_close] at hf
  refine lv_iload_n S.1 S.2.1 dX6_close_0 rfl (lv_at hl 1 rfl) ?_
  refine lv_i2l (v := a1.toInt64) S.1 S.2.1 dX6_close_1 rfl ?_
  refine lv_lconst (v := (0 : Int64)) S.1 S.2.1 dX6_close_2 (by decide) ?_
  refine lv_ldc2 (own := "SurvivorPurseModel") (v := (100000000 : Int64)) S.1 S.2.1 S.2.2.2.1 (S.2.2.2.2 _ w_kl_X6_128) dX6_close_3 ?_
  refine y_Si (As := [.long a1.toInt64, .long (0 : Int64), .long (100000000 : Int64)]) S hK hN hP hS rfl (K_X6_in l E ad hI _ a1.toInt64 (0 : Int64) (100000000 : Int64)  M _ rfl) (cS 3 S w_co_yX6_in w_in_X6 w_ml_X6_35 w_st_yX6_in hd_X6_in ⟨Nat.le_of_ble_eq_true rfl, Nat.le_of_ble_eq_true rfl⟩) hl.1 rfl rfl (Nat.le_of_ble_eq_true rfl) dX6_close_6 ⟨Nat.zero_le _, Nat.zero_le _⟩ (fun H locs hP hS => ?_)
  refine lv_if_eq (tgt := 27) S.1 S.2.1 dX6_close_9 (by decide) (fun h1 => ?_) (fun h1 => ?_)
  · replace hf := ift h1 hf
    refine lv_ldc2 (own := "SurvivorPurseModel") (v := (-1000000000000000 : Int64)) S.1 S.2.1 S.2.2.2.1 (S.2.2.2.2 _ w_kl_X6_41) dX6_close_27 ?_
    cases hf
    exact r_l S hr hlk hP hS dX6_close_30
  · replace hf := iff_ h1 hf
    refine lv_aload_n S.1 S.2.1 dX6_close_12 rfl (lv_at hl 0 rfl) ?_
    refine x_get (v := .ref (ad 1)) S hK hP w_lay_X6 (ci := 6) rfl 0 (by decide) m0 0 (by decide) w_fl_X6_7 rfl rfl dX6_close_13 ?_
    refine lv_sipush (v := (5663 : Int32)) S.1 S.2.1 dX6_close_16 (by decide) ?_
    refine x_laldc (j := 5663) S hK hP 1 (by decide) m1 (by decide) (by decide) dX6_close_19 ?_
    refine lv_ldc2 (own := "SurvivorPurseModel") (v := (60 : Int64)) S.1 S.2.1 S.2.2.2.1 (S.2.2.2.2 _ w_kl_X6_130) dX6_close_20 ?_
    refine ll_ne (tgt := 31) S dX6_close_23 dX6_close_24 (by decide) (fun h2 => ?_) (fun h2 => ?_)
    · replace hf := iff_ h2 hf
      refine lv_aload_n S.1 S.2.1 dX6_close_31 rfl (lv_at hl 0 rfl) ?_
      refine x_get (v := .ref (ad 1)) S hK hP w_lay_X6 (ci := 6) rfl 0 (by decide) m0 0 (by decide) w_fl_X6_7 rfl rfl dX6_close_32 ?_
      refine lv_sipush (v := (5664 : Int32)) S.1 S.2.1 dX6_close_35 (by decide) ?_
      refine x_laldc (j := 5664) S hK hP 1 (by decide) m1 (by decide) (by decide) dX6_close_38 ?_
      refine lv_iload_n S.1 S.2.1 dX6_close_39 rfl (lv_at hl 1 rfl) ?_
      refine lv_i2l (v := a1.toInt64) S.1 S.2.1 dX6_close_40 rfl ?_
      refine lv_ladd S.1 S.2.1 dX6_close_41 ?_
      obtain ⟨x3, ex3, hf⟩ := bnd_some hf
      refine lv_rel ex3 ?_
      refine lv_lstore_n (lv' := [(2, .long x3), (0, .ref (ad 0)), (1, .int a1)]) S.1 S.2.1 dX6_close_42 rfl hl (by decide) rfl (fun ls hl => ?_)
      refine lv_aload_n S.1 S.2.1 dX6_close_43 rfl (lv_at hl 1 rfl) ?_
      refine x_get (v := .ref (ad 1)) S hK hP w_lay_X6 (ci := 6) rfl 0 (by decide) m0 0 (by decide) w_fl_X6_7 rfl rfl dX6_close_44 ?_
      refine lv_sipush (v := (5671 : Int32)) S.1 S.2.1 dX6_close_47 (by decide) ?_
      refine lv_dup2_11 S.1 S.2.1 dX6_close_50 rfl rfl ?_
      refine x_laldc (j := 5671) S hK hP 1 (by decide) m1 (by decide) (by decide) dX6_close_51 ?_
      refine lv_iload_n S.1 S.2.1 dX6_close_52 rfl (lv_at hl 2 rfl) ?_
      refine lv_i2l (v := a1.toInt64) S.1 S.2.1 dX6_close_53 rfl ?_
      refine lv_ladd S.1 S.2.1 dX6_close_54 ?_
      refine x_lastc (j := 5671) S hI hK hP hS 1 (by decide) m1 (by decide) (by decide) (entM E ad (sL M 1 5671 ((gL M 1 5671) + a1.toInt64))) n1 (fun _ h => entM_sL _ h) dX6_close_55 (fun H locs hP hS => ?_)
      obtain ⟨M4, eM4, hf⟩ := bnd_some hf
      rw [← eM4] at hP
      refine lv_aload_n S.1 S.2.1 dX6_close_56 rfl (lv_at hl 1 rfl) ?_
      refine x_get (v := .ref (ad 1)) S hK hP w_lay_X6 (ci := 6) rfl 0 (by decide) m0 0 (by decide) w_fl_X6_7 rfl rfl dX6_close_57 ?_
      refine lv_sipush (v := (5669 : Int32)) S.1 S.2.1 dX6_close_60 (by decide) ?_
      refine x_laldc (j := 5669) S hK hP 1 (by decide) m1 (by decide) (by decide) dX6_close_63 ?_
      refine lv_l2i (v := (gL M4 1 5669).toInt32) S.1 S.2.1 dX6_close_64 rfl ?_
      obtain ⟨x5, ex5, hf⟩ := bnd_some hf
      refine lv_rei ex5 ?_
      refine lv_istore (lv' := [(4, .int x5), (2, .long x3), (0, .ref (ad 0)), (1, .int a1)]) S.1 S.2.1 dX6_close_65 hl (by decide) rfl (fun ls hl => ?_)
      refine lv_aload_n S.1 S.2.1 dX6_close_67 rfl (lv_at hl 2 rfl) ?_
      refine x_get (v := .ref (ad 1)) S hK hP w_lay_X6 (ci := 6) rfl 0 (by decide) m0 0 (by decide) w_fl_X6_7 rfl rfl dX6_close_68 ?_
      refine lv_sipush (v := (5670 : Int32)) S.1 S.2.1 dX6_close_71 (by decide) ?_
      refine x_laldc (j := 5670) S hK hP 1 (by decide) m1 (by decide) (by decide) dX6_close_74 ?_
      refine lv_l2i (v := (gL M4 1 5670).toInt32) S.1 S.2.1 dX6_close_75 rfl ?_
      obtain ⟨x6, ex6, hf⟩ := bnd_some hf
      refine lv_rei ex6 ?_
      refine lv_istore (lv' := [(5, .int x6), (4, .int x5), (2, .long x3), (0, .ref (ad 0)), (1, .int a1)]) S.1 S.2.1 dX6_close_76 hl (by decide) rfl (fun ls hl => ?_)
      refine lv_lconst (v := (0 : Int64)) S.1 S.2.1 dX6_close_78 (by decide) ?_
      refine lv_lstore (lv' := [(6, .long (0 : Int64)), (5, .int x6), (4, .int x5), (2, .long x3), (0, .ref (ad 0)), (1, .int a1)]) S.1 S.2.1 dX6_close_79 hl (by decide) rfl (fun ls hl => ?_)
      refine lv_iconst (v := (0 : Int32)) S.1 S.2.1 dX6_close_81 (by decide) ?_
      refine lv_istore (lv' := [(8, .int (0 : Int32)), (6, .long (0 : Int64)), (5, .int x6), (4, .int x5), (2, .long x3), (0, .ref (ad 0)), (1, .int a1)]) S.1 S.2.1 dX6_close_82 hl (by decide) rfl (fun ls hl => ?_)
      exact L_X6_close_84 l E ad hI N a1  S hr hlk hK hN _ _ N x3 x5 x6 (0 : Int64) (0 : Int32)  M4 hf _ _ _ hP hS (lv_sub hl [5, 4, 3, 2, 1, 0] rfl)
    · replace hf := ift h2 hf
      refine lv_ldc2 (own := "SurvivorPurseModel") (v := (-1000000000000000 : Int64)) S.1 S.2.1 S.2.2.2.1 (S.2.2.2.2 _ w_kl_X6_41) dX6_close_27 ?_
      cases hf
      exact r_l S hr hlk hP hS dX6_close_30

section
-- ===== PART A: goes FIRST, ahead of the names: the tables' words, and 'selects' of the private methods out of them =====
/-- a private method of a class that the tables say can be made, by its rows of tables_1 -/
def lw_okq (q : MethodName × Nat) : Prop := (q.1.cls ≠ "java/lang/invoke/MethodHandle" ∧ q.1.cls ≠ "java/lang/invoke/VarHandle") ∧ Cond.instantiable q.1.cls q.2 ∈ tables_1 ∧ Cond.privateMethod q.1 ∈ tables_1 ∧ Cond.instanceMethod q.1 ∈ tables_1
theorem lw_p0 : lw_okq (⟨"SurvivorPurseModel", "later", "(I)J"⟩, 7) := ⟨⟨by decide +kernel, by decide +kernel⟩, List.mem_of_getElem? (i := 609) (by decide +kernel), List.mem_of_getElem? (i := 659) (by decide +kernel), List.mem_of_getElem? (i := 660) (by decide +kernel)⟩
theorem lw_p1 : lw_okq (⟨"SurvivorPurseModel", "isClass", "(I)Z"⟩, 7) := ⟨⟨by decide +kernel, by decide +kernel⟩, List.mem_of_getElem? (i := 609) (by decide +kernel), List.mem_of_getElem? (i := 667) (by decide +kernel), List.mem_of_getElem? (i := 668) (by decide +kernel)⟩
theorem lw_p2 : lw_okq (⟨"SurvivorPurseModel", "isMember", "(I)Z"⟩, 7) := ⟨⟨by decide +kernel, by decide +kernel⟩, List.mem_of_getElem? (i := 609) (by decide +kernel), List.mem_of_getElem? (i := 687) (by decide +kernel), List.mem_of_getElem? (i := 688) (by decide +kernel)⟩
theorem lw_p3 : lw_okq (⟨"SurvivorPurseModel", "isDead", "(J)Z"⟩, 7) := ⟨⟨by decide +kernel, by decide +kernel⟩, List.mem_of_getElem? (i := 609) (by decide +kernel), List.mem_of_getElem? (i := 706) (by decide +kernel), List.mem_of_getElem? (i := 707) (by decide +kernel)⟩
theorem lw_p4 : lw_okq (⟨"SurvivorPurseModel", "classFor", "(J)I"⟩, 7) := ⟨⟨by decide +kernel, by decide +kernel⟩, List.mem_of_getElem? (i := 609) (by decide +kernel), List.mem_of_getElem? (i := 712) (by decide +kernel), List.mem_of_getElem? (i := 713) (by decide +kernel)⟩
theorem lw_p5 : lw_okq (⟨"SurvivorPurseModel", "isShare", "(I)Z"⟩, 7) := ⟨⟨by decide +kernel, by decide +kernel⟩, List.mem_of_getElem? (i := 609) (by decide +kernel), List.mem_of_getElem? (i := 724) (by decide +kernel), List.mem_of_getElem? (i := 725) (by decide +kernel)⟩
theorem lw_p6 : lw_okq (⟨"SurvivorPurseModel", "parts", "(IIJJ)V"⟩, 7) := ⟨⟨by decide +kernel, by decide +kernel⟩, List.mem_of_getElem? (i := 609) (by decide +kernel), List.mem_of_getElem? (i := 732) (by decide +kernel), List.mem_of_getElem? (i := 733) (by decide +kernel)⟩
theorem lw_p7 : lw_okq (⟨"SurvivorPurseModel", "heldBy", "(I)J"⟩, 7) := ⟨⟨by decide +kernel, by decide +kernel⟩, List.mem_of_getElem? (i := 609) (by decide +kernel), List.mem_of_getElem? (i := 746) (by decide +kernel), List.mem_of_getElem? (i := 747) (by decide +kernel)⟩
theorem lw_p8 : lw_okq (⟨"SurvivorPurseModel", "stands", "(I)I"⟩, 7) := ⟨⟨by decide +kernel, by decide +kernel⟩, List.mem_of_getElem? (i := 609) (by decide +kernel), List.mem_of_getElem? (i := 750) (by decide +kernel), List.mem_of_getElem? (i := 751) (by decide +kernel)⟩
theorem lw_p9 : lw_okq (⟨"SurvivorPurseModel", "hasLife", "(II)Z"⟩, 7) := ⟨⟨by decide +kernel, by decide +kernel⟩, List.mem_of_getElem? (i := 609) (by decide +kernel), List.mem_of_getElem? (i := 754) (by decide +kernel), List.mem_of_getElem? (i := 755) (by decide +kernel)⟩
theorem lw_p10 : lw_okq (⟨"SurvivorPurseModel", "isSure", "(IJ)Z"⟩, 7) := ⟨⟨by decide +kernel, by decide +kernel⟩, List.mem_of_getElem? (i := 609) (by decide +kernel), List.mem_of_getElem? (i := 758) (by decide +kernel), List.mem_of_getElem? (i := 759) (by decide +kernel)⟩
theorem lw_p11 : lw_okq (⟨"SurvivorPurseModel", "areDead", "(I)Z"⟩, 7) := ⟨⟨by decide +kernel, by decide +kernel⟩, List.mem_of_getElem? (i := 609) (by decide +kernel), List.mem_of_getElem? (i := 762) (by decide +kernel), List.mem_of_getElem? (i := 763) (by decide +kernel)⟩
theorem lw_p12 : lw_okq (⟨"SurvivorPurseModel", "pays", "(IJ)V"⟩, 7) := ⟨⟨by decide +kernel, by decide +kernel⟩, List.mem_of_getElem? (i := 609) (by decide +kernel), List.mem_of_getElem? (i := 774) (by decide +kernel), List.mem_of_getElem? (i := 775) (by decide +kernel)⟩
theorem lw_p13 : lw_okq (⟨"SurvivorPurseModel", "ends", "(I)J"⟩, 7) := ⟨⟨by decide +kernel, by decide +kernel⟩, List.mem_of_getElem? (i := 609) (by decide +kernel), List.mem_of_getElem? (i := 782) (by decide +kernel), List.mem_of_getElem? (i := 783) (by decide +kernel)⟩
theorem lw_p14 : lw_okq (⟨"SurvivorPurseModel", "backGoes", "(I)V"⟩, 7) := ⟨⟨by decide +kernel, by decide +kernel⟩, List.mem_of_getElem? (i := 609) (by decide +kernel), List.mem_of_getElem? (i := 792) (by decide +kernel), List.mem_of_getElem? (i := 793) (by decide +kernel)⟩
def lw_privs_1 : List (MethodName × Nat) := [(⟨"SurvivorPurseModel", "later", "(I)J"⟩, 7), (⟨"SurvivorPurseModel", "isClass", "(I)Z"⟩, 7), (⟨"SurvivorPurseModel", "isMember", "(I)Z"⟩, 7), (⟨"SurvivorPurseModel", "isDead", "(J)Z"⟩, 7), (⟨"SurvivorPurseModel", "classFor", "(J)I"⟩, 7), (⟨"SurvivorPurseModel", "isShare", "(I)Z"⟩, 7), (⟨"SurvivorPurseModel", "parts", "(IIJJ)V"⟩, 7), (⟨"SurvivorPurseModel", "heldBy", "(I)J"⟩, 7), (⟨"SurvivorPurseModel", "stands", "(I)I"⟩, 7), (⟨"SurvivorPurseModel", "hasLife", "(II)Z"⟩, 7), (⟨"SurvivorPurseModel", "isSure", "(IJ)Z"⟩, 7), (⟨"SurvivorPurseModel", "areDead", "(I)Z"⟩, 7), (⟨"SurvivorPurseModel", "pays", "(IJ)V"⟩, 7), (⟨"SurvivorPurseModel", "ends", "(I)J"⟩, 7), (⟨"SurvivorPurseModel", "backGoes", "(I)V"⟩, 7)]
theorem lw_r1 : ∀ q ∈ lw_privs_1, lw_okq q := List.forall_mem_cons.mpr ⟨lw_p0, List.forall_mem_cons.mpr ⟨lw_p1, List.forall_mem_cons.mpr ⟨lw_p2, List.forall_mem_cons.mpr ⟨lw_p3, List.forall_mem_cons.mpr ⟨lw_p4, List.forall_mem_cons.mpr ⟨lw_p5, List.forall_mem_cons.mpr ⟨lw_p6, List.forall_mem_cons.mpr ⟨lw_p7, List.forall_mem_cons.mpr ⟨lw_p8, List.forall_mem_cons.mpr ⟨lw_p9, List.forall_mem_cons.mpr ⟨lw_p10, List.forall_mem_cons.mpr ⟨lw_p11, List.forall_mem_cons.mpr ⟨lw_p12, List.forall_mem_cons.mpr ⟨lw_p13, List.forall_mem_cons.mpr ⟨lw_p14, fun _ h => absurd h List.not_mem_nil⟩⟩⟩⟩⟩⟩⟩⟩⟩⟩⟩⟩⟩⟩⟩
def lw_privs : List (MethodName × Nat) := lw_privs_1
def lw_tbl : List Cond := k2_sels lw_privs ++ tables_1
theorem lw_privs_ok : ∀ q ∈ lw_privs, lw_okq q := lw_r1
end
section
def RX0 : String := "SurvivorPurse$Book"
def TX0 : u_T := fun k => match k with
  | 0 => ("SurvivorPurse$Book", "table", "LSurvivorPurse$Table;", true)
  | 1 => ("SurvivorPurse$Book", "members", "[LSurvivorPurse$Member;", true)
  | 2 => ("SurvivorPurse$Book", "ranks", "[LSurvivorPurse$Rank;", true)
  | 3 => ("SurvivorPurse$Book", "shares", "[LSurvivorPurse$Share;", true)
  | 4 => ("SurvivorPurse$Book", "memberCount", "I", false)
  | 5 => ("SurvivorPurse$Book", "rankCount", "I", false)
  | 6 => ("SurvivorPurse$Book", "shareCount", "I", false)
  | 7 => ("SurvivorPurse$Book", "year", "I", false)
  | 8 => ("SurvivorPurse$Book", "patience", "I", false)
  | 9 => ("SurvivorPurse$Book", "tax", "I", false)
  | 10 => ("SurvivorPurse$Book", "carry", "J", false)
  | 11 => ("SurvivorPurse$Book", "taxes", "J", false)
  | _ => ("SurvivorPurse$Book", "cameIn", "J", false)
def tyX0 : Nat → FieldType := fun k => match k with
  | 0 => .object "SurvivorPurse$Table"
  | 1 => .array (.object "SurvivorPurse$Member")
  | 2 => .array (.object "SurvivorPurse$Rank")
  | 3 => .array (.object "SurvivorPurse$Share")
  | 4 => .int
  | 5 => .int
  | 6 => .int
  | 7 => .int
  | 8 => .int
  | 9 => .int
  | 10 => .long
  | 11 => .long
  | _ => .long
abbrev wsX00 : List Cond := u_ws RX0 TX0 13
theorem nmX0 : ∀ a, a < 13 → ∀ b, b < 13 → a ≠ b → (TX0 a).2.1 ≠ (TX0 b).2.1 := by decide +kernel
theorem tyX0_ok : ∀ k, k < 13 → parseFieldDescriptor (TX0 k).2.2.1 = some (tyX0 k) := by decide +kernel
abbrev cX0_init : ByteArray := prog_2_method_1_code
def yX0_init : MethodName := ⟨RX0, "<init>", "()V"⟩
abbrev cX0_copyFrom : ByteArray := prog_2_method_2_code
def yX0_copyFrom : MethodName := ⟨RX0, "copyFrom", "(LSurvivorPurse$Book;)V"⟩
abbrev cX0_isMember : ByteArray := prog_2_method_3_code
def yX0_isMember : MethodName := ⟨RX0, "isMember", "(I)Z"⟩
abbrev cX0_isRank : ByteArray := prog_2_method_4_code
def yX0_isRank : MethodName := ⟨RX0, "isRank", "(I)Z"⟩
abbrev cX0_isShare : ByteArray := prog_2_method_5_code
def yX0_isShare : MethodName := ⟨RX0, "isShare", "(I)Z"⟩
abbrev cX0_addMember : ByteArray := prog_2_method_6_code
def yX0_addMember : MethodName := ⟨RX0, "addMember", "(I)I"⟩
abbrev cX0_addRank : ByteArray := prog_2_method_7_code
def yX0_addRank : MethodName := ⟨RX0, "addRank", "(III)I"⟩
abbrev cX0_addShare : ByteArray := prog_2_method_8_code
def yX0_addShare : MethodName := ⟨RX0, "addShare", "(IIIII)I"⟩
abbrev cX0_addPart : ByteArray := prog_2_method_9_code
def yX0_addPart : MethodName := ⟨RX0, "addPart", "(LSurvivorPurse$Share;I)I"⟩
abbrev cX0_canBeLives : ByteArray := prog_2_method_10_code
def yX0_canBeLives : MethodName := ⟨RX0, "canBeLives", "(IIZ)Z"⟩
abbrev cX0_rankFor : ByteArray := prog_2_method_11_code
def yX0_rankFor : MethodName := ⟨RX0, "rankFor", "(II)I"⟩
abbrev cX0_isProved : ByteArray := prog_2_method_12_code
def yX0_isProved : MethodName := ⟨RX0, "isProved", "(I)Z"⟩
abbrev cX0_isDead : ByteArray := prog_2_method_13_code
def yX0_isDead : MethodName := ⟨RX0, "isDead", "(I)Z"⟩
abbrev cX0_isAllDead : ByteArray := prog_2_method_14_code
def yX0_isAllDead : MethodName := ⟨RX0, "isAllDead", "(LSurvivorPurse$Share;)Z"⟩
abbrev cX0_howItIs : ByteArray := prog_2_method_15_code
def yX0_howItIs : MethodName := ⟨RX0, "howItIs", "(LSurvivorPurse$Share;)I"⟩
abbrev cX0_isDrawing : ByteArray := prog_2_method_16_code
def yX0_isDrawing : MethodName := ⟨RX0, "isDrawing", "(LSurvivorPurse$Share;)Z"⟩
abbrev cX0_endOf : ByteArray := prog_2_method_17_code
def yX0_endOf : MethodName := ⟨RX0, "endOf", "(LSurvivorPurse$Share;)I"⟩
abbrev cX0_payOut : ByteArray := prog_2_method_18_code
def yX0_payOut : MethodName := ⟨RX0, "payOut", "(LSurvivorPurse$Share;J)V"⟩
abbrev cX0_payHeld : ByteArray := prog_2_method_19_code
def yX0_payHeld : MethodName := ⟨RX0, "payHeld", "(LSurvivorPurse$Share;)J"⟩
abbrev cX0_prove : ByteArray := prog_2_method_20_code
def yX0_prove : MethodName := ⟨RX0, "prove", "(I)J"⟩
abbrev cX0_learnDeath : ByteArray := prog_2_method_21_code
def yX0_learnDeath : MethodName := ⟨RX0, "learnDeath", "(II)J"⟩
abbrev cX0_settle : ByteArray := prog_2_method_22_code
def yX0_settle : MethodName := ⟨RX0, "settle", "(LSurvivorPurse$Share;)J"⟩
abbrev cX0_partPot : ByteArray := prog_2_method_23_code
def yX0_partPot : MethodName := ⟨RX0, "partPot", "(I)V"⟩
abbrev cX0_drawAll : ByteArray := prog_2_method_24_code
def yX0_drawAll : MethodName := ⟨RX0, "drawAll", "()J"⟩
abbrev cX0_draw : ByteArray := prog_2_method_25_code
def yX0_draw : MethodName := ⟨RX0, "draw", "(LSurvivorPurse$Share;Z)J"⟩
abbrev cX0_beginNextYear : ByteArray := prog_2_method_26_code
def yX0_beginNextYear : MethodName := ⟨RX0, "beginNextYear", "()V"⟩
abbrev cX0_giveBack : ByteArray := prog_2_method_27_code
def yX0_giveBack : MethodName := ⟨RX0, "giveBack", "()V"⟩
abbrev cX0_giveBackOf : ByteArray := prog_2_method_28_code
def yX0_giveBackOf : MethodName := ⟨RX0, "giveBackOf", "(LSurvivorPurse$Share;)V"⟩
abbrev cX0_drawingUnits : ByteArray := prog_2_method_29_code
def yX0_drawingUnits : MethodName := ⟨RX0, "drawingUnits", "(I)J"⟩
abbrev cX0_sharesIn : ByteArray := prog_2_method_30_code
def yX0_sharesIn : MethodName := ⟨RX0, "sharesIn", "(I)J"⟩
abbrev cX0_allHeld : ByteArray := prog_2_method_31_code
def yX0_allHeld : MethodName := ⟨RX0, "allHeld", "()J"⟩
abbrev cX0_allPurses : ByteArray := prog_2_method_32_code
def yX0_allPurses : MethodName := ⟨RX0, "allPurses", "()J"⟩
abbrev cX0_allStocks : ByteArray := prog_2_method_33_code
def yX0_allStocks : MethodName := ⟨RX0, "allStocks", "()J"⟩
abbrev cX0_allDebts : ByteArray := prog_2_method_34_code
def yX0_allDebts : MethodName := ⟨RX0, "allDebts", "()J"⟩
def RX1 : String := "SurvivorPurse$Member"
def TX1 : u_T := fun k => match k with
  | 0 => ("SurvivorPurse$Member", "birth", "I", false)
  | 1 => ("SurvivorPurse$Member", "purse", "J", false)
  | 2 => ("SurvivorPurse$Member", "debt", "J", false)
  | 3 => ("SurvivorPurse$Member", "heirNumber", "I", false)
  | 4 => ("SurvivorPurse$Member", "proved", "Z", false)
  | 5 => ("SurvivorPurse$Member", "dead", "Z", false)
  | _ => ("SurvivorPurse$Member", "died", "I", false)
def tyX1 : Nat → FieldType := fun k => match k with
  | 0 => .int
  | 1 => .long
  | 2 => .long
  | 3 => .int
  | 4 => .boolean
  | 5 => .boolean
  | _ => .int
abbrev wsX10 : List Cond := u_ws RX1 TX1 7
theorem nmX1 : ∀ a, a < 7 → ∀ b, b < 7 → a ≠ b → (TX1 a).2.1 ≠ (TX1 b).2.1 := by decide +kernel
theorem tyX1_ok : ∀ k, k < 7 → parseFieldDescriptor (TX1 k).2.2.1 = some (tyX1 k) := by decide +kernel
abbrev cX1_init : ByteArray := prog_3_method_1_code
def yX1_init : MethodName := ⟨RX1, "<init>", "()V"⟩
abbrev cX1_begin : ByteArray := prog_3_method_2_code
def yX1_begin : MethodName := ⟨RX1, "begin", "(I)V"⟩
abbrev cX1_copyFrom : ByteArray := prog_3_method_3_code
def yX1_copyFrom : MethodName := ⟨RX1, "copyFrom", "(LSurvivorPurse$Member;)V"⟩
def RX2 : String := "SurvivorPurse$Rank"
def TX2 : u_T := fun k => match k with
  | 0 => ("SurvivorPurse$Rank", "low", "I", false)
  | 1 => ("SurvivorPurse$Rank", "high", "I", false)
  | 2 => ("SurvivorPurse$Rank", "price", "I", false)
  | 3 => ("SurvivorPurse$Rank", "stock", "J", false)
  | 4 => ("SurvivorPurse$Rank", "toPart", "J", false)
  | _ => ("SurvivorPurse$Rank", "partUnits", "J", false)
def tyX2 : Nat → FieldType := fun k => match k with
  | 0 => .int
  | 1 => .int
  | 2 => .int
  | 3 => .long
  | 4 => .long
  | _ => .long
abbrev wsX20 : List Cond := u_ws RX2 TX2 6
theorem nmX2 : ∀ a, a < 6 → ∀ b, b < 6 → a ≠ b → (TX2 a).2.1 ≠ (TX2 b).2.1 := by decide +kernel
theorem tyX2_ok : ∀ k, k < 6 → parseFieldDescriptor (TX2 k).2.2.1 = some (tyX2 k) := by decide +kernel
abbrev cX2_init : ByteArray := prog_4_method_1_code
def yX2_init : MethodName := ⟨RX2, "<init>", "()V"⟩
abbrev cX2_begin : ByteArray := prog_4_method_2_code
def yX2_begin : MethodName := ⟨RX2, "begin", "(III)V"⟩
abbrev cX2_copyFrom : ByteArray := prog_4_method_3_code
def yX2_copyFrom : MethodName := ⟨RX2, "copyFrom", "(LSurvivorPurse$Rank;)V"⟩
def RX3 : String := "SurvivorPurse$Share"
def TX3 : u_T := fun k => match k with
  | 0 => ("SurvivorPurse$Share", "holder", "I", false)
  | 1 => ("SurvivorPurse$Share", "life", "I", false)
  | 2 => ("SurvivorPurse$Share", "other", "I", false)
  | 3 => ("SurvivorPurse$Share", "units", "I", false)
  | 4 => ("SurvivorPurse$Share", "rank", "I", false)
  | 5 => ("SurvivorPurse$Share", "kind", "I", false)
  | 6 => ("SurvivorPurse$Share", "paid", "J", false)
  | 7 => ("SurvivorPurse$Share", "drawn", "J", false)
  | 8 => ("SurvivorPurse$Share", "since", "I", false)
  | 9 => ("SurvivorPurse$Share", "sureUntil", "I", false)
  | 10 => ("SurvivorPurse$Share", "unproved", "I", false)
  | 11 => ("SurvivorPurse$Share", "pledged", "J", false)
  | 12 => ("SurvivorPurse$Share", "pledgedTo", "I", false)
  | 13 => ("SurvivorPurse$Share", "backWent", "Z", false)
  | 14 => ("SurvivorPurse$Share", "heldFrom", "I", false)
  | _ => ("SurvivorPurse$Share", "draws", "[J", true)
def tyX3 : Nat → FieldType := fun k => match k with
  | 0 => .int
  | 1 => .int
  | 2 => .int
  | 3 => .int
  | 4 => .int
  | 5 => .int
  | 6 => .long
  | 7 => .long
  | 8 => .int
  | 9 => .int
  | 10 => .int
  | 11 => .long
  | 12 => .int
  | 13 => .boolean
  | 14 => .int
  | _ => .array .long
abbrev wsX30 : List Cond := u_ws RX3 TX3 16
theorem nmX3 : ∀ a, a < 16 → ∀ b, b < 16 → a ≠ b → (TX3 a).2.1 ≠ (TX3 b).2.1 := by decide +kernel
theorem tyX3_ok : ∀ k, k < 16 → parseFieldDescriptor (TX3 k).2.2.1 = some (tyX3 k) := by decide +kernel
abbrev cX3_init : ByteArray := prog_5_method_1_code
def yX3_init : MethodName := ⟨RX3, "<init>", "()V"⟩
abbrev cX3_begin : ByteArray := prog_5_method_2_code
def yX3_begin : MethodName := ⟨RX3, "begin", "(I)V"⟩
abbrev cX3_hasLife : ByteArray := prog_5_method_3_code
def yX3_hasLife : MethodName := ⟨RX3, "hasLife", "(I)Z"⟩
abbrev cX3_drewIn : ByteArray := prog_5_method_4_code
def yX3_drewIn : MethodName := ⟨RX3, "drewIn", "(II)J"⟩
abbrev cX3_heldAt : ByteArray := prog_5_method_5_code
def yX3_heldAt : MethodName := ⟨RX3, "heldAt", "(I)J"⟩
abbrev cX3_note : ByteArray := prog_5_method_6_code
def yX3_note : MethodName := ⟨RX3, "note", "(IJ)V"⟩
abbrev cX3_release : ByteArray := prog_5_method_7_code
def yX3_release : MethodName := ⟨RX3, "release", "(I)J"⟩
abbrev cX3_forgetHeldAbove : ByteArray := prog_5_method_8_code
def yX3_forgetHeldAbove : MethodName := ⟨RX3, "forgetHeldAbove", "(II)J"⟩
abbrev cX3_copyFrom : ByteArray := prog_5_method_9_code
def yX3_copyFrom : MethodName := ⟨RX3, "copyFrom", "(LSurvivorPurse$Share;)V"⟩
abbrev cX3_shrinkTo : ByteArray := prog_5_method_10_code
def yX3_shrinkTo : MethodName := ⟨RX3, "shrinkTo", "(I)V"⟩
abbrev cX3_loseTo : ByteArray := prog_5_method_11_code
def yX3_loseTo : MethodName := ⟨RX3, "loseTo", "(LSurvivorPurse$Share;)V"⟩
def RX4 : String := "SurvivorPurse$Table"
def TX4 : u_T := fun k => match k with
  | _ => ("SurvivorPurse$Table", "alive", "[I", true)
def tyX4 : Nat → FieldType := fun k => match k with
  | _ => .array .int
abbrev wsX40 : List Cond := u_ws RX4 TX4 1
theorem nmX4 : ∀ a, a < 1 → ∀ b, b < 1 → a ≠ b → (TX4 a).2.1 ≠ (TX4 b).2.1 := by decide +kernel
theorem tyX4_ok : ∀ k, k < 1 → parseFieldDescriptor (TX4 k).2.2.1 = some (tyX4 k) := by decide +kernel
abbrev cX4_init : ByteArray := prog_6_method_1_code
def yX4_init : MethodName := ⟨RX4, "<init>", "()V"⟩
abbrev cX4_at : ByteArray := prog_6_method_2_code
def yX4_at : MethodName := ⟨RX4, "at", "(I)J"⟩
abbrev cX4_fits : ByteArray := prog_6_method_3_code
def yX4_fits : MethodName := ⟨RX4, "fits", "(II)Z"⟩
abbrev cX4_replace : ByteArray := prog_6_method_4_code
def yX4_replace : MethodName := ⟨RX4, "replace", "(II)J"⟩
abbrev cX4_sumAbove : ByteArray := prog_6_method_5_code
def yX4_sumAbove : MethodName := ⟨RX4, "sumAbove", "(I)J"⟩
abbrev cX4_copyFrom : ByteArray := prog_6_method_6_code
def yX4_copyFrom : MethodName := ⟨RX4, "copyFrom", "(LSurvivorPurse$Table;)V"⟩
def RX5 : String := "SurvivorPurse"
def TX5 : u_T := fun k => match k with
  | 0 => ("SurvivorPurse", "book", "LSurvivorPurse$Book;", true)
  | _ => ("SurvivorPurse", "kept", "LSurvivorPurse$Book;", false)
def tyX5 : Nat → FieldType := fun k => match k with
  | 0 => .object "SurvivorPurse$Book"
  | _ => .object "SurvivorPurse$Book"
abbrev wsX50 : List Cond := u_ws RX5 TX5 2
theorem nmX5 : ∀ a, a < 2 → ∀ b, b < 2 → a ≠ b → (TX5 a).2.1 ≠ (TX5 b).2.1 := by decide +kernel
theorem tyX5_ok : ∀ k, k < 2 → parseFieldDescriptor (TX5 k).2.2.1 = some (tyX5 k) := by decide +kernel
abbrev cX5_init : ByteArray := prog_1_method_1_code
def yX5_init : MethodName := ⟨RX5, "<init>", "()V"⟩
abbrev cX5_living : ByteArray := prog_1_method_2_code
def yX5_living : MethodName := ⟨RX5, "living", "(II)J"⟩
abbrev cX5_foretell : ByteArray := prog_1_method_3_code
def yX5_foretell : MethodName := ⟨RX5, "foretell", "(II)J"⟩
abbrev cX5_mean : ByteArray := prog_1_method_4_code
def yX5_mean : MethodName := ⟨RX5, "mean", "(I)J"⟩
abbrev cX5_dearer : ByteArray := prog_1_method_5_code
def yX5_dearer : MethodName := ⟨RX5, "dearer", "(II)J"⟩
abbrev cX5_member : ByteArray := prog_1_method_6_code
def yX5_member : MethodName := ⟨RX5, "member", "(I)J"⟩
abbrev cX5_heir : ByteArray := prog_1_method_7_code
def yX5_heir : MethodName := ⟨RX5, "heir", "(II)J"⟩
abbrev cX5_group : ByteArray := prog_1_method_8_code
def yX5_group : MethodName := ⟨RX5, "group", "(III)J"⟩
abbrev cX5_set : ByteArray := prog_1_method_9_code
def yX5_set : MethodName := ⟨RX5, "set", "(II)J"⟩
abbrev cX5_buy : ByteArray := prog_1_method_10_code
def yX5_buy : MethodName := ⟨RX5, "buy", "(IIIIII)J"⟩
abbrev cX5_sell : ByteArray := prog_1_method_11_code
def yX5_sell : MethodName := ⟨RX5, "sell", "(II)J"⟩
abbrev cX5_split : ByteArray := prog_1_method_12_code
def yX5_split : MethodName := ⟨RX5, "split", "(II)J"⟩
abbrev cX5_pledge : ByteArray := prog_1_method_13_code
def yX5_pledge : MethodName := ⟨RX5, "pledge", "(III)J"⟩
abbrev cX5_share : ByteArray := prog_1_method_14_code
def yX5_share : MethodName := ⟨RX5, "share", "(II)J"⟩
abbrev cX5_drew : ByteArray := prog_1_method_15_code
def yX5_drew : MethodName := ⟨RX5, "drew", "(II)J"⟩
abbrev cX5_proof : ByteArray := prog_1_method_16_code
def yX5_proof : MethodName := ⟨RX5, "proof", "(I)J"⟩
abbrev cX5_death : ByteArray := prog_1_method_17_code
def yX5_death : MethodName := ⟨RX5, "death", "(II)J"⟩
abbrev cX5_close : ByteArray := prog_1_method_18_code
def yX5_close : MethodName := ⟨RX5, "close", "(I)J"⟩
abbrev cX5_of : ByteArray := prog_1_method_19_code
def yX5_of : MethodName := ⟨RX5, "of", "(II)J"⟩
abbrev cX5_about : ByteArray := prog_1_method_20_code
def yX5_about : MethodName := ⟨RX5, "about", "(II)J"⟩
abbrev cX5_told : ByteArray := prog_1_method_21_code
def yX5_told : MethodName := ⟨RX5, "told", "(I)J"⟩
abbrev cX5_keep : ByteArray := prog_1_method_22_code
def yX5_keep : MethodName := ⟨RX5, "keep", "()J"⟩
abbrev cX5_back : ByteArray := prog_1_method_23_code
def yX5_back : MethodName := ⟨RX5, "back", "()J"⟩
abbrev cX5_isWithin : ByteArray := prog_1_method_24_code
def yX5_isWithin : MethodName := ⟨RX5, "isWithin", "(III)Z"⟩
abbrev cX5_isAge : ByteArray := prog_1_method_25_code
def yX5_isAge : MethodName := ⟨RX5, "isAge", "(I)Z"⟩
abbrev cX5_sign : ByteArray := prog_1_method_26_code
def yX5_sign : MethodName := ⟨RX5, "sign", "(JJ)J"⟩
abbrev cX5_parted : ByteArray := prog_1_method_27_code
def yX5_parted : MethodName := ⟨RX5, "parted", "(JJJ)J"⟩
def RX6 : String := "SurvivorPurseModel"
def TX6 : u_T := fun k => match k with
  | 0 => ("SurvivorPurseModel", "now", "[J", true)
  | 1 => ("SurvivorPurseModel", "kept", "[J", true)
  | 2 => ("SurvivorPurseModel", "hasKept", "Z", false)
  | 3 => ("SurvivorPurseModel", "pots", "[J", true)
  | 4 => ("SurvivorPurseModel", "units", "[J", true)
  | 5 => ("SurvivorPurseModel", "draws", "[J", true)
  | _ => ("SurvivorPurseModel", "how", "[I", true)
def tyX6 : Nat → FieldType := fun k => match k with
  | 0 => .array .long
  | 1 => .array .long
  | 2 => .boolean
  | 3 => .array .long
  | 4 => .array .long
  | 5 => .array .long
  | _ => .array .int
abbrev wsX60 : List Cond := u_ws RX6 TX6 7
theorem nmX6 : ∀ a, a < 7 → ∀ b, b < 7 → a ≠ b → (TX6 a).2.1 ≠ (TX6 b).2.1 := by decide +kernel
theorem tyX6_ok : ∀ k, k < 7 → parseFieldDescriptor (TX6 k).2.2.1 = some (tyX6 k) := by decide +kernel
abbrev cX6_init : ByteArray := prog_8_method_1_code
def yX6_init : MethodName := ⟨RX6, "<init>", "()V"⟩
abbrev cX6_in : ByteArray := prog_8_method_3_code
def yX6_in : MethodName := ⟨RX6, "in", "(JJJ)Z"⟩
abbrev cX6_isMember : ByteArray := prog_8_method_4_code
def yX6_isMember : MethodName := ⟨RX6, "isMember", "(I)Z"⟩
abbrev cX6_isClass : ByteArray := prog_8_method_5_code
def yX6_isClass : MethodName := ⟨RX6, "isClass", "(I)Z"⟩
abbrev cX6_isShare : ByteArray := prog_8_method_6_code
def yX6_isShare : MethodName := ⟨RX6, "isShare", "(I)Z"⟩
abbrev cX6_cellOf : ByteArray := prog_8_method_7_code
def yX6_cellOf : MethodName := ⟨RX6, "cellOf", "(II)I"⟩
abbrev cX6_groupCell : ByteArray := prog_8_method_8_code
def yX6_groupCell : MethodName := ⟨RX6, "groupCell", "(II)I"⟩
abbrev cX6_part : ByteArray := prog_8_method_9_code
def yX6_part : MethodName := ⟨RX6, "part", "(II)I"⟩
abbrev cX6_living : ByteArray := prog_8_method_10_code
def yX6_living : MethodName := ⟨RX6, "living", "(II)J"⟩
abbrev cX6_foretell : ByteArray := prog_8_method_11_code
def yX6_foretell : MethodName := ⟨RX6, "foretell", "(II)J"⟩
abbrev cX6_later : ByteArray := prog_8_method_12_code
def yX6_later : MethodName := ⟨RX6, "later", "(I)J"⟩
abbrev cX6_mean : ByteArray := prog_8_method_13_code
def yX6_mean : MethodName := ⟨RX6, "mean", "(I)J"⟩
abbrev cX6_dearer : ByteArray := prog_8_method_14_code
def yX6_dearer : MethodName := ⟨RX6, "dearer", "(II)J"⟩
abbrev cX6_member : ByteArray := prog_8_method_15_code
def yX6_member : MethodName := ⟨RX6, "member", "(I)J"⟩
abbrev cX6_heir : ByteArray := prog_8_method_16_code
def yX6_heir : MethodName := ⟨RX6, "heir", "(II)J"⟩
abbrev cX6_group : ByteArray := prog_8_method_17_code
def yX6_group : MethodName := ⟨RX6, "group", "(III)J"⟩
abbrev cX6_set : ByteArray := prog_8_method_18_code
def yX6_set : MethodName := ⟨RX6, "set", "(II)J"⟩
abbrev cX6_isDead : ByteArray := prog_8_method_19_code
def yX6_isDead : MethodName := ⟨RX6, "isDead", "(J)Z"⟩
abbrev cX6_classFor : ByteArray := prog_8_method_20_code
def yX6_classFor : MethodName := ⟨RX6, "classFor", "(J)I"⟩
abbrev cX6_buy : ByteArray := prog_8_method_21_code
def yX6_buy : MethodName := ⟨RX6, "buy", "(IIIIII)J"⟩
abbrev cX6_sell : ByteArray := prog_8_method_22_code
def yX6_sell : MethodName := ⟨RX6, "sell", "(II)J"⟩
abbrev cX6_parts : ByteArray := prog_8_method_23_code
def yX6_parts : MethodName := ⟨RX6, "parts", "(IIJJ)V"⟩
abbrev cX6_split : ByteArray := prog_8_method_24_code
def yX6_split : MethodName := ⟨RX6, "split", "(II)J"⟩
abbrev cX6_pledge : ByteArray := prog_8_method_25_code
def yX6_pledge : MethodName := ⟨RX6, "pledge", "(III)J"⟩
abbrev cX6_hasLife : ByteArray := prog_8_method_26_code
def yX6_hasLife : MethodName := ⟨RX6, "hasLife", "(II)Z"⟩
abbrev cX6_areDead : ByteArray := prog_8_method_27_code
def yX6_areDead : MethodName := ⟨RX6, "areDead", "(I)Z"⟩
abbrev cX6_isSure : ByteArray := prog_8_method_28_code
def yX6_isSure : MethodName := ⟨RX6, "isSure", "(IJ)Z"⟩
abbrev cX6_stands : ByteArray := prog_8_method_29_code
def yX6_stands : MethodName := ⟨RX6, "stands", "(I)I"⟩
abbrev cX6_heldBy : ByteArray := prog_8_method_30_code
def yX6_heldBy : MethodName := ⟨RX6, "heldBy", "(I)J"⟩
abbrev cX6_share : ByteArray := prog_8_method_31_code
def yX6_share : MethodName := ⟨RX6, "share", "(II)J"⟩
abbrev cX6_drew : ByteArray := prog_8_method_32_code
def yX6_drew : MethodName := ⟨RX6, "drew", "(II)J"⟩
abbrev cX6_pays : ByteArray := prog_8_method_33_code
def yX6_pays : MethodName := ⟨RX6, "pays", "(IJ)V"⟩
abbrev cX6_proof : ByteArray := prog_8_method_34_code
def yX6_proof : MethodName := ⟨RX6, "proof", "(I)J"⟩
abbrev cX6_death : ByteArray := prog_8_method_35_code
def yX6_death : MethodName := ⟨RX6, "death", "(II)J"⟩
abbrev cX6_ends : ByteArray := prog_8_method_36_code
def yX6_ends : MethodName := ⟨RX6, "ends", "(I)J"⟩
abbrev cX6_close : ByteArray := prog_8_method_37_code
def yX6_close : MethodName := ⟨RX6, "close", "(I)J"⟩
abbrev cX6_backGoes : ByteArray := prog_8_method_38_code
def yX6_backGoes : MethodName := ⟨RX6, "backGoes", "(I)V"⟩
abbrev cX6_of : ByteArray := prog_8_method_39_code
def yX6_of : MethodName := ⟨RX6, "of", "(II)J"⟩
abbrev cX6_about : ByteArray := prog_8_method_40_code
def yX6_about : MethodName := ⟨RX6, "about", "(II)J"⟩
abbrev cX6_told : ByteArray := prog_8_method_41_code
def yX6_told : MethodName := ⟨RX6, "told", "(I)J"⟩
abbrev cX6_keep : ByteArray := prog_8_method_42_code
def yX6_keep : MethodName := ⟨RX6, "keep", "()J"⟩
abbrev cX6_back : ByteArray := prog_8_method_43_code
def yX6_back : MethodName := ⟨RX6, "back", "()J"⟩
def RJ9 : String := "java/lang/Math"
def TJ9 : u_T := fun k => match k with
  | _ => ("", "", "", false)
def tyJ9 : Nat → FieldType := fun k => match k with
  | _ => .int
abbrev wsJ90 : List Cond := u_ws RJ9 TJ9 0
abbrev cJ9_max_7cf53 : ByteArray := prog_9_method_65_code
def yJ9_max_7cf53 : MethodName := ⟨RJ9, "max", "(II)I"⟩
abbrev cJ9_max_f86c9 : ByteArray := prog_9_method_66_code
def yJ9_max_f86c9 : MethodName := ⟨RJ9, "max", "(JJ)J"⟩
abbrev cJ9_min_f86c9 : ByteArray := prog_9_method_70_code
def yJ9_min_f86c9 : MethodName := ⟨RJ9, "min", "(JJ)J"⟩
def RJ10 : String := "java/lang/System"
def TJ10 : u_T := fun k => match k with
  | _ => ("", "", "", false)
def tyJ10 : Nat → FieldType := fun k => match k with
  | _ => .int
abbrev wsJ100 : List Cond := u_ws RJ10 TJ10 0
def RJ7 : String := "java/util/Arrays"
def TJ7 : u_T := fun k => match k with
  | _ => ("", "", "", false)
def tyJ7 : Nat → FieldType := fun k => match k with
  | _ => .int
abbrev wsJ70 : List Cond := u_ws RJ7 TJ7 0
abbrev cJ7_fill_d0a16 : ByteArray := prog_11_method_101_code
def yJ7_fill_d0a16 : MethodName := ⟨RJ7, "fill", "([JJ)V"⟩
def RL : String := "SurvivorPurseLaw"
abbrev cL_law : ByteArray := code
def yL_law : MethodName := ⟨RL, "law", "([I)Z"⟩
abbrev vwCl : List vw_C := [(RX0, TX0, 13), (RX1, TX1, 7), (RX2, TX2, 6), (RX3, TX3, 16), (RX4, TX4, 1), (RX5, TX5, 2), (RX6, TX6, 7)]
end
section
theorem dX0_init_0 : decode cX0_init 0 = .ok (.aload_n 0, 1) := by decide +kernel
theorem dX0_init_1 : decode cX0_init 1 = .ok (.invokespecial 3, 3) := by decide +kernel
theorem dX0_init_4 : decode cX0_init 4 = .ok (.aload_n 0, 1) := by decide +kernel
theorem dX0_init_5 : decode cX0_init 5 = .ok (.new 9, 3) := by decide +kernel
theorem dX0_init_8 : decode cX0_init 8 = .ok (.dup, 1) := by decide +kernel
theorem dX0_init_9 : decode cX0_init 9 = .ok (.invokespecial 11, 3) := by decide +kernel
theorem dX0_init_12 : decode cX0_init 12 = .ok (.putfield 12, 3) := by decide +kernel
theorem dX0_init_15 : decode cX0_init 15 = .ok (.aload_n 0, 1) := by decide +kernel
theorem dX0_init_16 : decode cX0_init 16 = .ok (.bipush 24, 2) := by decide +kernel
theorem dX0_init_18 : decode cX0_init 18 = .ok (.anewarray 18, 3) := by decide +kernel
theorem dX0_init_21 : decode cX0_init 21 = .ok (.putfield 20, 3) := by decide +kernel
theorem dX0_init_24 : decode cX0_init 24 = .ok (.aload_n 0, 1) := by decide +kernel
theorem dX0_init_25 : decode cX0_init 25 = .ok (.bipush 6, 2) := by decide +kernel
theorem dX0_init_27 : decode cX0_init 27 = .ok (.anewarray 24, 3) := by decide +kernel
theorem dX0_init_30 : decode cX0_init 30 = .ok (.putfield 26, 3) := by decide +kernel
theorem dX0_init_33 : decode cX0_init 33 = .ok (.aload_n 0, 1) := by decide +kernel
theorem dX0_init_34 : decode cX0_init 34 = .ok (.bipush 40, 2) := by decide +kernel
theorem dX0_init_36 : decode cX0_init 36 = .ok (.anewarray 30, 3) := by decide +kernel
theorem dX0_init_39 : decode cX0_init 39 = .ok (.putfield 32, 3) := by decide +kernel
theorem dX0_init_42 : decode cX0_init 42 = .ok (.aload_n 0, 1) := by decide +kernel
theorem dX0_init_43 : decode cX0_init 43 = .ok (.iconst 2, 1) := by decide +kernel
theorem dX0_init_44 : decode cX0_init 44 = .ok (.putfield 36, 3) := by decide +kernel
theorem dX0_init_47 : decode cX0_init 47 = .ok (.iconst 0, 1) := by decide +kernel
theorem dX0_init_48 : decode cX0_init 48 = .ok (.istore_n 1, 1) := by decide +kernel
theorem dX0_init_49 : decode cX0_init 49 = .ok (.iload_n 1, 1) := by decide +kernel
theorem dX0_init_50 : decode cX0_init 50 = .ok (.bipush 24, 2) := by decide +kernel
theorem dX0_init_52 : decode cX0_init 52 = .ok (.if_icmp .ge 22, 3) := by decide +kernel
theorem dX0_init_55 : decode cX0_init 55 = .ok (.aload_n 0, 1) := by decide +kernel
theorem dX0_init_56 : decode cX0_init 56 = .ok (.getfield 20, 3) := by decide +kernel
theorem dX0_init_59 : decode cX0_init 59 = .ok (.iload_n 1, 1) := by decide +kernel
theorem dX0_init_60 : decode cX0_init 60 = .ok (.new 18, 3) := by decide +kernel
theorem dX0_init_63 : decode cX0_init 63 = .ok (.dup, 1) := by decide +kernel
theorem dX0_init_64 : decode cX0_init 64 = .ok (.invokespecial 40, 3) := by decide +kernel
theorem dX0_init_67 : decode cX0_init 67 = .ok (.aastore, 1) := by decide +kernel
theorem dX0_init_68 : decode cX0_init 68 = .ok (.iinc 1 1, 3) := by decide +kernel
theorem dX0_init_71 : decode cX0_init 71 = .ok (.goto (-22), 3) := by decide +kernel
theorem dX0_init_74 : decode cX0_init 74 = .ok (.iconst 0, 1) := by decide +kernel
theorem dX0_init_75 : decode cX0_init 75 = .ok (.istore_n 1, 1) := by decide +kernel
theorem dX0_init_76 : decode cX0_init 76 = .ok (.iload_n 1, 1) := by decide +kernel
theorem dX0_init_77 : decode cX0_init 77 = .ok (.bipush 6, 2) := by decide +kernel
theorem dX0_init_79 : decode cX0_init 79 = .ok (.if_icmp .ge 22, 3) := by decide +kernel
theorem dX0_init_82 : decode cX0_init 82 = .ok (.aload_n 0, 1) := by decide +kernel
theorem dX0_init_83 : decode cX0_init 83 = .ok (.getfield 26, 3) := by decide +kernel
theorem dX0_init_86 : decode cX0_init 86 = .ok (.iload_n 1, 1) := by decide +kernel
theorem dX0_init_87 : decode cX0_init 87 = .ok (.new 24, 3) := by decide +kernel
theorem dX0_init_90 : decode cX0_init 90 = .ok (.dup, 1) := by decide +kernel
theorem dX0_init_91 : decode cX0_init 91 = .ok (.invokespecial 41, 3) := by decide +kernel
theorem dX0_init_94 : decode cX0_init 94 = .ok (.aastore, 1) := by decide +kernel
theorem dX0_init_95 : decode cX0_init 95 = .ok (.iinc 1 1, 3) := by decide +kernel
theorem dX0_init_98 : decode cX0_init 98 = .ok (.goto (-22), 3) := by decide +kernel
theorem dX0_init_101 : decode cX0_init 101 = .ok (.iconst 0, 1) := by decide +kernel
theorem dX0_init_102 : decode cX0_init 102 = .ok (.istore_n 1, 1) := by decide +kernel
theorem dX0_init_103 : decode cX0_init 103 = .ok (.iload_n 1, 1) := by decide +kernel
theorem dX0_init_104 : decode cX0_init 104 = .ok (.bipush 40, 2) := by decide +kernel
theorem dX0_init_106 : decode cX0_init 106 = .ok (.if_icmp .ge 22, 3) := by decide +kernel
theorem dX0_init_109 : decode cX0_init 109 = .ok (.aload_n 0, 1) := by decide +kernel
theorem dX0_init_110 : decode cX0_init 110 = .ok (.getfield 32, 3) := by decide +kernel
theorem dX0_init_113 : decode cX0_init 113 = .ok (.iload_n 1, 1) := by decide +kernel
theorem dX0_init_114 : decode cX0_init 114 = .ok (.new 30, 3) := by decide +kernel
theorem dX0_init_117 : decode cX0_init 117 = .ok (.dup, 1) := by decide +kernel
theorem dX0_init_118 : decode cX0_init 118 = .ok (.invokespecial 42, 3) := by decide +kernel
theorem dX0_init_121 : decode cX0_init 121 = .ok (.aastore, 1) := by decide +kernel
theorem dX0_init_122 : decode cX0_init 122 = .ok (.iinc 1 1, 3) := by decide +kernel
theorem dX0_init_125 : decode cX0_init 125 = .ok (.goto (-22), 3) := by decide +kernel
theorem dX0_init_128 : decode cX0_init 128 = .ok (.return_, 1) := by decide +kernel
theorem dX0_copyFrom_0 : decode cX0_copyFrom 0 = .ok (.aload_n 0, 1) := by decide +kernel
theorem dX0_copyFrom_1 : decode cX0_copyFrom 1 = .ok (.getfield 12, 3) := by decide +kernel
theorem dX0_copyFrom_4 : decode cX0_copyFrom 4 = .ok (.aload_n 1, 1) := by decide +kernel
theorem dX0_copyFrom_5 : decode cX0_copyFrom 5 = .ok (.getfield 12, 3) := by decide +kernel
theorem dX0_copyFrom_8 : decode cX0_copyFrom 8 = .ok (.invokevirtual 43, 3) := by decide +kernel
theorem dX0_copyFrom_11 : decode cX0_copyFrom 11 = .ok (.aload_n 0, 1) := by decide +kernel
theorem dX0_copyFrom_12 : decode cX0_copyFrom 12 = .ok (.aload_n 1, 1) := by decide +kernel
theorem dX0_copyFrom_13 : decode cX0_copyFrom 13 = .ok (.getfield 47, 3) := by decide +kernel
theorem dX0_copyFrom_16 : decode cX0_copyFrom 16 = .ok (.putfield 47, 3) := by decide +kernel
theorem dX0_copyFrom_19 : decode cX0_copyFrom 19 = .ok (.aload_n 0, 1) := by decide +kernel
theorem dX0_copyFrom_20 : decode cX0_copyFrom 20 = .ok (.aload_n 1, 1) := by decide +kernel
theorem dX0_copyFrom_21 : decode cX0_copyFrom 21 = .ok (.getfield 50, 3) := by decide +kernel
theorem dX0_copyFrom_24 : decode cX0_copyFrom 24 = .ok (.putfield 50, 3) := by decide +kernel
theorem dX0_copyFrom_27 : decode cX0_copyFrom 27 = .ok (.aload_n 0, 1) := by decide +kernel
theorem dX0_copyFrom_28 : decode cX0_copyFrom 28 = .ok (.aload_n 1, 1) := by decide +kernel
theorem dX0_copyFrom_29 : decode cX0_copyFrom 29 = .ok (.getfield 53, 3) := by decide +kernel
theorem dX0_copyFrom_32 : decode cX0_copyFrom 32 = .ok (.putfield 53, 3) := by decide +kernel
theorem dX0_copyFrom_35 : decode cX0_copyFrom 35 = .ok (.aload_n 0, 1) := by decide +kernel
theorem dX0_copyFrom_36 : decode cX0_copyFrom 36 = .ok (.aload_n 1, 1) := by decide +kernel
theorem dX0_copyFrom_37 : decode cX0_copyFrom 37 = .ok (.getfield 56, 3) := by decide +kernel
theorem dX0_copyFrom_40 : decode cX0_copyFrom 40 = .ok (.putfield 56, 3) := by decide +kernel
theorem dX0_copyFrom_43 : decode cX0_copyFrom 43 = .ok (.aload_n 0, 1) := by decide +kernel
theorem dX0_copyFrom_44 : decode cX0_copyFrom 44 = .ok (.aload_n 1, 1) := by decide +kernel
theorem dX0_copyFrom_45 : decode cX0_copyFrom 45 = .ok (.getfield 36, 3) := by decide +kernel
theorem dX0_copyFrom_48 : decode cX0_copyFrom 48 = .ok (.putfield 36, 3) := by decide +kernel
theorem dX0_copyFrom_51 : decode cX0_copyFrom 51 = .ok (.aload_n 0, 1) := by decide +kernel
theorem dX0_copyFrom_52 : decode cX0_copyFrom 52 = .ok (.aload_n 1, 1) := by decide +kernel
theorem dX0_copyFrom_53 : decode cX0_copyFrom 53 = .ok (.getfield 59, 3) := by decide +kernel
theorem dX0_copyFrom_56 : decode cX0_copyFrom 56 = .ok (.putfield 59, 3) := by decide +kernel
theorem dX0_copyFrom_59 : decode cX0_copyFrom 59 = .ok (.aload_n 0, 1) := by decide +kernel
theorem dX0_copyFrom_60 : decode cX0_copyFrom 60 = .ok (.aload_n 1, 1) := by decide +kernel
theorem dX0_copyFrom_61 : decode cX0_copyFrom 61 = .ok (.getfield 62, 3) := by decide +kernel
theorem dX0_copyFrom_64 : decode cX0_copyFrom 64 = .ok (.putfield 62, 3) := by decide +kernel
theorem dX0_copyFrom_67 : decode cX0_copyFrom 67 = .ok (.aload_n 0, 1) := by decide +kernel
theorem dX0_copyFrom_68 : decode cX0_copyFrom 68 = .ok (.aload_n 1, 1) := by decide +kernel
theorem dX0_copyFrom_69 : decode cX0_copyFrom 69 = .ok (.getfield 66, 3) := by decide +kernel
theorem dX0_copyFrom_72 : decode cX0_copyFrom 72 = .ok (.putfield 66, 3) := by decide +kernel
theorem dX0_copyFrom_75 : decode cX0_copyFrom 75 = .ok (.aload_n 0, 1) := by decide +kernel
theorem dX0_copyFrom_76 : decode cX0_copyFrom 76 = .ok (.aload_n 1, 1) := by decide +kernel
theorem dX0_copyFrom_77 : decode cX0_copyFrom 77 = .ok (.getfield 69, 3) := by decide +kernel
theorem dX0_copyFrom_80 : decode cX0_copyFrom 80 = .ok (.putfield 69, 3) := by decide +kernel
theorem dX0_copyFrom_83 : decode cX0_copyFrom 83 = .ok (.iconst 0, 1) := by decide +kernel
theorem dX0_copyFrom_84 : decode cX0_copyFrom 84 = .ok (.istore_n 2, 1) := by decide +kernel
theorem dX0_copyFrom_85 : decode cX0_copyFrom 85 = .ok (.iload_n 2, 1) := by decide +kernel
theorem dX0_copyFrom_86 : decode cX0_copyFrom 86 = .ok (.aload_n 0, 1) := by decide +kernel
theorem dX0_copyFrom_87 : decode cX0_copyFrom 87 = .ok (.getfield 47, 3) := by decide +kernel
theorem dX0_copyFrom_90 : decode cX0_copyFrom 90 = .ok (.if_icmp .ge 24, 3) := by decide +kernel
theorem dX0_copyFrom_93 : decode cX0_copyFrom 93 = .ok (.aload_n 0, 1) := by decide +kernel
theorem dX0_copyFrom_94 : decode cX0_copyFrom 94 = .ok (.getfield 20, 3) := by decide +kernel
theorem dX0_copyFrom_97 : decode cX0_copyFrom 97 = .ok (.iload_n 2, 1) := by decide +kernel
theorem dX0_copyFrom_98 : decode cX0_copyFrom 98 = .ok (.aaload, 1) := by decide +kernel
theorem dX0_copyFrom_99 : decode cX0_copyFrom 99 = .ok (.aload_n 1, 1) := by decide +kernel
theorem dX0_copyFrom_100 : decode cX0_copyFrom 100 = .ok (.getfield 20, 3) := by decide +kernel
theorem dX0_copyFrom_103 : decode cX0_copyFrom 103 = .ok (.iload_n 2, 1) := by decide +kernel
theorem dX0_copyFrom_104 : decode cX0_copyFrom 104 = .ok (.aaload, 1) := by decide +kernel
theorem dX0_copyFrom_105 : decode cX0_copyFrom 105 = .ok (.invokevirtual 72, 3) := by decide +kernel
theorem dX0_copyFrom_108 : decode cX0_copyFrom 108 = .ok (.iinc 2 1, 3) := by decide +kernel
theorem dX0_copyFrom_111 : decode cX0_copyFrom 111 = .ok (.goto (-26), 3) := by decide +kernel
theorem dX0_copyFrom_114 : decode cX0_copyFrom 114 = .ok (.iconst 0, 1) := by decide +kernel
theorem dX0_copyFrom_115 : decode cX0_copyFrom 115 = .ok (.istore_n 2, 1) := by decide +kernel
theorem dX0_copyFrom_116 : decode cX0_copyFrom 116 = .ok (.iload_n 2, 1) := by decide +kernel
theorem dX0_copyFrom_117 : decode cX0_copyFrom 117 = .ok (.aload_n 0, 1) := by decide +kernel
theorem dX0_copyFrom_118 : decode cX0_copyFrom 118 = .ok (.getfield 50, 3) := by decide +kernel
theorem dX0_copyFrom_121 : decode cX0_copyFrom 121 = .ok (.if_icmp .ge 24, 3) := by decide +kernel
theorem dX0_copyFrom_124 : decode cX0_copyFrom 124 = .ok (.aload_n 0, 1) := by decide +kernel
theorem dX0_copyFrom_125 : decode cX0_copyFrom 125 = .ok (.getfield 26, 3) := by decide +kernel
theorem dX0_copyFrom_128 : decode cX0_copyFrom 128 = .ok (.iload_n 2, 1) := by decide +kernel
theorem dX0_copyFrom_129 : decode cX0_copyFrom 129 = .ok (.aaload, 1) := by decide +kernel
theorem dX0_copyFrom_130 : decode cX0_copyFrom 130 = .ok (.aload_n 1, 1) := by decide +kernel
theorem dX0_copyFrom_131 : decode cX0_copyFrom 131 = .ok (.getfield 26, 3) := by decide +kernel
theorem dX0_copyFrom_134 : decode cX0_copyFrom 134 = .ok (.iload_n 2, 1) := by decide +kernel
theorem dX0_copyFrom_135 : decode cX0_copyFrom 135 = .ok (.aaload, 1) := by decide +kernel
theorem dX0_copyFrom_136 : decode cX0_copyFrom 136 = .ok (.invokevirtual 75, 3) := by decide +kernel
theorem dX0_copyFrom_139 : decode cX0_copyFrom 139 = .ok (.iinc 2 1, 3) := by decide +kernel
theorem dX0_copyFrom_142 : decode cX0_copyFrom 142 = .ok (.goto (-26), 3) := by decide +kernel
theorem dX0_copyFrom_145 : decode cX0_copyFrom 145 = .ok (.iconst 0, 1) := by decide +kernel
theorem dX0_copyFrom_146 : decode cX0_copyFrom 146 = .ok (.istore_n 2, 1) := by decide +kernel
theorem dX0_copyFrom_147 : decode cX0_copyFrom 147 = .ok (.iload_n 2, 1) := by decide +kernel
theorem dX0_copyFrom_148 : decode cX0_copyFrom 148 = .ok (.aload_n 0, 1) := by decide +kernel
theorem dX0_copyFrom_149 : decode cX0_copyFrom 149 = .ok (.getfield 53, 3) := by decide +kernel
theorem dX0_copyFrom_152 : decode cX0_copyFrom 152 = .ok (.if_icmp .ge 24, 3) := by decide +kernel
theorem dX0_copyFrom_155 : decode cX0_copyFrom 155 = .ok (.aload_n 0, 1) := by decide +kernel
theorem dX0_copyFrom_156 : decode cX0_copyFrom 156 = .ok (.getfield 32, 3) := by decide +kernel
theorem dX0_copyFrom_159 : decode cX0_copyFrom 159 = .ok (.iload_n 2, 1) := by decide +kernel
theorem dX0_copyFrom_160 : decode cX0_copyFrom 160 = .ok (.aaload, 1) := by decide +kernel
theorem dX0_copyFrom_161 : decode cX0_copyFrom 161 = .ok (.aload_n 1, 1) := by decide +kernel
theorem dX0_copyFrom_162 : decode cX0_copyFrom 162 = .ok (.getfield 32, 3) := by decide +kernel
theorem dX0_copyFrom_165 : decode cX0_copyFrom 165 = .ok (.iload_n 2, 1) := by decide +kernel
theorem dX0_copyFrom_166 : decode cX0_copyFrom 166 = .ok (.aaload, 1) := by decide +kernel
theorem dX0_copyFrom_167 : decode cX0_copyFrom 167 = .ok (.invokevirtual 78, 3) := by decide +kernel
theorem dX0_copyFrom_170 : decode cX0_copyFrom 170 = .ok (.iinc 2 1, 3) := by decide +kernel
theorem dX0_copyFrom_173 : decode cX0_copyFrom 173 = .ok (.goto (-26), 3) := by decide +kernel
theorem dX0_copyFrom_176 : decode cX0_copyFrom 176 = .ok (.return_, 1) := by decide +kernel
theorem dX0_isMember_0 : decode cX0_isMember 0 = .ok (.iload_n 1, 1) := by decide +kernel
theorem dX0_isMember_1 : decode cX0_isMember 1 = .ok (.ifCond .lt 15, 3) := by decide +kernel
theorem dX0_isMember_4 : decode cX0_isMember 4 = .ok (.iload_n 1, 1) := by decide +kernel
theorem dX0_isMember_5 : decode cX0_isMember 5 = .ok (.aload_n 0, 1) := by decide +kernel
theorem dX0_isMember_6 : decode cX0_isMember 6 = .ok (.getfield 47, 3) := by decide +kernel
theorem dX0_isMember_9 : decode cX0_isMember 9 = .ok (.if_icmp .ge 7, 3) := by decide +kernel
theorem dX0_isMember_12 : decode cX0_isMember 12 = .ok (.iconst 1, 1) := by decide +kernel
theorem dX0_isMember_13 : decode cX0_isMember 13 = .ok (.goto 4, 3) := by decide +kernel
theorem dX0_isMember_16 : decode cX0_isMember 16 = .ok (.iconst 0, 1) := by decide +kernel
theorem dX0_isMember_17 : decode cX0_isMember 17 = .ok (.ireturn, 1) := by decide +kernel
theorem dX0_isRank_0 : decode cX0_isRank 0 = .ok (.iload_n 1, 1) := by decide +kernel
theorem dX0_isRank_1 : decode cX0_isRank 1 = .ok (.ifCond .lt 15, 3) := by decide +kernel
theorem dX0_isRank_4 : decode cX0_isRank 4 = .ok (.iload_n 1, 1) := by decide +kernel
theorem dX0_isRank_5 : decode cX0_isRank 5 = .ok (.aload_n 0, 1) := by decide +kernel
theorem dX0_isRank_6 : decode cX0_isRank 6 = .ok (.getfield 50, 3) := by decide +kernel
theorem dX0_isRank_9 : decode cX0_isRank 9 = .ok (.if_icmp .ge 7, 3) := by decide +kernel
theorem dX0_isRank_12 : decode cX0_isRank 12 = .ok (.iconst 1, 1) := by decide +kernel
theorem dX0_isRank_13 : decode cX0_isRank 13 = .ok (.goto 4, 3) := by decide +kernel
theorem dX0_isRank_16 : decode cX0_isRank 16 = .ok (.iconst 0, 1) := by decide +kernel
theorem dX0_isRank_17 : decode cX0_isRank 17 = .ok (.ireturn, 1) := by decide +kernel
theorem dX0_isShare_0 : decode cX0_isShare 0 = .ok (.iload_n 1, 1) := by decide +kernel
theorem dX0_isShare_1 : decode cX0_isShare 1 = .ok (.ifCond .lt 15, 3) := by decide +kernel
theorem dX0_isShare_4 : decode cX0_isShare 4 = .ok (.iload_n 1, 1) := by decide +kernel
theorem dX0_isShare_5 : decode cX0_isShare 5 = .ok (.aload_n 0, 1) := by decide +kernel
theorem dX0_isShare_6 : decode cX0_isShare 6 = .ok (.getfield 53, 3) := by decide +kernel
theorem dX0_isShare_9 : decode cX0_isShare 9 = .ok (.if_icmp .ge 7, 3) := by decide +kernel
theorem dX0_isShare_12 : decode cX0_isShare 12 = .ok (.iconst 1, 1) := by decide +kernel
theorem dX0_isShare_13 : decode cX0_isShare 13 = .ok (.goto 4, 3) := by decide +kernel
theorem dX0_isShare_16 : decode cX0_isShare 16 = .ok (.iconst 0, 1) := by decide +kernel
theorem dX0_isShare_17 : decode cX0_isShare 17 = .ok (.ireturn, 1) := by decide +kernel
theorem dX0_addMember_0 : decode cX0_addMember 0 = .ok (.aload_n 0, 1) := by decide +kernel
theorem dX0_addMember_1 : decode cX0_addMember 1 = .ok (.getfield 20, 3) := by decide +kernel
theorem dX0_addMember_4 : decode cX0_addMember 4 = .ok (.aload_n 0, 1) := by decide +kernel
theorem dX0_addMember_5 : decode cX0_addMember 5 = .ok (.getfield 47, 3) := by decide +kernel
theorem dX0_addMember_8 : decode cX0_addMember 8 = .ok (.aaload, 1) := by decide +kernel
theorem dX0_addMember_9 : decode cX0_addMember 9 = .ok (.iload_n 1, 1) := by decide +kernel
theorem dX0_addMember_10 : decode cX0_addMember 10 = .ok (.invokevirtual 81, 3) := by decide +kernel
theorem dX0_addMember_13 : decode cX0_addMember 13 = .ok (.aload_n 0, 1) := by decide +kernel
theorem dX0_addMember_14 : decode cX0_addMember 14 = .ok (.dup, 1) := by decide +kernel
theorem dX0_addMember_15 : decode cX0_addMember 15 = .ok (.getfield 47, 3) := by decide +kernel
theorem dX0_addMember_18 : decode cX0_addMember 18 = .ok (.iconst 1, 1) := by decide +kernel
theorem dX0_addMember_19 : decode cX0_addMember 19 = .ok (.iadd, 1) := by decide +kernel
theorem dX0_addMember_20 : decode cX0_addMember 20 = .ok (.putfield 47, 3) := by decide +kernel
theorem dX0_addMember_23 : decode cX0_addMember 23 = .ok (.aload_n 0, 1) := by decide +kernel
theorem dX0_addMember_24 : decode cX0_addMember 24 = .ok (.getfield 47, 3) := by decide +kernel
theorem dX0_addMember_27 : decode cX0_addMember 27 = .ok (.iconst 1, 1) := by decide +kernel
theorem dX0_addMember_28 : decode cX0_addMember 28 = .ok (.isub, 1) := by decide +kernel
theorem dX0_addMember_29 : decode cX0_addMember 29 = .ok (.ireturn, 1) := by decide +kernel
theorem dX0_addRank_0 : decode cX0_addRank 0 = .ok (.aload_n 0, 1) := by decide +kernel
theorem dX0_addRank_1 : decode cX0_addRank 1 = .ok (.getfield 26, 3) := by decide +kernel
theorem dX0_addRank_4 : decode cX0_addRank 4 = .ok (.aload_n 0, 1) := by decide +kernel
theorem dX0_addRank_5 : decode cX0_addRank 5 = .ok (.getfield 50, 3) := by decide +kernel
theorem dX0_addRank_8 : decode cX0_addRank 8 = .ok (.aaload, 1) := by decide +kernel
theorem dX0_addRank_9 : decode cX0_addRank 9 = .ok (.iload_n 1, 1) := by decide +kernel
theorem dX0_addRank_10 : decode cX0_addRank 10 = .ok (.iload_n 2, 1) := by decide +kernel
theorem dX0_addRank_11 : decode cX0_addRank 11 = .ok (.iload_n 3, 1) := by decide +kernel
theorem dX0_addRank_12 : decode cX0_addRank 12 = .ok (.invokevirtual 85, 3) := by decide +kernel
theorem dX0_addRank_15 : decode cX0_addRank 15 = .ok (.aload_n 0, 1) := by decide +kernel
theorem dX0_addRank_16 : decode cX0_addRank 16 = .ok (.dup, 1) := by decide +kernel
theorem dX0_addRank_17 : decode cX0_addRank 17 = .ok (.getfield 50, 3) := by decide +kernel
theorem dX0_addRank_20 : decode cX0_addRank 20 = .ok (.iconst 1, 1) := by decide +kernel
theorem dX0_addRank_21 : decode cX0_addRank 21 = .ok (.iadd, 1) := by decide +kernel
theorem dX0_addRank_22 : decode cX0_addRank 22 = .ok (.putfield 50, 3) := by decide +kernel
theorem dX0_addRank_25 : decode cX0_addRank 25 = .ok (.aload_n 0, 1) := by decide +kernel
theorem dX0_addRank_26 : decode cX0_addRank 26 = .ok (.getfield 50, 3) := by decide +kernel
theorem dX0_addRank_29 : decode cX0_addRank 29 = .ok (.iconst 1, 1) := by decide +kernel
theorem dX0_addRank_30 : decode cX0_addRank 30 = .ok (.isub, 1) := by decide +kernel
theorem dX0_addRank_31 : decode cX0_addRank 31 = .ok (.ireturn, 1) := by decide +kernel
theorem dX0_addShare_0 : decode cX0_addShare 0 = .ok (.aload_n 0, 1) := by decide +kernel
theorem dX0_addShare_1 : decode cX0_addShare 1 = .ok (.getfield 32, 3) := by decide +kernel
theorem dX0_addShare_4 : decode cX0_addShare 4 = .ok (.aload_n 0, 1) := by decide +kernel
theorem dX0_addShare_5 : decode cX0_addShare 5 = .ok (.getfield 53, 3) := by decide +kernel
theorem dX0_addShare_8 : decode cX0_addShare 8 = .ok (.aaload, 1) := by decide +kernel
theorem dX0_addShare_9 : decode cX0_addShare 9 = .ok (.astore 6, 2) := by decide +kernel
theorem dX0_addShare_11 : decode cX0_addShare 11 = .ok (.aload 6, 2) := by decide +kernel
theorem dX0_addShare_13 : decode cX0_addShare 13 = .ok (.aload_n 0, 1) := by decide +kernel
theorem dX0_addShare_14 : decode cX0_addShare 14 = .ok (.getfield 56, 3) := by decide +kernel
theorem dX0_addShare_17 : decode cX0_addShare 17 = .ok (.invokevirtual 88, 3) := by decide +kernel
theorem dX0_addShare_20 : decode cX0_addShare 20 = .ok (.aload 6, 2) := by decide +kernel
theorem dX0_addShare_22 : decode cX0_addShare 22 = .ok (.iload_n 1, 1) := by decide +kernel
theorem dX0_addShare_23 : decode cX0_addShare 23 = .ok (.putfield 89, 3) := by decide +kernel
theorem dX0_addShare_26 : decode cX0_addShare 26 = .ok (.aload 6, 2) := by decide +kernel
theorem dX0_addShare_28 : decode cX0_addShare 28 = .ok (.iload_n 2, 1) := by decide +kernel
theorem dX0_addShare_29 : decode cX0_addShare 29 = .ok (.putfield 92, 3) := by decide +kernel
theorem dX0_addShare_32 : decode cX0_addShare 32 = .ok (.aload 6, 2) := by decide +kernel
theorem dX0_addShare_34 : decode cX0_addShare 34 = .ok (.iload_n 3, 1) := by decide +kernel
theorem dX0_addShare_35 : decode cX0_addShare 35 = .ok (.putfield 95, 3) := by decide +kernel
theorem dX0_addShare_38 : decode cX0_addShare 38 = .ok (.aload 6, 2) := by decide +kernel
theorem dX0_addShare_40 : decode cX0_addShare 40 = .ok (.iload 4, 2) := by decide +kernel
theorem dX0_addShare_42 : decode cX0_addShare 42 = .ok (.putfield 98, 3) := by decide +kernel
theorem dX0_addShare_45 : decode cX0_addShare 45 = .ok (.aload 6, 2) := by decide +kernel
theorem dX0_addShare_47 : decode cX0_addShare 47 = .ok (.iload 5, 2) := by decide +kernel
theorem dX0_addShare_49 : decode cX0_addShare 49 = .ok (.putfield 101, 3) := by decide +kernel
theorem dX0_addShare_52 : decode cX0_addShare 52 = .ok (.aload 6, 2) := by decide +kernel
theorem dX0_addShare_54 : decode cX0_addShare 54 = .ok (.iload 4, 2) := by decide +kernel
theorem dX0_addShare_56 : decode cX0_addShare 56 = .ok (.i2l, 1) := by decide +kernel
theorem dX0_addShare_57 : decode cX0_addShare 57 = .ok (.aload_n 0, 1) := by decide +kernel
theorem dX0_addShare_58 : decode cX0_addShare 58 = .ok (.getfield 26, 3) := by decide +kernel
theorem dX0_addShare_61 : decode cX0_addShare 61 = .ok (.iload 5, 2) := by decide +kernel
theorem dX0_addShare_63 : decode cX0_addShare 63 = .ok (.aaload, 1) := by decide +kernel
theorem dX0_addShare_64 : decode cX0_addShare 64 = .ok (.getfield 104, 3) := by decide +kernel
theorem dX0_addShare_67 : decode cX0_addShare 67 = .ok (.i2l, 1) := by decide +kernel
theorem dX0_addShare_68 : decode cX0_addShare 68 = .ok (.lmul, 1) := by decide +kernel
theorem dX0_addShare_69 : decode cX0_addShare 69 = .ok (.putfield 107, 3) := by decide +kernel
theorem dX0_addShare_72 : decode cX0_addShare 72 = .ok (.aload_n 0, 1) := by decide +kernel
theorem dX0_addShare_73 : decode cX0_addShare 73 = .ok (.getfield 26, 3) := by decide +kernel
theorem dX0_addShare_76 : decode cX0_addShare 76 = .ok (.iload 5, 2) := by decide +kernel
theorem dX0_addShare_78 : decode cX0_addShare 78 = .ok (.aaload, 1) := by decide +kernel
theorem dX0_addShare_79 : decode cX0_addShare 79 = .ok (.dup, 1) := by decide +kernel
theorem dX0_addShare_80 : decode cX0_addShare 80 = .ok (.getfield 110, 3) := by decide +kernel
theorem dX0_addShare_83 : decode cX0_addShare 83 = .ok (.aload 6, 2) := by decide +kernel
theorem dX0_addShare_85 : decode cX0_addShare 85 = .ok (.getfield 107, 3) := by decide +kernel
theorem dX0_addShare_88 : decode cX0_addShare 88 = .ok (.ladd, 1) := by decide +kernel
theorem dX0_addShare_89 : decode cX0_addShare 89 = .ok (.putfield 110, 3) := by decide +kernel
theorem dX0_addShare_92 : decode cX0_addShare 92 = .ok (.aload_n 0, 1) := by decide +kernel
theorem dX0_addShare_93 : decode cX0_addShare 93 = .ok (.dup, 1) := by decide +kernel
theorem dX0_addShare_94 : decode cX0_addShare 94 = .ok (.getfield 69, 3) := by decide +kernel
theorem dX0_addShare_97 : decode cX0_addShare 97 = .ok (.aload 6, 2) := by decide +kernel
theorem dX0_addShare_99 : decode cX0_addShare 99 = .ok (.getfield 107, 3) := by decide +kernel
theorem dX0_addShare_102 : decode cX0_addShare 102 = .ok (.ladd, 1) := by decide +kernel
theorem dX0_addShare_103 : decode cX0_addShare 103 = .ok (.putfield 69, 3) := by decide +kernel
theorem dX0_addShare_106 : decode cX0_addShare 106 = .ok (.aload_n 0, 1) := by decide +kernel
theorem dX0_addShare_107 : decode cX0_addShare 107 = .ok (.dup, 1) := by decide +kernel
theorem dX0_addShare_108 : decode cX0_addShare 108 = .ok (.getfield 53, 3) := by decide +kernel
theorem dX0_addShare_111 : decode cX0_addShare 111 = .ok (.iconst 1, 1) := by decide +kernel
theorem dX0_addShare_112 : decode cX0_addShare 112 = .ok (.iadd, 1) := by decide +kernel
theorem dX0_addShare_113 : decode cX0_addShare 113 = .ok (.putfield 53, 3) := by decide +kernel
theorem dX0_addShare_116 : decode cX0_addShare 116 = .ok (.aload_n 0, 1) := by decide +kernel
theorem dX0_addShare_117 : decode cX0_addShare 117 = .ok (.getfield 53, 3) := by decide +kernel
theorem dX0_addShare_120 : decode cX0_addShare 120 = .ok (.iconst 1, 1) := by decide +kernel
theorem dX0_addShare_121 : decode cX0_addShare 121 = .ok (.isub, 1) := by decide +kernel
theorem dX0_addShare_122 : decode cX0_addShare 122 = .ok (.ireturn, 1) := by decide +kernel
theorem dX0_addPart_0 : decode cX0_addPart 0 = .ok (.aload_n 0, 1) := by decide +kernel
theorem dX0_addPart_1 : decode cX0_addPart 1 = .ok (.getfield 32, 3) := by decide +kernel
theorem dX0_addPart_4 : decode cX0_addPart 4 = .ok (.aload_n 0, 1) := by decide +kernel
theorem dX0_addPart_5 : decode cX0_addPart 5 = .ok (.getfield 53, 3) := by decide +kernel
theorem dX0_addPart_8 : decode cX0_addPart 8 = .ok (.aaload, 1) := by decide +kernel
theorem dX0_addPart_9 : decode cX0_addPart 9 = .ok (.astore_n 3, 1) := by decide +kernel
theorem dX0_addPart_10 : decode cX0_addPart 10 = .ok (.aload_n 3, 1) := by decide +kernel
theorem dX0_addPart_11 : decode cX0_addPart 11 = .ok (.aload_n 1, 1) := by decide +kernel
theorem dX0_addPart_12 : decode cX0_addPart 12 = .ok (.invokevirtual 78, 3) := by decide +kernel
theorem dX0_addPart_15 : decode cX0_addPart 15 = .ok (.aload_n 3, 1) := by decide +kernel
theorem dX0_addPart_16 : decode cX0_addPart 16 = .ok (.iload_n 2, 1) := by decide +kernel
theorem dX0_addPart_17 : decode cX0_addPart 17 = .ok (.invokevirtual 113, 3) := by decide +kernel
theorem dX0_addPart_20 : decode cX0_addPart 20 = .ok (.aload_n 1, 1) := by decide +kernel
theorem dX0_addPart_21 : decode cX0_addPart 21 = .ok (.aload_n 3, 1) := by decide +kernel
theorem dX0_addPart_22 : decode cX0_addPart 22 = .ok (.invokevirtual 116, 3) := by decide +kernel
theorem dX0_addPart_25 : decode cX0_addPart 25 = .ok (.aload_n 0, 1) := by decide +kernel
theorem dX0_addPart_26 : decode cX0_addPart 26 = .ok (.dup, 1) := by decide +kernel
theorem dX0_addPart_27 : decode cX0_addPart 27 = .ok (.getfield 53, 3) := by decide +kernel
theorem dX0_addPart_30 : decode cX0_addPart 30 = .ok (.iconst 1, 1) := by decide +kernel
theorem dX0_addPart_31 : decode cX0_addPart 31 = .ok (.iadd, 1) := by decide +kernel
theorem dX0_addPart_32 : decode cX0_addPart 32 = .ok (.putfield 53, 3) := by decide +kernel
theorem dX0_addPart_35 : decode cX0_addPart 35 = .ok (.aload_n 0, 1) := by decide +kernel
theorem dX0_addPart_36 : decode cX0_addPart 36 = .ok (.getfield 53, 3) := by decide +kernel
theorem dX0_addPart_39 : decode cX0_addPart 39 = .ok (.iconst 1, 1) := by decide +kernel
theorem dX0_addPart_40 : decode cX0_addPart 40 = .ok (.isub, 1) := by decide +kernel
theorem dX0_addPart_41 : decode cX0_addPart 41 = .ok (.ireturn, 1) := by decide +kernel
theorem dX0_canBeLives_0 : decode cX0_canBeLives 0 = .ok (.aload_n 0, 1) := by decide +kernel
theorem dX0_canBeLives_1 : decode cX0_canBeLives 1 = .ok (.iload_n 1, 1) := by decide +kernel
theorem dX0_canBeLives_2 : decode cX0_canBeLives 2 = .ok (.invokevirtual 119, 3) := by decide +kernel
theorem dX0_canBeLives_5 : decode cX0_canBeLives 5 = .ok (.ifCond .eq 15, 3) := by decide +kernel
theorem dX0_canBeLives_8 : decode cX0_canBeLives 8 = .ok (.aload_n 0, 1) := by decide +kernel
theorem dX0_canBeLives_9 : decode cX0_canBeLives 9 = .ok (.getfield 20, 3) := by decide +kernel
theorem dX0_canBeLives_12 : decode cX0_canBeLives 12 = .ok (.iload_n 1, 1) := by decide +kernel
theorem dX0_canBeLives_13 : decode cX0_canBeLives 13 = .ok (.aaload, 1) := by decide +kernel
theorem dX0_canBeLives_14 : decode cX0_canBeLives 14 = .ok (.getfield 123, 3) := by decide +kernel
theorem dX0_canBeLives_17 : decode cX0_canBeLives 17 = .ok (.ifCond .eq 5, 3) := by decide +kernel
theorem dX0_canBeLives_20 : decode cX0_canBeLives 20 = .ok (.iconst 0, 1) := by decide +kernel
theorem dX0_canBeLives_21 : decode cX0_canBeLives 21 = .ok (.ireturn, 1) := by decide +kernel
theorem dX0_canBeLives_22 : decode cX0_canBeLives 22 = .ok (.iload_n 3, 1) := by decide +kernel
theorem dX0_canBeLives_23 : decode cX0_canBeLives 23 = .ok (.ifCond .eq 28, 3) := by decide +kernel
theorem dX0_canBeLives_26 : decode cX0_canBeLives 26 = .ok (.aload_n 0, 1) := by decide +kernel
theorem dX0_canBeLives_27 : decode cX0_canBeLives 27 = .ok (.iload_n 2, 1) := by decide +kernel
theorem dX0_canBeLives_28 : decode cX0_canBeLives 28 = .ok (.invokevirtual 119, 3) := by decide +kernel
theorem dX0_canBeLives_31 : decode cX0_canBeLives 31 = .ok (.ifCond .eq 24, 3) := by decide +kernel
theorem dX0_canBeLives_34 : decode cX0_canBeLives 34 = .ok (.iload_n 2, 1) := by decide +kernel
theorem dX0_canBeLives_35 : decode cX0_canBeLives 35 = .ok (.iload_n 1, 1) := by decide +kernel
theorem dX0_canBeLives_36 : decode cX0_canBeLives 36 = .ok (.if_icmp .eq 19, 3) := by decide +kernel
theorem dX0_canBeLives_39 : decode cX0_canBeLives 39 = .ok (.aload_n 0, 1) := by decide +kernel
theorem dX0_canBeLives_40 : decode cX0_canBeLives 40 = .ok (.getfield 20, 3) := by decide +kernel
theorem dX0_canBeLives_43 : decode cX0_canBeLives 43 = .ok (.iload_n 2, 1) := by decide +kernel
theorem dX0_canBeLives_44 : decode cX0_canBeLives 44 = .ok (.aaload, 1) := by decide +kernel
theorem dX0_canBeLives_45 : decode cX0_canBeLives 45 = .ok (.getfield 123, 3) := by decide +kernel
theorem dX0_canBeLives_48 : decode cX0_canBeLives 48 = .ok (.ifCond .ne 7, 3) := by decide +kernel
theorem dX0_canBeLives_51 : decode cX0_canBeLives 51 = .ok (.iconst 1, 1) := by decide +kernel
theorem dX0_canBeLives_52 : decode cX0_canBeLives 52 = .ok (.goto 4, 3) := by decide +kernel
theorem dX0_canBeLives_55 : decode cX0_canBeLives 55 = .ok (.iconst 0, 1) := by decide +kernel
theorem dX0_canBeLives_56 : decode cX0_canBeLives 56 = .ok (.ireturn, 1) := by decide +kernel
theorem dX0_rankFor_0 : decode cX0_rankFor 0 = .ok (.aload_n 0, 1) := by decide +kernel
theorem dX0_rankFor_1 : decode cX0_rankFor 1 = .ok (.getfield 20, 3) := by decide +kernel
theorem dX0_rankFor_4 : decode cX0_rankFor 4 = .ok (.iload_n 1, 1) := by decide +kernel
theorem dX0_rankFor_5 : decode cX0_rankFor 5 = .ok (.aaload, 1) := by decide +kernel
theorem dX0_rankFor_6 : decode cX0_rankFor 6 = .ok (.getfield 127, 3) := by decide +kernel
theorem dX0_rankFor_9 : decode cX0_rankFor 9 = .ok (.istore_n 3, 1) := by decide +kernel
theorem dX0_rankFor_10 : decode cX0_rankFor 10 = .ok (.aload_n 0, 1) := by decide +kernel
theorem dX0_rankFor_11 : decode cX0_rankFor 11 = .ok (.iload_n 2, 1) := by decide +kernel
theorem dX0_rankFor_12 : decode cX0_rankFor 12 = .ok (.invokevirtual 119, 3) := by decide +kernel
theorem dX0_rankFor_15 : decode cX0_rankFor 15 = .ok (.ifCond .eq 17, 3) := by decide +kernel
theorem dX0_rankFor_18 : decode cX0_rankFor 18 = .ok (.iload_n 3, 1) := by decide +kernel
theorem dX0_rankFor_19 : decode cX0_rankFor 19 = .ok (.aload_n 0, 1) := by decide +kernel
theorem dX0_rankFor_20 : decode cX0_rankFor 20 = .ok (.getfield 20, 3) := by decide +kernel
theorem dX0_rankFor_23 : decode cX0_rankFor 23 = .ok (.iload_n 2, 1) := by decide +kernel
theorem dX0_rankFor_24 : decode cX0_rankFor 24 = .ok (.aaload, 1) := by decide +kernel
theorem dX0_rankFor_25 : decode cX0_rankFor 25 = .ok (.getfield 127, 3) := by decide +kernel
theorem dX0_rankFor_28 : decode cX0_rankFor 28 = .ok (.invokestatic 130, 3) := by decide +kernel
theorem dX0_rankFor_31 : decode cX0_rankFor 31 = .ok (.istore_n 3, 1) := by decide +kernel
theorem dX0_rankFor_32 : decode cX0_rankFor 32 = .ok (.iconst 0, 1) := by decide +kernel
theorem dX0_rankFor_33 : decode cX0_rankFor 33 = .ok (.istore 4, 2) := by decide +kernel
theorem dX0_rankFor_35 : decode cX0_rankFor 35 = .ok (.iload 4, 2) := by decide +kernel
theorem dX0_rankFor_37 : decode cX0_rankFor 37 = .ok (.aload_n 0, 1) := by decide +kernel
theorem dX0_rankFor_38 : decode cX0_rankFor 38 = .ok (.getfield 50, 3) := by decide +kernel
theorem dX0_rankFor_41 : decode cX0_rankFor 41 = .ok (.if_icmp .ge 44, 3) := by decide +kernel
theorem dX0_rankFor_44 : decode cX0_rankFor 44 = .ok (.aload_n 0, 1) := by decide +kernel
theorem dX0_rankFor_45 : decode cX0_rankFor 45 = .ok (.getfield 56, 3) := by decide +kernel
theorem dX0_rankFor_48 : decode cX0_rankFor 48 = .ok (.iload_n 3, 1) := by decide +kernel
theorem dX0_rankFor_49 : decode cX0_rankFor 49 = .ok (.isub, 1) := by decide +kernel
theorem dX0_rankFor_50 : decode cX0_rankFor 50 = .ok (.aload_n 0, 1) := by decide +kernel
theorem dX0_rankFor_51 : decode cX0_rankFor 51 = .ok (.getfield 26, 3) := by decide +kernel
theorem dX0_rankFor_54 : decode cX0_rankFor 54 = .ok (.iload 4, 2) := by decide +kernel
theorem dX0_rankFor_56 : decode cX0_rankFor 56 = .ok (.aaload, 1) := by decide +kernel
theorem dX0_rankFor_57 : decode cX0_rankFor 57 = .ok (.getfield 136, 3) := by decide +kernel
theorem dX0_rankFor_60 : decode cX0_rankFor 60 = .ok (.aload_n 0, 1) := by decide +kernel
theorem dX0_rankFor_61 : decode cX0_rankFor 61 = .ok (.getfield 26, 3) := by decide +kernel
theorem dX0_rankFor_64 : decode cX0_rankFor 64 = .ok (.iload 4, 2) := by decide +kernel
theorem dX0_rankFor_66 : decode cX0_rankFor 66 = .ok (.aaload, 1) := by decide +kernel
theorem dX0_rankFor_67 : decode cX0_rankFor 67 = .ok (.getfield 139, 3) := by decide +kernel
theorem dX0_rankFor_70 : decode cX0_rankFor 70 = .ok (.invokestatic 142, 3) := by decide +kernel
theorem dX0_rankFor_73 : decode cX0_rankFor 73 = .ok (.ifCond .eq 6, 3) := by decide +kernel
theorem dX0_rankFor_76 : decode cX0_rankFor 76 = .ok (.iload 4, 2) := by decide +kernel
theorem dX0_rankFor_78 : decode cX0_rankFor 78 = .ok (.ireturn, 1) := by decide +kernel
theorem dX0_rankFor_79 : decode cX0_rankFor 79 = .ok (.iinc 4 1, 3) := by decide +kernel
theorem dX0_rankFor_82 : decode cX0_rankFor 82 = .ok (.goto (-47), 3) := by decide +kernel
theorem dX0_rankFor_85 : decode cX0_rankFor 85 = .ok (.iconst (-1), 1) := by decide +kernel
theorem dX0_rankFor_86 : decode cX0_rankFor 86 = .ok (.ireturn, 1) := by decide +kernel
theorem dX0_isProved_0 : decode cX0_isProved 0 = .ok (.aload_n 0, 1) := by decide +kernel
theorem dX0_isProved_1 : decode cX0_isProved 1 = .ok (.iload_n 1, 1) := by decide +kernel
theorem dX0_isProved_2 : decode cX0_isProved 2 = .ok (.invokevirtual 119, 3) := by decide +kernel
theorem dX0_isProved_5 : decode cX0_isProved 5 = .ok (.ifCond .eq 19, 3) := by decide +kernel
theorem dX0_isProved_8 : decode cX0_isProved 8 = .ok (.aload_n 0, 1) := by decide +kernel
theorem dX0_isProved_9 : decode cX0_isProved 9 = .ok (.getfield 20, 3) := by decide +kernel
theorem dX0_isProved_12 : decode cX0_isProved 12 = .ok (.iload_n 1, 1) := by decide +kernel
theorem dX0_isProved_13 : decode cX0_isProved 13 = .ok (.aaload, 1) := by decide +kernel
theorem dX0_isProved_14 : decode cX0_isProved 14 = .ok (.getfield 146, 3) := by decide +kernel
theorem dX0_isProved_17 : decode cX0_isProved 17 = .ok (.ifCond .eq 7, 3) := by decide +kernel
theorem dX0_isProved_20 : decode cX0_isProved 20 = .ok (.iconst 1, 1) := by decide +kernel
theorem dX0_isProved_21 : decode cX0_isProved 21 = .ok (.goto 4, 3) := by decide +kernel
theorem dX0_isProved_24 : decode cX0_isProved 24 = .ok (.iconst 0, 1) := by decide +kernel
theorem dX0_isProved_25 : decode cX0_isProved 25 = .ok (.ireturn, 1) := by decide +kernel
theorem dX0_isDead_0 : decode cX0_isDead 0 = .ok (.aload_n 0, 1) := by decide +kernel
theorem dX0_isDead_1 : decode cX0_isDead 1 = .ok (.iload_n 1, 1) := by decide +kernel
theorem dX0_isDead_2 : decode cX0_isDead 2 = .ok (.invokevirtual 119, 3) := by decide +kernel
theorem dX0_isDead_5 : decode cX0_isDead 5 = .ok (.ifCond .eq 19, 3) := by decide +kernel
theorem dX0_isDead_8 : decode cX0_isDead 8 = .ok (.aload_n 0, 1) := by decide +kernel
theorem dX0_isDead_9 : decode cX0_isDead 9 = .ok (.getfield 20, 3) := by decide +kernel
theorem dX0_isDead_12 : decode cX0_isDead 12 = .ok (.iload_n 1, 1) := by decide +kernel
theorem dX0_isDead_13 : decode cX0_isDead 13 = .ok (.aaload, 1) := by decide +kernel
theorem dX0_isDead_14 : decode cX0_isDead 14 = .ok (.getfield 123, 3) := by decide +kernel
theorem dX0_isDead_17 : decode cX0_isDead 17 = .ok (.ifCond .eq 7, 3) := by decide +kernel
theorem dX0_isDead_20 : decode cX0_isDead 20 = .ok (.iconst 1, 1) := by decide +kernel
theorem dX0_isDead_21 : decode cX0_isDead 21 = .ok (.goto 4, 3) := by decide +kernel
theorem dX0_isDead_24 : decode cX0_isDead 24 = .ok (.iconst 0, 1) := by decide +kernel
theorem dX0_isDead_25 : decode cX0_isDead 25 = .ok (.ireturn, 1) := by decide +kernel
theorem dX0_isAllDead_0 : decode cX0_isAllDead 0 = .ok (.aload_n 0, 1) := by decide +kernel
theorem dX0_isAllDead_1 : decode cX0_isAllDead 1 = .ok (.aload_n 1, 1) := by decide +kernel
theorem dX0_isAllDead_2 : decode cX0_isAllDead 2 = .ok (.getfield 92, 3) := by decide +kernel
theorem dX0_isAllDead_5 : decode cX0_isAllDead 5 = .ok (.invokevirtual 149, 3) := by decide +kernel
theorem dX0_isAllDead_8 : decode cX0_isAllDead 8 = .ok (.ifCond .eq 26, 3) := by decide +kernel
theorem dX0_isAllDead_11 : decode cX0_isAllDead 11 = .ok (.aload_n 1, 1) := by decide +kernel
theorem dX0_isAllDead_12 : decode cX0_isAllDead 12 = .ok (.getfield 95, 3) := by decide +kernel
theorem dX0_isAllDead_15 : decode cX0_isAllDead 15 = .ok (.iconst (-1), 1) := by decide +kernel
theorem dX0_isAllDead_16 : decode cX0_isAllDead 16 = .ok (.if_icmp .eq 14, 3) := by decide +kernel
theorem dX0_isAllDead_19 : decode cX0_isAllDead 19 = .ok (.aload_n 0, 1) := by decide +kernel
theorem dX0_isAllDead_20 : decode cX0_isAllDead 20 = .ok (.aload_n 1, 1) := by decide +kernel
theorem dX0_isAllDead_21 : decode cX0_isAllDead 21 = .ok (.getfield 95, 3) := by decide +kernel
theorem dX0_isAllDead_24 : decode cX0_isAllDead 24 = .ok (.invokevirtual 149, 3) := by decide +kernel
theorem dX0_isAllDead_27 : decode cX0_isAllDead 27 = .ok (.ifCond .eq 7, 3) := by decide +kernel
theorem dX0_isAllDead_30 : decode cX0_isAllDead 30 = .ok (.iconst 1, 1) := by decide +kernel
theorem dX0_isAllDead_31 : decode cX0_isAllDead 31 = .ok (.goto 4, 3) := by decide +kernel
theorem dX0_isAllDead_34 : decode cX0_isAllDead 34 = .ok (.iconst 0, 1) := by decide +kernel
theorem dX0_isAllDead_35 : decode cX0_isAllDead 35 = .ok (.ireturn, 1) := by decide +kernel
theorem dX0_howItIs_0 : decode cX0_howItIs 0 = .ok (.aload_n 0, 1) := by decide +kernel
theorem dX0_howItIs_1 : decode cX0_howItIs 1 = .ok (.aload_n 1, 1) := by decide +kernel
theorem dX0_howItIs_2 : decode cX0_howItIs 2 = .ok (.getfield 92, 3) := by decide +kernel
theorem dX0_howItIs_5 : decode cX0_howItIs 5 = .ok (.invokevirtual 152, 3) := by decide +kernel
theorem dX0_howItIs_8 : decode cX0_howItIs 8 = .ok (.ifCond .ne 25, 3) := by decide +kernel
theorem dX0_howItIs_11 : decode cX0_howItIs 11 = .ok (.aload_n 0, 1) := by decide +kernel
theorem dX0_howItIs_12 : decode cX0_howItIs 12 = .ok (.aload_n 1, 1) := by decide +kernel
theorem dX0_howItIs_13 : decode cX0_howItIs 13 = .ok (.getfield 95, 3) := by decide +kernel
theorem dX0_howItIs_16 : decode cX0_howItIs 16 = .ok (.invokevirtual 152, 3) := by decide +kernel
theorem dX0_howItIs_19 : decode cX0_howItIs 19 = .ok (.ifCond .ne 14, 3) := by decide +kernel
theorem dX0_howItIs_22 : decode cX0_howItIs 22 = .ok (.aload_n 0, 1) := by decide +kernel
theorem dX0_howItIs_23 : decode cX0_howItIs 23 = .ok (.getfield 56, 3) := by decide +kernel
theorem dX0_howItIs_26 : decode cX0_howItIs 26 = .ok (.aload_n 1, 1) := by decide +kernel
theorem dX0_howItIs_27 : decode cX0_howItIs 27 = .ok (.getfield 155, 3) := by decide +kernel
theorem dX0_howItIs_30 : decode cX0_howItIs 30 = .ok (.if_icmp .ge 5, 3) := by decide +kernel
theorem dX0_howItIs_33 : decode cX0_howItIs 33 = .ok (.iconst 0, 1) := by decide +kernel
theorem dX0_howItIs_34 : decode cX0_howItIs 34 = .ok (.ireturn, 1) := by decide +kernel
theorem dX0_howItIs_35 : decode cX0_howItIs 35 = .ok (.aload_n 0, 1) := by decide +kernel
theorem dX0_howItIs_36 : decode cX0_howItIs 36 = .ok (.aload_n 1, 1) := by decide +kernel
theorem dX0_howItIs_37 : decode cX0_howItIs 37 = .ok (.invokevirtual 158, 3) := by decide +kernel
theorem dX0_howItIs_40 : decode cX0_howItIs 40 = .ok (.ifCond .eq 5, 3) := by decide +kernel
theorem dX0_howItIs_43 : decode cX0_howItIs 43 = .ok (.iconst 3, 1) := by decide +kernel
theorem dX0_howItIs_44 : decode cX0_howItIs 44 = .ok (.ireturn, 1) := by decide +kernel
theorem dX0_howItIs_45 : decode cX0_howItIs 45 = .ok (.aload_n 1, 1) := by decide +kernel
theorem dX0_howItIs_46 : decode cX0_howItIs 46 = .ok (.getfield 162, 3) := by decide +kernel
theorem dX0_howItIs_49 : decode cX0_howItIs 49 = .ok (.aload_n 0, 1) := by decide +kernel
theorem dX0_howItIs_50 : decode cX0_howItIs 50 = .ok (.getfield 36, 3) := by decide +kernel
theorem dX0_howItIs_53 : decode cX0_howItIs 53 = .ok (.if_icmp .ge 7, 3) := by decide +kernel
theorem dX0_howItIs_56 : decode cX0_howItIs 56 = .ok (.iconst 1, 1) := by decide +kernel
theorem dX0_howItIs_57 : decode cX0_howItIs 57 = .ok (.goto 4, 3) := by decide +kernel
theorem dX0_howItIs_60 : decode cX0_howItIs 60 = .ok (.iconst 2, 1) := by decide +kernel
theorem dX0_howItIs_61 : decode cX0_howItIs 61 = .ok (.ireturn, 1) := by decide +kernel
theorem dX0_isDrawing_0 : decode cX0_isDrawing 0 = .ok (.aload_n 0, 1) := by decide +kernel
theorem dX0_isDrawing_1 : decode cX0_isDrawing 1 = .ok (.aload_n 1, 1) := by decide +kernel
theorem dX0_isDrawing_2 : decode cX0_isDrawing 2 = .ok (.invokevirtual 165, 3) := by decide +kernel
theorem dX0_isDrawing_5 : decode cX0_isDrawing 5 = .ok (.istore_n 2, 1) := by decide +kernel
theorem dX0_isDrawing_6 : decode cX0_isDrawing 6 = .ok (.iload_n 2, 1) := by decide +kernel
theorem dX0_isDrawing_7 : decode cX0_isDrawing 7 = .ok (.ifCond .eq 8, 3) := by decide +kernel
theorem dX0_isDrawing_10 : decode cX0_isDrawing 10 = .ok (.iload_n 2, 1) := by decide +kernel
theorem dX0_isDrawing_11 : decode cX0_isDrawing 11 = .ok (.iconst 1, 1) := by decide +kernel
theorem dX0_isDrawing_12 : decode cX0_isDrawing 12 = .ok (.if_icmp .ne 7, 3) := by decide +kernel
theorem dX0_isDrawing_15 : decode cX0_isDrawing 15 = .ok (.iconst 1, 1) := by decide +kernel
theorem dX0_isDrawing_16 : decode cX0_isDrawing 16 = .ok (.goto 4, 3) := by decide +kernel
theorem dX0_isDrawing_19 : decode cX0_isDrawing 19 = .ok (.iconst 0, 1) := by decide +kernel
theorem dX0_isDrawing_20 : decode cX0_isDrawing 20 = .ok (.ireturn, 1) := by decide +kernel
theorem dX0_endOf_0 : decode cX0_endOf 0 = .ok (.aload_n 0, 1) := by decide +kernel
theorem dX0_endOf_1 : decode cX0_endOf 1 = .ok (.getfield 20, 3) := by decide +kernel
theorem dX0_endOf_4 : decode cX0_endOf 4 = .ok (.aload_n 1, 1) := by decide +kernel
theorem dX0_endOf_5 : decode cX0_endOf 5 = .ok (.getfield 92, 3) := by decide +kernel
theorem dX0_endOf_8 : decode cX0_endOf 8 = .ok (.aaload, 1) := by decide +kernel
theorem dX0_endOf_9 : decode cX0_endOf 9 = .ok (.getfield 169, 3) := by decide +kernel
theorem dX0_endOf_12 : decode cX0_endOf 12 = .ok (.istore_n 2, 1) := by decide +kernel
theorem dX0_endOf_13 : decode cX0_endOf 13 = .ok (.aload_n 0, 1) := by decide +kernel
theorem dX0_endOf_14 : decode cX0_endOf 14 = .ok (.aload_n 1, 1) := by decide +kernel
theorem dX0_endOf_15 : decode cX0_endOf 15 = .ok (.getfield 95, 3) := by decide +kernel
theorem dX0_endOf_18 : decode cX0_endOf 18 = .ok (.invokevirtual 119, 3) := by decide +kernel
theorem dX0_endOf_21 : decode cX0_endOf 21 = .ok (.ifCond .eq 22, 3) := by decide +kernel
theorem dX0_endOf_24 : decode cX0_endOf 24 = .ok (.iload_n 2, 1) := by decide +kernel
theorem dX0_endOf_25 : decode cX0_endOf 25 = .ok (.aload_n 0, 1) := by decide +kernel
theorem dX0_endOf_26 : decode cX0_endOf 26 = .ok (.getfield 20, 3) := by decide +kernel
theorem dX0_endOf_29 : decode cX0_endOf 29 = .ok (.aload_n 1, 1) := by decide +kernel
theorem dX0_endOf_30 : decode cX0_endOf 30 = .ok (.getfield 95, 3) := by decide +kernel
theorem dX0_endOf_33 : decode cX0_endOf 33 = .ok (.aaload, 1) := by decide +kernel
theorem dX0_endOf_34 : decode cX0_endOf 34 = .ok (.getfield 169, 3) := by decide +kernel
theorem dX0_endOf_37 : decode cX0_endOf 37 = .ok (.invokestatic 130, 3) := by decide +kernel
theorem dX0_endOf_40 : decode cX0_endOf 40 = .ok (.goto 4, 3) := by decide +kernel
theorem dX0_endOf_43 : decode cX0_endOf 43 = .ok (.iload_n 2, 1) := by decide +kernel
theorem dX0_endOf_44 : decode cX0_endOf 44 = .ok (.ireturn, 1) := by decide +kernel
theorem dX0_payOut_0 : decode cX0_payOut 0 = .ok (.aload_n 0, 1) := by decide +kernel
theorem dX0_payOut_1 : decode cX0_payOut 1 = .ok (.getfield 20, 3) := by decide +kernel
theorem dX0_payOut_4 : decode cX0_payOut 4 = .ok (.aload_n 1, 1) := by decide +kernel
theorem dX0_payOut_5 : decode cX0_payOut 5 = .ok (.getfield 89, 3) := by decide +kernel
theorem dX0_payOut_8 : decode cX0_payOut 8 = .ok (.aaload, 1) := by decide +kernel
theorem dX0_payOut_9 : decode cX0_payOut 9 = .ok (.astore 4, 2) := by decide +kernel
theorem dX0_payOut_11 : decode cX0_payOut 11 = .ok (.lload_n 2, 1) := by decide +kernel
theorem dX0_payOut_12 : decode cX0_payOut 12 = .ok (.aload_n 0, 1) := by decide +kernel
theorem dX0_payOut_13 : decode cX0_payOut 13 = .ok (.getfield 59, 3) := by decide +kernel
theorem dX0_payOut_16 : decode cX0_payOut 16 = .ok (.i2l, 1) := by decide +kernel
theorem dX0_payOut_17 : decode cX0_payOut 17 = .ok (.ldc2_w 172, 3) := by decide +kernel
theorem dX0_payOut_20 : decode cX0_payOut 20 = .ok (.invokestatic 174, 3) := by decide +kernel
theorem dX0_payOut_23 : decode cX0_payOut 23 = .ok (.lstore 5, 2) := by decide +kernel
theorem dX0_payOut_25 : decode cX0_payOut 25 = .ok (.lload_n 2, 1) := by decide +kernel
theorem dX0_payOut_26 : decode cX0_payOut 26 = .ok (.lload 5, 2) := by decide +kernel
theorem dX0_payOut_28 : decode cX0_payOut 28 = .ok (.lsub, 1) := by decide +kernel
theorem dX0_payOut_29 : decode cX0_payOut 29 = .ok (.lstore 7, 2) := by decide +kernel
theorem dX0_payOut_31 : decode cX0_payOut 31 = .ok (.lload 7, 2) := by decide +kernel
theorem dX0_payOut_33 : decode cX0_payOut 33 = .ok (.aload 4, 2) := by decide +kernel
theorem dX0_payOut_35 : decode cX0_payOut 35 = .ok (.getfield 178, 3) := by decide +kernel
theorem dX0_payOut_38 : decode cX0_payOut 38 = .ok (.invokestatic 181, 3) := by decide +kernel
theorem dX0_payOut_41 : decode cX0_payOut 41 = .ok (.lstore 9, 2) := by decide +kernel
theorem dX0_payOut_43 : decode cX0_payOut 43 = .ok (.lload 7, 2) := by decide +kernel
theorem dX0_payOut_45 : decode cX0_payOut 45 = .ok (.lload 9, 2) := by decide +kernel
theorem dX0_payOut_47 : decode cX0_payOut 47 = .ok (.lsub, 1) := by decide +kernel
theorem dX0_payOut_48 : decode cX0_payOut 48 = .ok (.lstore 7, 2) := by decide +kernel
theorem dX0_payOut_50 : decode cX0_payOut 50 = .ok (.aload_n 0, 1) := by decide +kernel
theorem dX0_payOut_51 : decode cX0_payOut 51 = .ok (.aload_n 1, 1) := by decide +kernel
theorem dX0_payOut_52 : decode cX0_payOut 52 = .ok (.getfield 185, 3) := by decide +kernel
theorem dX0_payOut_55 : decode cX0_payOut 55 = .ok (.invokevirtual 119, 3) := by decide +kernel
theorem dX0_payOut_58 : decode cX0_payOut 58 = .ok (.ifCond .eq 15, 3) := by decide +kernel
theorem dX0_payOut_61 : decode cX0_payOut 61 = .ok (.lload 7, 2) := by decide +kernel
theorem dX0_payOut_63 : decode cX0_payOut 63 = .ok (.aload_n 1, 1) := by decide +kernel
theorem dX0_payOut_64 : decode cX0_payOut 64 = .ok (.getfield 188, 3) := by decide +kernel
theorem dX0_payOut_67 : decode cX0_payOut 67 = .ok (.invokestatic 181, 3) := by decide +kernel
theorem dX0_payOut_70 : decode cX0_payOut 70 = .ok (.goto 4, 3) := by decide +kernel
theorem dX0_payOut_73 : decode cX0_payOut 73 = .ok (.lconst 0, 1) := by decide +kernel
theorem dX0_payOut_74 : decode cX0_payOut 74 = .ok (.lstore 11, 2) := by decide +kernel
theorem dX0_payOut_76 : decode cX0_payOut 76 = .ok (.lload 7, 2) := by decide +kernel
theorem dX0_payOut_78 : decode cX0_payOut 78 = .ok (.lload 11, 2) := by decide +kernel
theorem dX0_payOut_80 : decode cX0_payOut 80 = .ok (.lsub, 1) := by decide +kernel
theorem dX0_payOut_81 : decode cX0_payOut 81 = .ok (.lstore 7, 2) := by decide +kernel
theorem dX0_payOut_83 : decode cX0_payOut 83 = .ok (.aload_n 0, 1) := by decide +kernel
theorem dX0_payOut_84 : decode cX0_payOut 84 = .ok (.dup, 1) := by decide +kernel
theorem dX0_payOut_85 : decode cX0_payOut 85 = .ok (.getfield 66, 3) := by decide +kernel
theorem dX0_payOut_88 : decode cX0_payOut 88 = .ok (.lload 5, 2) := by decide +kernel
theorem dX0_payOut_90 : decode cX0_payOut 90 = .ok (.ladd, 1) := by decide +kernel
theorem dX0_payOut_91 : decode cX0_payOut 91 = .ok (.putfield 66, 3) := by decide +kernel
theorem dX0_payOut_94 : decode cX0_payOut 94 = .ok (.aload 4, 2) := by decide +kernel
theorem dX0_payOut_96 : decode cX0_payOut 96 = .ok (.dup, 1) := by decide +kernel
theorem dX0_payOut_97 : decode cX0_payOut 97 = .ok (.getfield 178, 3) := by decide +kernel
theorem dX0_payOut_100 : decode cX0_payOut 100 = .ok (.lload 9, 2) := by decide +kernel
theorem dX0_payOut_102 : decode cX0_payOut 102 = .ok (.lsub, 1) := by decide +kernel
theorem dX0_payOut_103 : decode cX0_payOut 103 = .ok (.putfield 178, 3) := by decide +kernel
theorem dX0_payOut_106 : decode cX0_payOut 106 = .ok (.aload_n 0, 1) := by decide +kernel
theorem dX0_payOut_107 : decode cX0_payOut 107 = .ok (.dup, 1) := by decide +kernel
theorem dX0_payOut_108 : decode cX0_payOut 108 = .ok (.getfield 62, 3) := by decide +kernel
theorem dX0_payOut_111 : decode cX0_payOut 111 = .ok (.lload 9, 2) := by decide +kernel
theorem dX0_payOut_113 : decode cX0_payOut 113 = .ok (.ladd, 1) := by decide +kernel
theorem dX0_payOut_114 : decode cX0_payOut 114 = .ok (.putfield 62, 3) := by decide +kernel
theorem dX0_payOut_117 : decode cX0_payOut 117 = .ok (.aload_n 0, 1) := by decide +kernel
theorem dX0_payOut_118 : decode cX0_payOut 118 = .ok (.aload_n 1, 1) := by decide +kernel
theorem dX0_payOut_119 : decode cX0_payOut 119 = .ok (.getfield 185, 3) := by decide +kernel
theorem dX0_payOut_122 : decode cX0_payOut 122 = .ok (.invokevirtual 119, 3) := by decide +kernel
theorem dX0_payOut_125 : decode cX0_payOut 125 = .ok (.ifCond .eq 33, 3) := by decide +kernel
theorem dX0_payOut_128 : decode cX0_payOut 128 = .ok (.aload_n 1, 1) := by decide +kernel
theorem dX0_payOut_129 : decode cX0_payOut 129 = .ok (.dup, 1) := by decide +kernel
theorem dX0_payOut_130 : decode cX0_payOut 130 = .ok (.getfield 188, 3) := by decide +kernel
theorem dX0_payOut_133 : decode cX0_payOut 133 = .ok (.lload 11, 2) := by decide +kernel
theorem dX0_payOut_135 : decode cX0_payOut 135 = .ok (.lsub, 1) := by decide +kernel
theorem dX0_payOut_136 : decode cX0_payOut 136 = .ok (.putfield 188, 3) := by decide +kernel
theorem dX0_payOut_139 : decode cX0_payOut 139 = .ok (.aload_n 0, 1) := by decide +kernel
theorem dX0_payOut_140 : decode cX0_payOut 140 = .ok (.getfield 20, 3) := by decide +kernel
theorem dX0_payOut_143 : decode cX0_payOut 143 = .ok (.aload_n 1, 1) := by decide +kernel
theorem dX0_payOut_144 : decode cX0_payOut 144 = .ok (.getfield 185, 3) := by decide +kernel
theorem dX0_payOut_147 : decode cX0_payOut 147 = .ok (.aaload, 1) := by decide +kernel
theorem dX0_payOut_148 : decode cX0_payOut 148 = .ok (.dup, 1) := by decide +kernel
theorem dX0_payOut_149 : decode cX0_payOut 149 = .ok (.getfield 191, 3) := by decide +kernel
theorem dX0_payOut_152 : decode cX0_payOut 152 = .ok (.lload 11, 2) := by decide +kernel
theorem dX0_payOut_154 : decode cX0_payOut 154 = .ok (.ladd, 1) := by decide +kernel
theorem dX0_payOut_155 : decode cX0_payOut 155 = .ok (.putfield 191, 3) := by decide +kernel
theorem dX0_payOut_158 : decode cX0_payOut 158 = .ok (.aload 4, 2) := by decide +kernel
theorem dX0_payOut_160 : decode cX0_payOut 160 = .ok (.dup, 1) := by decide +kernel
theorem dX0_payOut_161 : decode cX0_payOut 161 = .ok (.getfield 191, 3) := by decide +kernel
theorem dX0_payOut_164 : decode cX0_payOut 164 = .ok (.lload 7, 2) := by decide +kernel
theorem dX0_payOut_166 : decode cX0_payOut 166 = .ok (.ladd, 1) := by decide +kernel
theorem dX0_payOut_167 : decode cX0_payOut 167 = .ok (.putfield 191, 3) := by decide +kernel
theorem dX0_payOut_170 : decode cX0_payOut 170 = .ok (.aload_n 1, 1) := by decide +kernel
theorem dX0_payOut_171 : decode cX0_payOut 171 = .ok (.dup, 1) := by decide +kernel
theorem dX0_payOut_172 : decode cX0_payOut 172 = .ok (.getfield 194, 3) := by decide +kernel
theorem dX0_payOut_175 : decode cX0_payOut 175 = .ok (.lload_n 2, 1) := by decide +kernel
theorem dX0_payOut_176 : decode cX0_payOut 176 = .ok (.ladd, 1) := by decide +kernel
theorem dX0_payOut_177 : decode cX0_payOut 177 = .ok (.putfield 194, 3) := by decide +kernel
theorem dX0_payOut_180 : decode cX0_payOut 180 = .ok (.return_, 1) := by decide +kernel
theorem dX0_payHeld_0 : decode cX0_payHeld 0 = .ok (.aload_n 1, 1) := by decide +kernel
theorem dX0_payHeld_1 : decode cX0_payHeld 1 = .ok (.aload_n 0, 1) := by decide +kernel
theorem dX0_payHeld_2 : decode cX0_payHeld 2 = .ok (.getfield 56, 3) := by decide +kernel
theorem dX0_payHeld_5 : decode cX0_payHeld 5 = .ok (.invokevirtual 197, 3) := by decide +kernel
theorem dX0_payHeld_8 : decode cX0_payHeld 8 = .ok (.lstore_n 2, 1) := by decide +kernel
theorem dX0_payHeld_9 : decode cX0_payHeld 9 = .ok (.aload_n 0, 1) := by decide +kernel
theorem dX0_payHeld_10 : decode cX0_payHeld 10 = .ok (.aload_n 1, 1) := by decide +kernel
theorem dX0_payHeld_11 : decode cX0_payHeld 11 = .ok (.lload_n 2, 1) := by decide +kernel
theorem dX0_payHeld_12 : decode cX0_payHeld 12 = .ok (.invokevirtual 201, 3) := by decide +kernel
theorem dX0_payHeld_15 : decode cX0_payHeld 15 = .ok (.lload_n 2, 1) := by decide +kernel
theorem dX0_payHeld_16 : decode cX0_payHeld 16 = .ok (.lreturn, 1) := by decide +kernel
theorem dX0_prove_0 : decode cX0_prove 0 = .ok (.aload_n 0, 1) := by decide +kernel
theorem dX0_prove_1 : decode cX0_prove 1 = .ok (.getfield 20, 3) := by decide +kernel
theorem dX0_prove_4 : decode cX0_prove 4 = .ok (.iload_n 1, 1) := by decide +kernel
theorem dX0_prove_5 : decode cX0_prove 5 = .ok (.aaload, 1) := by decide +kernel
theorem dX0_prove_6 : decode cX0_prove 6 = .ok (.iconst 1, 1) := by decide +kernel
theorem dX0_prove_7 : decode cX0_prove 7 = .ok (.putfield 146, 3) := by decide +kernel
theorem dX0_prove_10 : decode cX0_prove 10 = .ok (.lconst 0, 1) := by decide +kernel
theorem dX0_prove_11 : decode cX0_prove 11 = .ok (.lstore_n 2, 1) := by decide +kernel
theorem dX0_prove_12 : decode cX0_prove 12 = .ok (.iconst 0, 1) := by decide +kernel
theorem dX0_prove_13 : decode cX0_prove 13 = .ok (.istore 4, 2) := by decide +kernel
theorem dX0_prove_15 : decode cX0_prove 15 = .ok (.iload 4, 2) := by decide +kernel
theorem dX0_prove_17 : decode cX0_prove 17 = .ok (.aload_n 0, 1) := by decide +kernel
theorem dX0_prove_18 : decode cX0_prove 18 = .ok (.getfield 53, 3) := by decide +kernel
theorem dX0_prove_21 : decode cX0_prove 21 = .ok (.if_icmp .ge 48, 3) := by decide +kernel
theorem dX0_prove_24 : decode cX0_prove 24 = .ok (.aload_n 0, 1) := by decide +kernel
theorem dX0_prove_25 : decode cX0_prove 25 = .ok (.getfield 32, 3) := by decide +kernel
theorem dX0_prove_28 : decode cX0_prove 28 = .ok (.iload 4, 2) := by decide +kernel
theorem dX0_prove_30 : decode cX0_prove 30 = .ok (.aaload, 1) := by decide +kernel
theorem dX0_prove_31 : decode cX0_prove 31 = .ok (.iload_n 1, 1) := by decide +kernel
theorem dX0_prove_32 : decode cX0_prove 32 = .ok (.invokevirtual 205, 3) := by decide +kernel
theorem dX0_prove_35 : decode cX0_prove 35 = .ok (.ifCond .eq 28, 3) := by decide +kernel
theorem dX0_prove_38 : decode cX0_prove 38 = .ok (.lload_n 2, 1) := by decide +kernel
theorem dX0_prove_39 : decode cX0_prove 39 = .ok (.aload_n 0, 1) := by decide +kernel
theorem dX0_prove_40 : decode cX0_prove 40 = .ok (.aload_n 0, 1) := by decide +kernel
theorem dX0_prove_41 : decode cX0_prove 41 = .ok (.getfield 32, 3) := by decide +kernel
theorem dX0_prove_44 : decode cX0_prove 44 = .ok (.iload 4, 2) := by decide +kernel
theorem dX0_prove_46 : decode cX0_prove 46 = .ok (.aaload, 1) := by decide +kernel
theorem dX0_prove_47 : decode cX0_prove 47 = .ok (.invokevirtual 208, 3) := by decide +kernel
theorem dX0_prove_50 : decode cX0_prove 50 = .ok (.ladd, 1) := by decide +kernel
theorem dX0_prove_51 : decode cX0_prove 51 = .ok (.lstore_n 2, 1) := by decide +kernel
theorem dX0_prove_52 : decode cX0_prove 52 = .ok (.aload_n 0, 1) := by decide +kernel
theorem dX0_prove_53 : decode cX0_prove 53 = .ok (.getfield 32, 3) := by decide +kernel
theorem dX0_prove_56 : decode cX0_prove 56 = .ok (.iload 4, 2) := by decide +kernel
theorem dX0_prove_58 : decode cX0_prove 58 = .ok (.aaload, 1) := by decide +kernel
theorem dX0_prove_59 : decode cX0_prove 59 = .ok (.iconst 0, 1) := by decide +kernel
theorem dX0_prove_60 : decode cX0_prove 60 = .ok (.putfield 162, 3) := by decide +kernel
theorem dX0_prove_63 : decode cX0_prove 63 = .ok (.iinc 4 1, 3) := by decide +kernel
theorem dX0_prove_66 : decode cX0_prove 66 = .ok (.goto (-51), 3) := by decide +kernel
theorem dX0_prove_69 : decode cX0_prove 69 = .ok (.lload_n 2, 1) := by decide +kernel
theorem dX0_prove_70 : decode cX0_prove 70 = .ok (.lreturn, 1) := by decide +kernel
theorem dX0_learnDeath_0 : decode cX0_learnDeath 0 = .ok (.aload_n 0, 1) := by decide +kernel
theorem dX0_learnDeath_1 : decode cX0_learnDeath 1 = .ok (.getfield 20, 3) := by decide +kernel
theorem dX0_learnDeath_4 : decode cX0_learnDeath 4 = .ok (.iload_n 1, 1) := by decide +kernel
theorem dX0_learnDeath_5 : decode cX0_learnDeath 5 = .ok (.aaload, 1) := by decide +kernel
theorem dX0_learnDeath_6 : decode cX0_learnDeath 6 = .ok (.iconst 1, 1) := by decide +kernel
theorem dX0_learnDeath_7 : decode cX0_learnDeath 7 = .ok (.putfield 123, 3) := by decide +kernel
theorem dX0_learnDeath_10 : decode cX0_learnDeath 10 = .ok (.aload_n 0, 1) := by decide +kernel
theorem dX0_learnDeath_11 : decode cX0_learnDeath 11 = .ok (.getfield 20, 3) := by decide +kernel
theorem dX0_learnDeath_14 : decode cX0_learnDeath 14 = .ok (.iload_n 1, 1) := by decide +kernel
theorem dX0_learnDeath_15 : decode cX0_learnDeath 15 = .ok (.aaload, 1) := by decide +kernel
theorem dX0_learnDeath_16 : decode cX0_learnDeath 16 = .ok (.iload_n 2, 1) := by decide +kernel
theorem dX0_learnDeath_17 : decode cX0_learnDeath 17 = .ok (.putfield 169, 3) := by decide +kernel
theorem dX0_learnDeath_20 : decode cX0_learnDeath 20 = .ok (.aload_n 0, 1) := by decide +kernel
theorem dX0_learnDeath_21 : decode cX0_learnDeath 21 = .ok (.getfield 20, 3) := by decide +kernel
theorem dX0_learnDeath_24 : decode cX0_learnDeath 24 = .ok (.iload_n 1, 1) := by decide +kernel
theorem dX0_learnDeath_25 : decode cX0_learnDeath 25 = .ok (.aaload, 1) := by decide +kernel
theorem dX0_learnDeath_26 : decode cX0_learnDeath 26 = .ok (.iconst 0, 1) := by decide +kernel
theorem dX0_learnDeath_27 : decode cX0_learnDeath 27 = .ok (.putfield 146, 3) := by decide +kernel
theorem dX0_learnDeath_30 : decode cX0_learnDeath 30 = .ok (.lconst 0, 1) := by decide +kernel
theorem dX0_learnDeath_31 : decode cX0_learnDeath 31 = .ok (.lstore_n 3, 1) := by decide +kernel
theorem dX0_learnDeath_32 : decode cX0_learnDeath 32 = .ok (.iconst 0, 1) := by decide +kernel
theorem dX0_learnDeath_33 : decode cX0_learnDeath 33 = .ok (.istore 5, 2) := by decide +kernel
theorem dX0_learnDeath_35 : decode cX0_learnDeath 35 = .ok (.iload 5, 2) := by decide +kernel
theorem dX0_learnDeath_37 : decode cX0_learnDeath 37 = .ok (.aload_n 0, 1) := by decide +kernel
theorem dX0_learnDeath_38 : decode cX0_learnDeath 38 = .ok (.getfield 53, 3) := by decide +kernel
theorem dX0_learnDeath_41 : decode cX0_learnDeath 41 = .ok (.if_icmp .ge 51, 3) := by decide +kernel
theorem dX0_learnDeath_44 : decode cX0_learnDeath 44 = .ok (.aload_n 0, 1) := by decide +kernel
theorem dX0_learnDeath_45 : decode cX0_learnDeath 45 = .ok (.getfield 32, 3) := by decide +kernel
theorem dX0_learnDeath_48 : decode cX0_learnDeath 48 = .ok (.iload 5, 2) := by decide +kernel
theorem dX0_learnDeath_50 : decode cX0_learnDeath 50 = .ok (.aaload, 1) := by decide +kernel
theorem dX0_learnDeath_51 : decode cX0_learnDeath 51 = .ok (.iload_n 1, 1) := by decide +kernel
theorem dX0_learnDeath_52 : decode cX0_learnDeath 52 = .ok (.invokevirtual 205, 3) := by decide +kernel
theorem dX0_learnDeath_55 : decode cX0_learnDeath 55 = .ok (.ifCond .eq 31, 3) := by decide +kernel
theorem dX0_learnDeath_58 : decode cX0_learnDeath 58 = .ok (.aload_n 0, 1) := by decide +kernel
theorem dX0_learnDeath_59 : decode cX0_learnDeath 59 = .ok (.aload_n 0, 1) := by decide +kernel
theorem dX0_learnDeath_60 : decode cX0_learnDeath 60 = .ok (.getfield 32, 3) := by decide +kernel
theorem dX0_learnDeath_63 : decode cX0_learnDeath 63 = .ok (.iload 5, 2) := by decide +kernel
theorem dX0_learnDeath_65 : decode cX0_learnDeath 65 = .ok (.aaload, 1) := by decide +kernel
theorem dX0_learnDeath_66 : decode cX0_learnDeath 66 = .ok (.invokevirtual 158, 3) := by decide +kernel
theorem dX0_learnDeath_69 : decode cX0_learnDeath 69 = .ok (.ifCond .eq 17, 3) := by decide +kernel
theorem dX0_learnDeath_72 : decode cX0_learnDeath 72 = .ok (.lload_n 3, 1) := by decide +kernel
theorem dX0_learnDeath_73 : decode cX0_learnDeath 73 = .ok (.aload_n 0, 1) := by decide +kernel
theorem dX0_learnDeath_74 : decode cX0_learnDeath 74 = .ok (.aload_n 0, 1) := by decide +kernel
theorem dX0_learnDeath_75 : decode cX0_learnDeath 75 = .ok (.getfield 32, 3) := by decide +kernel
theorem dX0_learnDeath_78 : decode cX0_learnDeath 78 = .ok (.iload 5, 2) := by decide +kernel
theorem dX0_learnDeath_80 : decode cX0_learnDeath 80 = .ok (.aaload, 1) := by decide +kernel
theorem dX0_learnDeath_81 : decode cX0_learnDeath 81 = .ok (.invokevirtual 212, 3) := by decide +kernel
theorem dX0_learnDeath_84 : decode cX0_learnDeath 84 = .ok (.ladd, 1) := by decide +kernel
theorem dX0_learnDeath_85 : decode cX0_learnDeath 85 = .ok (.lstore_n 3, 1) := by decide +kernel
theorem dX0_learnDeath_86 : decode cX0_learnDeath 86 = .ok (.iinc 5 1, 3) := by decide +kernel
theorem dX0_learnDeath_89 : decode cX0_learnDeath 89 = .ok (.goto (-54), 3) := by decide +kernel
theorem dX0_learnDeath_92 : decode cX0_learnDeath 92 = .ok (.lload_n 3, 1) := by decide +kernel
theorem dX0_learnDeath_93 : decode cX0_learnDeath 93 = .ok (.lreturn, 1) := by decide +kernel
theorem dX0_settle_0 : decode cX0_settle 0 = .ok (.aload_n 0, 1) := by decide +kernel
theorem dX0_settle_1 : decode cX0_settle 1 = .ok (.aload_n 1, 1) := by decide +kernel
theorem dX0_settle_2 : decode cX0_settle 2 = .ok (.invokevirtual 215, 3) := by decide +kernel
theorem dX0_settle_5 : decode cX0_settle 5 = .ok (.istore_n 2, 1) := by decide +kernel
theorem dX0_settle_6 : decode cX0_settle 6 = .ok (.aload_n 0, 1) := by decide +kernel
theorem dX0_settle_7 : decode cX0_settle 7 = .ok (.dup, 1) := by decide +kernel
theorem dX0_settle_8 : decode cX0_settle 8 = .ok (.getfield 62, 3) := by decide +kernel
theorem dX0_settle_11 : decode cX0_settle 11 = .ok (.aload_n 1, 1) := by decide +kernel
theorem dX0_settle_12 : decode cX0_settle 12 = .ok (.iload_n 2, 1) := by decide +kernel
theorem dX0_settle_13 : decode cX0_settle 13 = .ok (.aload_n 0, 1) := by decide +kernel
theorem dX0_settle_14 : decode cX0_settle 14 = .ok (.getfield 56, 3) := by decide +kernel
theorem dX0_settle_17 : decode cX0_settle 17 = .ok (.invokevirtual 218, 3) := by decide +kernel
theorem dX0_settle_20 : decode cX0_settle 20 = .ok (.ladd, 1) := by decide +kernel
theorem dX0_settle_21 : decode cX0_settle 21 = .ok (.putfield 62, 3) := by decide +kernel
theorem dX0_settle_24 : decode cX0_settle 24 = .ok (.aload_n 0, 1) := by decide +kernel
theorem dX0_settle_25 : decode cX0_settle 25 = .ok (.aload_n 1, 1) := by decide +kernel
theorem dX0_settle_26 : decode cX0_settle 26 = .ok (.invokevirtual 208, 3) := by decide +kernel
theorem dX0_settle_29 : decode cX0_settle 29 = .ok (.pop2, 1) := by decide +kernel
theorem dX0_settle_30 : decode cX0_settle 30 = .ok (.aload_n 1, 1) := by decide +kernel
theorem dX0_settle_31 : decode cX0_settle 31 = .ok (.iload_n 2, 1) := by decide +kernel
theorem dX0_settle_32 : decode cX0_settle 32 = .ok (.iconst 1, 1) := by decide +kernel
theorem dX0_settle_33 : decode cX0_settle 33 = .ok (.iadd, 1) := by decide +kernel
theorem dX0_settle_34 : decode cX0_settle 34 = .ok (.aload_n 1, 1) := by decide +kernel
theorem dX0_settle_35 : decode cX0_settle 35 = .ok (.getfield 155, 3) := by decide +kernel
theorem dX0_settle_38 : decode cX0_settle 38 = .ok (.invokestatic 130, 3) := by decide +kernel
theorem dX0_settle_41 : decode cX0_settle 41 = .ok (.aload_n 0, 1) := by decide +kernel
theorem dX0_settle_42 : decode cX0_settle 42 = .ok (.getfield 56, 3) := by decide +kernel
theorem dX0_settle_45 : decode cX0_settle 45 = .ok (.invokevirtual 222, 3) := by decide +kernel
theorem dX0_settle_48 : decode cX0_settle 48 = .ok (.lstore_n 3, 1) := by decide +kernel
theorem dX0_settle_49 : decode cX0_settle 49 = .ok (.aload_n 0, 1) := by decide +kernel
theorem dX0_settle_50 : decode cX0_settle 50 = .ok (.getfield 20, 3) := by decide +kernel
theorem dX0_settle_53 : decode cX0_settle 53 = .ok (.aload_n 1, 1) := by decide +kernel
theorem dX0_settle_54 : decode cX0_settle 54 = .ok (.getfield 89, 3) := by decide +kernel
theorem dX0_settle_57 : decode cX0_settle 57 = .ok (.aaload, 1) := by decide +kernel
theorem dX0_settle_58 : decode cX0_settle 58 = .ok (.dup, 1) := by decide +kernel
theorem dX0_settle_59 : decode cX0_settle 59 = .ok (.getfield 178, 3) := by decide +kernel
theorem dX0_settle_62 : decode cX0_settle 62 = .ok (.lload_n 3, 1) := by decide +kernel
theorem dX0_settle_63 : decode cX0_settle 63 = .ok (.ladd, 1) := by decide +kernel
theorem dX0_settle_64 : decode cX0_settle 64 = .ok (.putfield 178, 3) := by decide +kernel
theorem dX0_settle_67 : decode cX0_settle 67 = .ok (.lload_n 3, 1) := by decide +kernel
theorem dX0_settle_68 : decode cX0_settle 68 = .ok (.lreturn, 1) := by decide +kernel
theorem dX0_partPot_0 : decode cX0_partPot 0 = .ok (.aload_n 0, 1) := by decide +kernel
theorem dX0_partPot_1 : decode cX0_partPot 1 = .ok (.dup, 1) := by decide +kernel
theorem dX0_partPot_2 : decode cX0_partPot 2 = .ok (.getfield 62, 3) := by decide +kernel
theorem dX0_partPot_5 : decode cX0_partPot 5 = .ok (.iload_n 1, 1) := by decide +kernel
theorem dX0_partPot_6 : decode cX0_partPot 6 = .ok (.i2l, 1) := by decide +kernel
theorem dX0_partPot_7 : decode cX0_partPot 7 = .ok (.ladd, 1) := by decide +kernel
theorem dX0_partPot_8 : decode cX0_partPot 8 = .ok (.putfield 62, 3) := by decide +kernel
theorem dX0_partPot_11 : decode cX0_partPot 11 = .ok (.aload_n 0, 1) := by decide +kernel
theorem dX0_partPot_12 : decode cX0_partPot 12 = .ok (.dup, 1) := by decide +kernel
theorem dX0_partPot_13 : decode cX0_partPot 13 = .ok (.getfield 69, 3) := by decide +kernel
theorem dX0_partPot_16 : decode cX0_partPot 16 = .ok (.iload_n 1, 1) := by decide +kernel
theorem dX0_partPot_17 : decode cX0_partPot 17 = .ok (.i2l, 1) := by decide +kernel
theorem dX0_partPot_18 : decode cX0_partPot 18 = .ok (.ladd, 1) := by decide +kernel
theorem dX0_partPot_19 : decode cX0_partPot 19 = .ok (.putfield 69, 3) := by decide +kernel
theorem dX0_partPot_22 : decode cX0_partPot 22 = .ok (.aload_n 0, 1) := by decide +kernel
theorem dX0_partPot_23 : decode cX0_partPot 23 = .ok (.invokevirtual 225, 3) := by decide +kernel
theorem dX0_partPot_26 : decode cX0_partPot 26 = .ok (.lstore_n 2, 1) := by decide +kernel
theorem dX0_partPot_27 : decode cX0_partPot 27 = .ok (.lconst 0, 1) := by decide +kernel
theorem dX0_partPot_28 : decode cX0_partPot 28 = .ok (.lstore 4, 2) := by decide +kernel
theorem dX0_partPot_30 : decode cX0_partPot 30 = .ok (.iconst 0, 1) := by decide +kernel
theorem dX0_partPot_31 : decode cX0_partPot 31 = .ok (.istore 6, 2) := by decide +kernel
theorem dX0_partPot_33 : decode cX0_partPot 33 = .ok (.iload 6, 2) := by decide +kernel
theorem dX0_partPot_35 : decode cX0_partPot 35 = .ok (.aload_n 0, 1) := by decide +kernel
theorem dX0_partPot_36 : decode cX0_partPot 36 = .ok (.getfield 50, 3) := by decide +kernel
theorem dX0_partPot_39 : decode cX0_partPot 39 = .ok (.if_icmp .ge 71, 3) := by decide +kernel
theorem dX0_partPot_42 : decode cX0_partPot 42 = .ok (.aload_n 0, 1) := by decide +kernel
theorem dX0_partPot_43 : decode cX0_partPot 43 = .ok (.getfield 26, 3) := by decide +kernel
theorem dX0_partPot_46 : decode cX0_partPot 46 = .ok (.iload 6, 2) := by decide +kernel
theorem dX0_partPot_48 : decode cX0_partPot 48 = .ok (.aaload, 1) := by decide +kernel
theorem dX0_partPot_49 : decode cX0_partPot 49 = .ok (.astore 7, 2) := by decide +kernel
theorem dX0_partPot_51 : decode cX0_partPot 51 = .ok (.aload 7, 2) := by decide +kernel
theorem dX0_partPot_53 : decode cX0_partPot 53 = .ok (.aload_n 0, 1) := by decide +kernel
theorem dX0_partPot_54 : decode cX0_partPot 54 = .ok (.iload 6, 2) := by decide +kernel
theorem dX0_partPot_56 : decode cX0_partPot 56 = .ok (.invokevirtual 229, 3) := by decide +kernel
theorem dX0_partPot_59 : decode cX0_partPot 59 = .ok (.putfield 232, 3) := by decide +kernel
theorem dX0_partPot_62 : decode cX0_partPot 62 = .ok (.aload 7, 2) := by decide +kernel
theorem dX0_partPot_64 : decode cX0_partPot 64 = .ok (.lload 4, 2) := by decide +kernel
theorem dX0_partPot_66 : decode cX0_partPot 66 = .ok (.aload_n 0, 1) := by decide +kernel
theorem dX0_partPot_67 : decode cX0_partPot 67 = .ok (.getfield 62, 3) := by decide +kernel
theorem dX0_partPot_70 : decode cX0_partPot 70 = .ok (.aload 7, 2) := by decide +kernel
theorem dX0_partPot_72 : decode cX0_partPot 72 = .ok (.getfield 110, 3) := by decide +kernel
theorem dX0_partPot_75 : decode cX0_partPot 75 = .ok (.lload_n 2, 1) := by decide +kernel
theorem dX0_partPot_76 : decode cX0_partPot 76 = .ok (.invokestatic 174, 3) := by decide +kernel
theorem dX0_partPot_79 : decode cX0_partPot 79 = .ok (.ladd, 1) := by decide +kernel
theorem dX0_partPot_80 : decode cX0_partPot 80 = .ok (.putfield 235, 3) := by decide +kernel
theorem dX0_partPot_83 : decode cX0_partPot 83 = .ok (.aload 7, 2) := by decide +kernel
theorem dX0_partPot_85 : decode cX0_partPot 85 = .ok (.getfield 232, 3) := by decide +kernel
theorem dX0_partPot_88 : decode cX0_partPot 88 = .ok (.lconst 0, 1) := by decide +kernel
theorem dX0_partPot_89 : decode cX0_partPot 89 = .ok (.lcmp, 1) := by decide +kernel
theorem dX0_partPot_90 : decode cX0_partPot 90 = .ok (.ifCond .le 7, 3) := by decide +kernel
theorem dX0_partPot_93 : decode cX0_partPot 93 = .ok (.lconst 0, 1) := by decide +kernel
theorem dX0_partPot_94 : decode cX0_partPot 94 = .ok (.goto 8, 3) := by decide +kernel
theorem dX0_partPot_97 : decode cX0_partPot 97 = .ok (.aload 7, 2) := by decide +kernel
theorem dX0_partPot_99 : decode cX0_partPot 99 = .ok (.getfield 235, 3) := by decide +kernel
theorem dX0_partPot_102 : decode cX0_partPot 102 = .ok (.lstore 4, 2) := by decide +kernel
theorem dX0_partPot_104 : decode cX0_partPot 104 = .ok (.iinc 6 1, 3) := by decide +kernel
theorem dX0_partPot_107 : decode cX0_partPot 107 = .ok (.goto (-74), 3) := by decide +kernel
theorem dX0_partPot_110 : decode cX0_partPot 110 = .ok (.return_, 1) := by decide +kernel
theorem dX0_drawAll_0 : decode cX0_drawAll 0 = .ok (.lconst 0, 1) := by decide +kernel
theorem dX0_drawAll_1 : decode cX0_drawAll 1 = .ok (.lstore_n 1, 1) := by decide +kernel
theorem dX0_drawAll_2 : decode cX0_drawAll 2 = .ok (.iconst 0, 1) := by decide +kernel
theorem dX0_drawAll_3 : decode cX0_drawAll 3 = .ok (.istore_n 3, 1) := by decide +kernel
theorem dX0_drawAll_4 : decode cX0_drawAll 4 = .ok (.iload_n 3, 1) := by decide +kernel
theorem dX0_drawAll_5 : decode cX0_drawAll 5 = .ok (.aload_n 0, 1) := by decide +kernel
theorem dX0_drawAll_6 : decode cX0_drawAll 6 = .ok (.getfield 53, 3) := by decide +kernel
theorem dX0_drawAll_9 : decode cX0_drawAll 9 = .ok (.if_icmp .ge 82, 3) := by decide +kernel
theorem dX0_drawAll_12 : decode cX0_drawAll 12 = .ok (.aload_n 0, 1) := by decide +kernel
theorem dX0_drawAll_13 : decode cX0_drawAll 13 = .ok (.getfield 32, 3) := by decide +kernel
theorem dX0_drawAll_16 : decode cX0_drawAll 16 = .ok (.iload_n 3, 1) := by decide +kernel
theorem dX0_drawAll_17 : decode cX0_drawAll 17 = .ok (.aaload, 1) := by decide +kernel
theorem dX0_drawAll_18 : decode cX0_drawAll 18 = .ok (.astore 4, 2) := by decide +kernel
theorem dX0_drawAll_20 : decode cX0_drawAll 20 = .ok (.aload_n 0, 1) := by decide +kernel
theorem dX0_drawAll_21 : decode cX0_drawAll 21 = .ok (.aload 4, 2) := by decide +kernel
theorem dX0_drawAll_23 : decode cX0_drawAll 23 = .ok (.invokevirtual 165, 3) := by decide +kernel
theorem dX0_drawAll_26 : decode cX0_drawAll 26 = .ok (.istore 5, 2) := by decide +kernel
theorem dX0_drawAll_28 : decode cX0_drawAll 28 = .ok (.iload 5, 2) := by decide +kernel
theorem dX0_drawAll_30 : decode cX0_drawAll 30 = .ok (.ifCond .eq 9, 3) := by decide +kernel
theorem dX0_drawAll_33 : decode cX0_drawAll 33 = .ok (.iload 5, 2) := by decide +kernel
theorem dX0_drawAll_35 : decode cX0_drawAll 35 = .ok (.iconst 1, 1) := by decide +kernel
theorem dX0_drawAll_36 : decode cX0_drawAll 36 = .ok (.if_icmp .ne 22, 3) := by decide +kernel
theorem dX0_drawAll_39 : decode cX0_drawAll 39 = .ok (.lload_n 1, 1) := by decide +kernel
theorem dX0_drawAll_40 : decode cX0_drawAll 40 = .ok (.aload_n 0, 1) := by decide +kernel
theorem dX0_drawAll_41 : decode cX0_drawAll 41 = .ok (.aload 4, 2) := by decide +kernel
theorem dX0_drawAll_43 : decode cX0_drawAll 43 = .ok (.iload 5, 2) := by decide +kernel
theorem dX0_drawAll_45 : decode cX0_drawAll 45 = .ok (.ifCond .ne 7, 3) := by decide +kernel
theorem dX0_drawAll_48 : decode cX0_drawAll 48 = .ok (.iconst 1, 1) := by decide +kernel
theorem dX0_drawAll_49 : decode cX0_drawAll 49 = .ok (.goto 4, 3) := by decide +kernel
theorem dX0_drawAll_52 : decode cX0_drawAll 52 = .ok (.iconst 0, 1) := by decide +kernel
theorem dX0_drawAll_53 : decode cX0_drawAll 53 = .ok (.invokevirtual 238, 3) := by decide +kernel
theorem dX0_drawAll_56 : decode cX0_drawAll 56 = .ok (.ladd, 1) := by decide +kernel
theorem dX0_drawAll_57 : decode cX0_drawAll 57 = .ok (.lstore_n 1, 1) := by decide +kernel
theorem dX0_drawAll_58 : decode cX0_drawAll 58 = .ok (.aload 4, 2) := by decide +kernel
theorem dX0_drawAll_60 : decode cX0_drawAll 60 = .ok (.iload 5, 2) := by decide +kernel
theorem dX0_drawAll_62 : decode cX0_drawAll 62 = .ok (.ifCond .eq 9, 3) := by decide +kernel
theorem dX0_drawAll_65 : decode cX0_drawAll 65 = .ok (.iload 5, 2) := by decide +kernel
theorem dX0_drawAll_67 : decode cX0_drawAll 67 = .ok (.iconst 3, 1) := by decide +kernel
theorem dX0_drawAll_68 : decode cX0_drawAll 68 = .ok (.if_icmp .ne 7, 3) := by decide +kernel
theorem dX0_drawAll_71 : decode cX0_drawAll 71 = .ok (.iconst 0, 1) := by decide +kernel
theorem dX0_drawAll_72 : decode cX0_drawAll 72 = .ok (.goto 10, 3) := by decide +kernel
theorem dX0_drawAll_75 : decode cX0_drawAll 75 = .ok (.aload 4, 2) := by decide +kernel
theorem dX0_drawAll_77 : decode cX0_drawAll 77 = .ok (.getfield 162, 3) := by decide +kernel
theorem dX0_drawAll_80 : decode cX0_drawAll 80 = .ok (.iconst 1, 1) := by decide +kernel
theorem dX0_drawAll_81 : decode cX0_drawAll 81 = .ok (.iadd, 1) := by decide +kernel
theorem dX0_drawAll_82 : decode cX0_drawAll 82 = .ok (.putfield 162, 3) := by decide +kernel
theorem dX0_drawAll_85 : decode cX0_drawAll 85 = .ok (.iinc 3 1, 3) := by decide +kernel
theorem dX0_drawAll_88 : decode cX0_drawAll 88 = .ok (.goto (-84), 3) := by decide +kernel
theorem dX0_drawAll_91 : decode cX0_drawAll 91 = .ok (.lload_n 1, 1) := by decide +kernel
theorem dX0_drawAll_92 : decode cX0_drawAll 92 = .ok (.lreturn, 1) := by decide +kernel
theorem dX0_draw_0 : decode cX0_draw 0 = .ok (.aload_n 0, 1) := by decide +kernel
theorem dX0_draw_1 : decode cX0_draw 1 = .ok (.getfield 26, 3) := by decide +kernel
theorem dX0_draw_4 : decode cX0_draw 4 = .ok (.aload_n 1, 1) := by decide +kernel
theorem dX0_draw_5 : decode cX0_draw 5 = .ok (.getfield 101, 3) := by decide +kernel
theorem dX0_draw_8 : decode cX0_draw 8 = .ok (.aaload, 1) := by decide +kernel
theorem dX0_draw_9 : decode cX0_draw 9 = .ok (.astore_n 3, 1) := by decide +kernel
theorem dX0_draw_10 : decode cX0_draw 10 = .ok (.aload_n 3, 1) := by decide +kernel
theorem dX0_draw_11 : decode cX0_draw 11 = .ok (.getfield 235, 3) := by decide +kernel
theorem dX0_draw_14 : decode cX0_draw 14 = .ok (.aload_n 1, 1) := by decide +kernel
theorem dX0_draw_15 : decode cX0_draw 15 = .ok (.getfield 98, 3) := by decide +kernel
theorem dX0_draw_18 : decode cX0_draw 18 = .ok (.i2l, 1) := by decide +kernel
theorem dX0_draw_19 : decode cX0_draw 19 = .ok (.aload_n 3, 1) := by decide +kernel
theorem dX0_draw_20 : decode cX0_draw 20 = .ok (.getfield 232, 3) := by decide +kernel
theorem dX0_draw_23 : decode cX0_draw 23 = .ok (.invokestatic 174, 3) := by decide +kernel
theorem dX0_draw_26 : decode cX0_draw 26 = .ok (.lstore 4, 2) := by decide +kernel
theorem dX0_draw_28 : decode cX0_draw 28 = .ok (.aload_n 0, 1) := by decide +kernel
theorem dX0_draw_29 : decode cX0_draw 29 = .ok (.dup, 1) := by decide +kernel
theorem dX0_draw_30 : decode cX0_draw 30 = .ok (.getfield 62, 3) := by decide +kernel
theorem dX0_draw_33 : decode cX0_draw 33 = .ok (.lload 4, 2) := by decide +kernel
theorem dX0_draw_35 : decode cX0_draw 35 = .ok (.lsub, 1) := by decide +kernel
theorem dX0_draw_36 : decode cX0_draw 36 = .ok (.putfield 62, 3) := by decide +kernel
theorem dX0_draw_39 : decode cX0_draw 39 = .ok (.aload_n 1, 1) := by decide +kernel
theorem dX0_draw_40 : decode cX0_draw 40 = .ok (.aload_n 0, 1) := by decide +kernel
theorem dX0_draw_41 : decode cX0_draw 41 = .ok (.getfield 56, 3) := by decide +kernel
theorem dX0_draw_44 : decode cX0_draw 44 = .ok (.lload 4, 2) := by decide +kernel
theorem dX0_draw_46 : decode cX0_draw 46 = .ok (.invokevirtual 242, 3) := by decide +kernel
theorem dX0_draw_49 : decode cX0_draw 49 = .ok (.iload_n 2, 1) := by decide +kernel
theorem dX0_draw_50 : decode cX0_draw 50 = .ok (.ifCond .ne 5, 3) := by decide +kernel
theorem dX0_draw_53 : decode cX0_draw 53 = .ok (.lconst 0, 1) := by decide +kernel
theorem dX0_draw_54 : decode cX0_draw 54 = .ok (.lreturn, 1) := by decide +kernel
theorem dX0_draw_55 : decode cX0_draw 55 = .ok (.aload_n 1, 1) := by decide +kernel
theorem dX0_draw_56 : decode cX0_draw 56 = .ok (.aload_n 0, 1) := by decide +kernel
theorem dX0_draw_57 : decode cX0_draw 57 = .ok (.getfield 56, 3) := by decide +kernel
theorem dX0_draw_60 : decode cX0_draw 60 = .ok (.iconst 1, 1) := by decide +kernel
theorem dX0_draw_61 : decode cX0_draw 61 = .ok (.iadd, 1) := by decide +kernel
theorem dX0_draw_62 : decode cX0_draw 62 = .ok (.putfield 246, 3) := by decide +kernel
theorem dX0_draw_65 : decode cX0_draw 65 = .ok (.aload_n 0, 1) := by decide +kernel
theorem dX0_draw_66 : decode cX0_draw 66 = .ok (.aload_n 1, 1) := by decide +kernel
theorem dX0_draw_67 : decode cX0_draw 67 = .ok (.lload 4, 2) := by decide +kernel
theorem dX0_draw_69 : decode cX0_draw 69 = .ok (.invokevirtual 201, 3) := by decide +kernel
theorem dX0_draw_72 : decode cX0_draw 72 = .ok (.lload 4, 2) := by decide +kernel
theorem dX0_draw_74 : decode cX0_draw 74 = .ok (.lreturn, 1) := by decide +kernel
theorem dX0_beginNextYear_0 : decode cX0_beginNextYear 0 = .ok (.aload_n 0, 1) := by decide +kernel
theorem dX0_beginNextYear_1 : decode cX0_beginNextYear 1 = .ok (.dup, 1) := by decide +kernel
theorem dX0_beginNextYear_2 : decode cX0_beginNextYear 2 = .ok (.getfield 56, 3) := by decide +kernel
theorem dX0_beginNextYear_5 : decode cX0_beginNextYear 5 = .ok (.iconst 1, 1) := by decide +kernel
theorem dX0_beginNextYear_6 : decode cX0_beginNextYear 6 = .ok (.iadd, 1) := by decide +kernel
theorem dX0_beginNextYear_7 : decode cX0_beginNextYear 7 = .ok (.putfield 56, 3) := by decide +kernel
theorem dX0_beginNextYear_10 : decode cX0_beginNextYear 10 = .ok (.iconst 0, 1) := by decide +kernel
theorem dX0_beginNextYear_11 : decode cX0_beginNextYear 11 = .ok (.istore_n 1, 1) := by decide +kernel
theorem dX0_beginNextYear_12 : decode cX0_beginNextYear 12 = .ok (.iload_n 1, 1) := by decide +kernel
theorem dX0_beginNextYear_13 : decode cX0_beginNextYear 13 = .ok (.aload_n 0, 1) := by decide +kernel
theorem dX0_beginNextYear_14 : decode cX0_beginNextYear 14 = .ok (.getfield 47, 3) := by decide +kernel
theorem dX0_beginNextYear_17 : decode cX0_beginNextYear 17 = .ok (.if_icmp .ge 19, 3) := by decide +kernel
theorem dX0_beginNextYear_20 : decode cX0_beginNextYear 20 = .ok (.aload_n 0, 1) := by decide +kernel
theorem dX0_beginNextYear_21 : decode cX0_beginNextYear 21 = .ok (.getfield 20, 3) := by decide +kernel
theorem dX0_beginNextYear_24 : decode cX0_beginNextYear 24 = .ok (.iload_n 1, 1) := by decide +kernel
theorem dX0_beginNextYear_25 : decode cX0_beginNextYear 25 = .ok (.aaload, 1) := by decide +kernel
theorem dX0_beginNextYear_26 : decode cX0_beginNextYear 26 = .ok (.iconst 0, 1) := by decide +kernel
theorem dX0_beginNextYear_27 : decode cX0_beginNextYear 27 = .ok (.putfield 146, 3) := by decide +kernel
theorem dX0_beginNextYear_30 : decode cX0_beginNextYear 30 = .ok (.iinc 1 1, 3) := by decide +kernel
theorem dX0_beginNextYear_33 : decode cX0_beginNextYear 33 = .ok (.goto (-21), 3) := by decide +kernel
theorem dX0_beginNextYear_36 : decode cX0_beginNextYear 36 = .ok (.return_, 1) := by decide +kernel
theorem dX0_giveBack_0 : decode cX0_giveBack 0 = .ok (.iconst 0, 1) := by decide +kernel
theorem dX0_giveBack_1 : decode cX0_giveBack 1 = .ok (.istore_n 1, 1) := by decide +kernel
theorem dX0_giveBack_2 : decode cX0_giveBack 2 = .ok (.iload_n 1, 1) := by decide +kernel
theorem dX0_giveBack_3 : decode cX0_giveBack 3 = .ok (.aload_n 0, 1) := by decide +kernel
theorem dX0_giveBack_4 : decode cX0_giveBack 4 = .ok (.getfield 53, 3) := by decide +kernel
theorem dX0_giveBack_7 : decode cX0_giveBack 7 = .ok (.if_icmp .ge 50, 3) := by decide +kernel
theorem dX0_giveBack_10 : decode cX0_giveBack 10 = .ok (.aload_n 0, 1) := by decide +kernel
theorem dX0_giveBack_11 : decode cX0_giveBack 11 = .ok (.getfield 32, 3) := by decide +kernel
theorem dX0_giveBack_14 : decode cX0_giveBack 14 = .ok (.iload_n 1, 1) := by decide +kernel
theorem dX0_giveBack_15 : decode cX0_giveBack 15 = .ok (.aaload, 1) := by decide +kernel
theorem dX0_giveBack_16 : decode cX0_giveBack 16 = .ok (.astore_n 2, 1) := by decide +kernel
theorem dX0_giveBack_17 : decode cX0_giveBack 17 = .ok (.aload_n 2, 1) := by decide +kernel
theorem dX0_giveBack_18 : decode cX0_giveBack 18 = .ok (.getfield 249, 3) := by decide +kernel
theorem dX0_giveBack_21 : decode cX0_giveBack 21 = .ok (.iconst 3, 1) := by decide +kernel
theorem dX0_giveBack_22 : decode cX0_giveBack 22 = .ok (.if_icmp .ne 29, 3) := by decide +kernel
theorem dX0_giveBack_25 : decode cX0_giveBack 25 = .ok (.aload_n 2, 1) := by decide +kernel
theorem dX0_giveBack_26 : decode cX0_giveBack 26 = .ok (.getfield 252, 3) := by decide +kernel
theorem dX0_giveBack_29 : decode cX0_giveBack 29 = .ok (.ifCond .ne 22, 3) := by decide +kernel
theorem dX0_giveBack_32 : decode cX0_giveBack 32 = .ok (.aload_n 0, 1) := by decide +kernel
theorem dX0_giveBack_33 : decode cX0_giveBack 33 = .ok (.aload_n 2, 1) := by decide +kernel
theorem dX0_giveBack_34 : decode cX0_giveBack 34 = .ok (.invokevirtual 165, 3) := by decide +kernel
theorem dX0_giveBack_37 : decode cX0_giveBack 37 = .ok (.iconst 3, 1) := by decide +kernel
theorem dX0_giveBack_38 : decode cX0_giveBack 38 = .ok (.if_icmp .ne 13, 3) := by decide +kernel
theorem dX0_giveBack_41 : decode cX0_giveBack 41 = .ok (.aload_n 2, 1) := by decide +kernel
theorem dX0_giveBack_42 : decode cX0_giveBack 42 = .ok (.iconst 1, 1) := by decide +kernel
theorem dX0_giveBack_43 : decode cX0_giveBack 43 = .ok (.putfield 252, 3) := by decide +kernel
theorem dX0_giveBack_46 : decode cX0_giveBack 46 = .ok (.aload_n 0, 1) := by decide +kernel
theorem dX0_giveBack_47 : decode cX0_giveBack 47 = .ok (.aload_n 2, 1) := by decide +kernel
theorem dX0_giveBack_48 : decode cX0_giveBack 48 = .ok (.invokevirtual 255, 3) := by decide +kernel
theorem dX0_giveBack_51 : decode cX0_giveBack 51 = .ok (.iinc 1 1, 3) := by decide +kernel
theorem dX0_giveBack_54 : decode cX0_giveBack 54 = .ok (.goto (-52), 3) := by decide +kernel
theorem dX0_giveBack_57 : decode cX0_giveBack 57 = .ok (.return_, 1) := by decide +kernel
theorem dX0_giveBackOf_0 : decode cX0_giveBackOf 0 = .ok (.aload_n 0, 1) := by decide +kernel
theorem dX0_giveBackOf_1 : decode cX0_giveBackOf 1 = .ok (.getfield 26, 3) := by decide +kernel
theorem dX0_giveBackOf_4 : decode cX0_giveBackOf 4 = .ok (.aload_n 1, 1) := by decide +kernel
theorem dX0_giveBackOf_5 : decode cX0_giveBackOf 5 = .ok (.getfield 101, 3) := by decide +kernel
theorem dX0_giveBackOf_8 : decode cX0_giveBackOf 8 = .ok (.aaload, 1) := by decide +kernel
theorem dX0_giveBackOf_9 : decode cX0_giveBackOf 9 = .ok (.astore_n 2, 1) := by decide +kernel
theorem dX0_giveBackOf_10 : decode cX0_giveBackOf 10 = .ok (.aload_n 1, 1) := by decide +kernel
theorem dX0_giveBackOf_11 : decode cX0_giveBackOf 11 = .ok (.getfield 107, 3) := by decide +kernel
theorem dX0_giveBackOf_14 : decode cX0_giveBackOf 14 = .ok (.aload_n 1, 1) := by decide +kernel
theorem dX0_giveBackOf_15 : decode cX0_giveBackOf 15 = .ok (.getfield 194, 3) := by decide +kernel
theorem dX0_giveBackOf_18 : decode cX0_giveBackOf 18 = .ok (.lsub, 1) := by decide +kernel
theorem dX0_giveBackOf_19 : decode cX0_giveBackOf 19 = .ok (.lconst 0, 1) := by decide +kernel
theorem dX0_giveBackOf_20 : decode cX0_giveBackOf 20 = .ok (.invokestatic 258, 3) := by decide +kernel
theorem dX0_giveBackOf_23 : decode cX0_giveBackOf 23 = .ok (.aload_n 2, 1) := by decide +kernel
theorem dX0_giveBackOf_24 : decode cX0_giveBackOf 24 = .ok (.getfield 110, 3) := by decide +kernel
theorem dX0_giveBackOf_27 : decode cX0_giveBackOf 27 = .ok (.invokestatic 181, 3) := by decide +kernel
theorem dX0_giveBackOf_30 : decode cX0_giveBackOf 30 = .ok (.lstore_n 3, 1) := by decide +kernel
theorem dX0_giveBackOf_31 : decode cX0_giveBackOf 31 = .ok (.aload_n 0, 1) := by decide +kernel
theorem dX0_giveBackOf_32 : decode cX0_giveBackOf 32 = .ok (.getfield 20, 3) := by decide +kernel
theorem dX0_giveBackOf_35 : decode cX0_giveBackOf 35 = .ok (.aload_n 1, 1) := by decide +kernel
theorem dX0_giveBackOf_36 : decode cX0_giveBackOf 36 = .ok (.getfield 92, 3) := by decide +kernel
theorem dX0_giveBackOf_39 : decode cX0_giveBackOf 39 = .ok (.aaload, 1) := by decide +kernel
theorem dX0_giveBackOf_40 : decode cX0_giveBackOf 40 = .ok (.getfield 260, 3) := by decide +kernel
theorem dX0_giveBackOf_43 : decode cX0_giveBackOf 43 = .ok (.istore 5, 2) := by decide +kernel
theorem dX0_giveBackOf_45 : decode cX0_giveBackOf 45 = .ok (.aload_n 2, 1) := by decide +kernel
theorem dX0_giveBackOf_46 : decode cX0_giveBackOf 46 = .ok (.dup, 1) := by decide +kernel
theorem dX0_giveBackOf_47 : decode cX0_giveBackOf 47 = .ok (.getfield 110, 3) := by decide +kernel
theorem dX0_giveBackOf_50 : decode cX0_giveBackOf 50 = .ok (.lload_n 3, 1) := by decide +kernel
theorem dX0_giveBackOf_51 : decode cX0_giveBackOf 51 = .ok (.lsub, 1) := by decide +kernel
theorem dX0_giveBackOf_52 : decode cX0_giveBackOf 52 = .ok (.putfield 110, 3) := by decide +kernel
theorem dX0_giveBackOf_55 : decode cX0_giveBackOf 55 = .ok (.aload_n 0, 1) := by decide +kernel
theorem dX0_giveBackOf_56 : decode cX0_giveBackOf 56 = .ok (.getfield 20, 3) := by decide +kernel
theorem dX0_giveBackOf_59 : decode cX0_giveBackOf 59 = .ok (.aload_n 0, 1) := by decide +kernel
theorem dX0_giveBackOf_60 : decode cX0_giveBackOf 60 = .ok (.iload 5, 2) := by decide +kernel
theorem dX0_giveBackOf_62 : decode cX0_giveBackOf 62 = .ok (.invokevirtual 119, 3) := by decide +kernel
theorem dX0_giveBackOf_65 : decode cX0_giveBackOf 65 = .ok (.ifCond .eq 8, 3) := by decide +kernel
theorem dX0_giveBackOf_68 : decode cX0_giveBackOf 68 = .ok (.iload 5, 2) := by decide +kernel
theorem dX0_giveBackOf_70 : decode cX0_giveBackOf 70 = .ok (.goto 7, 3) := by decide +kernel
theorem dX0_giveBackOf_73 : decode cX0_giveBackOf 73 = .ok (.aload_n 1, 1) := by decide +kernel
theorem dX0_giveBackOf_74 : decode cX0_giveBackOf 74 = .ok (.getfield 89, 3) := by decide +kernel
theorem dX0_giveBackOf_77 : decode cX0_giveBackOf 77 = .ok (.aaload, 1) := by decide +kernel
theorem dX0_giveBackOf_78 : decode cX0_giveBackOf 78 = .ok (.dup, 1) := by decide +kernel
theorem dX0_giveBackOf_79 : decode cX0_giveBackOf 79 = .ok (.getfield 191, 3) := by decide +kernel
theorem dX0_giveBackOf_82 : decode cX0_giveBackOf 82 = .ok (.lload_n 3, 1) := by decide +kernel
theorem dX0_giveBackOf_83 : decode cX0_giveBackOf 83 = .ok (.ladd, 1) := by decide +kernel
theorem dX0_giveBackOf_84 : decode cX0_giveBackOf 84 = .ok (.putfield 191, 3) := by decide +kernel
theorem dX0_giveBackOf_87 : decode cX0_giveBackOf 87 = .ok (.return_, 1) := by decide +kernel
theorem dX0_drawingUnits_0 : decode cX0_drawingUnits 0 = .ok (.lconst 0, 1) := by decide +kernel
theorem dX0_drawingUnits_1 : decode cX0_drawingUnits 1 = .ok (.lstore_n 2, 1) := by decide +kernel
theorem dX0_drawingUnits_2 : decode cX0_drawingUnits 2 = .ok (.iconst 0, 1) := by decide +kernel
theorem dX0_drawingUnits_3 : decode cX0_drawingUnits 3 = .ok (.istore 4, 2) := by decide +kernel
theorem dX0_drawingUnits_5 : decode cX0_drawingUnits 5 = .ok (.iload 4, 2) := by decide +kernel
theorem dX0_drawingUnits_7 : decode cX0_drawingUnits 7 = .ok (.aload_n 0, 1) := by decide +kernel
theorem dX0_drawingUnits_8 : decode cX0_drawingUnits 8 = .ok (.getfield 53, 3) := by decide +kernel
theorem dX0_drawingUnits_11 : decode cX0_drawingUnits 11 = .ok (.if_icmp .ge 51, 3) := by decide +kernel
theorem dX0_drawingUnits_14 : decode cX0_drawingUnits 14 = .ok (.aload_n 0, 1) := by decide +kernel
theorem dX0_drawingUnits_15 : decode cX0_drawingUnits 15 = .ok (.getfield 32, 3) := by decide +kernel
theorem dX0_drawingUnits_18 : decode cX0_drawingUnits 18 = .ok (.iload 4, 2) := by decide +kernel
theorem dX0_drawingUnits_20 : decode cX0_drawingUnits 20 = .ok (.aaload, 1) := by decide +kernel
theorem dX0_drawingUnits_21 : decode cX0_drawingUnits 21 = .ok (.getfield 101, 3) := by decide +kernel
theorem dX0_drawingUnits_24 : decode cX0_drawingUnits 24 = .ok (.iload_n 1, 1) := by decide +kernel
theorem dX0_drawingUnits_25 : decode cX0_drawingUnits 25 = .ok (.if_icmp .ne 31, 3) := by decide +kernel
theorem dX0_drawingUnits_28 : decode cX0_drawingUnits 28 = .ok (.aload_n 0, 1) := by decide +kernel
theorem dX0_drawingUnits_29 : decode cX0_drawingUnits 29 = .ok (.aload_n 0, 1) := by decide +kernel
theorem dX0_drawingUnits_30 : decode cX0_drawingUnits 30 = .ok (.getfield 32, 3) := by decide +kernel
theorem dX0_drawingUnits_33 : decode cX0_drawingUnits 33 = .ok (.iload 4, 2) := by decide +kernel
theorem dX0_drawingUnits_35 : decode cX0_drawingUnits 35 = .ok (.aaload, 1) := by decide +kernel
theorem dX0_drawingUnits_36 : decode cX0_drawingUnits 36 = .ok (.invokevirtual 263, 3) := by decide +kernel
theorem dX0_drawingUnits_39 : decode cX0_drawingUnits 39 = .ok (.ifCond .eq 17, 3) := by decide +kernel
theorem dX0_drawingUnits_42 : decode cX0_drawingUnits 42 = .ok (.lload_n 2, 1) := by decide +kernel
theorem dX0_drawingUnits_43 : decode cX0_drawingUnits 43 = .ok (.aload_n 0, 1) := by decide +kernel
theorem dX0_drawingUnits_44 : decode cX0_drawingUnits 44 = .ok (.getfield 32, 3) := by decide +kernel
theorem dX0_drawingUnits_47 : decode cX0_drawingUnits 47 = .ok (.iload 4, 2) := by decide +kernel
theorem dX0_drawingUnits_49 : decode cX0_drawingUnits 49 = .ok (.aaload, 1) := by decide +kernel
theorem dX0_drawingUnits_50 : decode cX0_drawingUnits 50 = .ok (.getfield 98, 3) := by decide +kernel
theorem dX0_drawingUnits_53 : decode cX0_drawingUnits 53 = .ok (.i2l, 1) := by decide +kernel
theorem dX0_drawingUnits_54 : decode cX0_drawingUnits 54 = .ok (.ladd, 1) := by decide +kernel
theorem dX0_drawingUnits_55 : decode cX0_drawingUnits 55 = .ok (.lstore_n 2, 1) := by decide +kernel
theorem dX0_drawingUnits_56 : decode cX0_drawingUnits 56 = .ok (.iinc 4 1, 3) := by decide +kernel
theorem dX0_drawingUnits_59 : decode cX0_drawingUnits 59 = .ok (.goto (-54), 3) := by decide +kernel
theorem dX0_drawingUnits_62 : decode cX0_drawingUnits 62 = .ok (.lload_n 2, 1) := by decide +kernel
theorem dX0_drawingUnits_63 : decode cX0_drawingUnits 63 = .ok (.lreturn, 1) := by decide +kernel
theorem dX0_sharesIn_0 : decode cX0_sharesIn 0 = .ok (.lconst 0, 1) := by decide +kernel
theorem dX0_sharesIn_1 : decode cX0_sharesIn 1 = .ok (.lstore_n 2, 1) := by decide +kernel
theorem dX0_sharesIn_2 : decode cX0_sharesIn 2 = .ok (.iconst 0, 1) := by decide +kernel
theorem dX0_sharesIn_3 : decode cX0_sharesIn 3 = .ok (.istore 4, 2) := by decide +kernel
theorem dX0_sharesIn_5 : decode cX0_sharesIn 5 = .ok (.iload 4, 2) := by decide +kernel
theorem dX0_sharesIn_7 : decode cX0_sharesIn 7 = .ok (.aload_n 0, 1) := by decide +kernel
theorem dX0_sharesIn_8 : decode cX0_sharesIn 8 = .ok (.getfield 53, 3) := by decide +kernel
theorem dX0_sharesIn_11 : decode cX0_sharesIn 11 = .ok (.if_icmp .ge 27, 3) := by decide +kernel
theorem dX0_sharesIn_14 : decode cX0_sharesIn 14 = .ok (.aload_n 0, 1) := by decide +kernel
theorem dX0_sharesIn_15 : decode cX0_sharesIn 15 = .ok (.getfield 32, 3) := by decide +kernel
theorem dX0_sharesIn_18 : decode cX0_sharesIn 18 = .ok (.iload 4, 2) := by decide +kernel
theorem dX0_sharesIn_20 : decode cX0_sharesIn 20 = .ok (.aaload, 1) := by decide +kernel
theorem dX0_sharesIn_21 : decode cX0_sharesIn 21 = .ok (.getfield 101, 3) := by decide +kernel
theorem dX0_sharesIn_24 : decode cX0_sharesIn 24 = .ok (.iload_n 1, 1) := by decide +kernel
theorem dX0_sharesIn_25 : decode cX0_sharesIn 25 = .ok (.if_icmp .ne 7, 3) := by decide +kernel
theorem dX0_sharesIn_28 : decode cX0_sharesIn 28 = .ok (.lload_n 2, 1) := by decide +kernel
theorem dX0_sharesIn_29 : decode cX0_sharesIn 29 = .ok (.lconst 1, 1) := by decide +kernel
theorem dX0_sharesIn_30 : decode cX0_sharesIn 30 = .ok (.ladd, 1) := by decide +kernel
theorem dX0_sharesIn_31 : decode cX0_sharesIn 31 = .ok (.lstore_n 2, 1) := by decide +kernel
theorem dX0_sharesIn_32 : decode cX0_sharesIn 32 = .ok (.iinc 4 1, 3) := by decide +kernel
theorem dX0_sharesIn_35 : decode cX0_sharesIn 35 = .ok (.goto (-30), 3) := by decide +kernel
theorem dX0_sharesIn_38 : decode cX0_sharesIn 38 = .ok (.lload_n 2, 1) := by decide +kernel
theorem dX0_sharesIn_39 : decode cX0_sharesIn 39 = .ok (.lreturn, 1) := by decide +kernel
theorem dX0_allHeld_0 : decode cX0_allHeld 0 = .ok (.lconst 0, 1) := by decide +kernel
theorem dX0_allHeld_1 : decode cX0_allHeld 1 = .ok (.lstore_n 1, 1) := by decide +kernel
theorem dX0_allHeld_2 : decode cX0_allHeld 2 = .ok (.iconst 0, 1) := by decide +kernel
theorem dX0_allHeld_3 : decode cX0_allHeld 3 = .ok (.istore_n 3, 1) := by decide +kernel
theorem dX0_allHeld_4 : decode cX0_allHeld 4 = .ok (.iload_n 3, 1) := by decide +kernel
theorem dX0_allHeld_5 : decode cX0_allHeld 5 = .ok (.aload_n 0, 1) := by decide +kernel
theorem dX0_allHeld_6 : decode cX0_allHeld 6 = .ok (.getfield 53, 3) := by decide +kernel
theorem dX0_allHeld_9 : decode cX0_allHeld 9 = .ok (.if_icmp .ge 25, 3) := by decide +kernel
theorem dX0_allHeld_12 : decode cX0_allHeld 12 = .ok (.lload_n 1, 1) := by decide +kernel
theorem dX0_allHeld_13 : decode cX0_allHeld 13 = .ok (.aload_n 0, 1) := by decide +kernel
theorem dX0_allHeld_14 : decode cX0_allHeld 14 = .ok (.getfield 32, 3) := by decide +kernel
theorem dX0_allHeld_17 : decode cX0_allHeld 17 = .ok (.iload_n 3, 1) := by decide +kernel
theorem dX0_allHeld_18 : decode cX0_allHeld 18 = .ok (.aaload, 1) := by decide +kernel
theorem dX0_allHeld_19 : decode cX0_allHeld 19 = .ok (.aload_n 0, 1) := by decide +kernel
theorem dX0_allHeld_20 : decode cX0_allHeld 20 = .ok (.getfield 56, 3) := by decide +kernel
theorem dX0_allHeld_23 : decode cX0_allHeld 23 = .ok (.invokevirtual 266, 3) := by decide +kernel
theorem dX0_allHeld_26 : decode cX0_allHeld 26 = .ok (.ladd, 1) := by decide +kernel
theorem dX0_allHeld_27 : decode cX0_allHeld 27 = .ok (.lstore_n 1, 1) := by decide +kernel
theorem dX0_allHeld_28 : decode cX0_allHeld 28 = .ok (.iinc 3 1, 3) := by decide +kernel
theorem dX0_allHeld_31 : decode cX0_allHeld 31 = .ok (.goto (-27), 3) := by decide +kernel
theorem dX0_allHeld_34 : decode cX0_allHeld 34 = .ok (.lload_n 1, 1) := by decide +kernel
theorem dX0_allHeld_35 : decode cX0_allHeld 35 = .ok (.lreturn, 1) := by decide +kernel
theorem dX0_allPurses_0 : decode cX0_allPurses 0 = .ok (.lconst 0, 1) := by decide +kernel
theorem dX0_allPurses_1 : decode cX0_allPurses 1 = .ok (.lstore_n 1, 1) := by decide +kernel
theorem dX0_allPurses_2 : decode cX0_allPurses 2 = .ok (.iconst 0, 1) := by decide +kernel
theorem dX0_allPurses_3 : decode cX0_allPurses 3 = .ok (.istore_n 3, 1) := by decide +kernel
theorem dX0_allPurses_4 : decode cX0_allPurses 4 = .ok (.iload_n 3, 1) := by decide +kernel
theorem dX0_allPurses_5 : decode cX0_allPurses 5 = .ok (.aload_n 0, 1) := by decide +kernel
theorem dX0_allPurses_6 : decode cX0_allPurses 6 = .ok (.getfield 47, 3) := by decide +kernel
theorem dX0_allPurses_9 : decode cX0_allPurses 9 = .ok (.if_icmp .ge 21, 3) := by decide +kernel
theorem dX0_allPurses_12 : decode cX0_allPurses 12 = .ok (.lload_n 1, 1) := by decide +kernel
theorem dX0_allPurses_13 : decode cX0_allPurses 13 = .ok (.aload_n 0, 1) := by decide +kernel
theorem dX0_allPurses_14 : decode cX0_allPurses 14 = .ok (.getfield 20, 3) := by decide +kernel
theorem dX0_allPurses_17 : decode cX0_allPurses 17 = .ok (.iload_n 3, 1) := by decide +kernel
theorem dX0_allPurses_18 : decode cX0_allPurses 18 = .ok (.aaload, 1) := by decide +kernel
theorem dX0_allPurses_19 : decode cX0_allPurses 19 = .ok (.getfield 191, 3) := by decide +kernel
theorem dX0_allPurses_22 : decode cX0_allPurses 22 = .ok (.ladd, 1) := by decide +kernel
theorem dX0_allPurses_23 : decode cX0_allPurses 23 = .ok (.lstore_n 1, 1) := by decide +kernel
theorem dX0_allPurses_24 : decode cX0_allPurses 24 = .ok (.iinc 3 1, 3) := by decide +kernel
theorem dX0_allPurses_27 : decode cX0_allPurses 27 = .ok (.goto (-23), 3) := by decide +kernel
theorem dX0_allPurses_30 : decode cX0_allPurses 30 = .ok (.lload_n 1, 1) := by decide +kernel
theorem dX0_allPurses_31 : decode cX0_allPurses 31 = .ok (.lreturn, 1) := by decide +kernel
theorem dX0_allStocks_0 : decode cX0_allStocks 0 = .ok (.lconst 0, 1) := by decide +kernel
theorem dX0_allStocks_1 : decode cX0_allStocks 1 = .ok (.lstore_n 1, 1) := by decide +kernel
theorem dX0_allStocks_2 : decode cX0_allStocks 2 = .ok (.iconst 0, 1) := by decide +kernel
theorem dX0_allStocks_3 : decode cX0_allStocks 3 = .ok (.istore_n 3, 1) := by decide +kernel
theorem dX0_allStocks_4 : decode cX0_allStocks 4 = .ok (.iload_n 3, 1) := by decide +kernel
theorem dX0_allStocks_5 : decode cX0_allStocks 5 = .ok (.aload_n 0, 1) := by decide +kernel
theorem dX0_allStocks_6 : decode cX0_allStocks 6 = .ok (.getfield 50, 3) := by decide +kernel
theorem dX0_allStocks_9 : decode cX0_allStocks 9 = .ok (.if_icmp .ge 21, 3) := by decide +kernel
theorem dX0_allStocks_12 : decode cX0_allStocks 12 = .ok (.lload_n 1, 1) := by decide +kernel
theorem dX0_allStocks_13 : decode cX0_allStocks 13 = .ok (.aload_n 0, 1) := by decide +kernel
theorem dX0_allStocks_14 : decode cX0_allStocks 14 = .ok (.getfield 26, 3) := by decide +kernel
theorem dX0_allStocks_17 : decode cX0_allStocks 17 = .ok (.iload_n 3, 1) := by decide +kernel
theorem dX0_allStocks_18 : decode cX0_allStocks 18 = .ok (.aaload, 1) := by decide +kernel
theorem dX0_allStocks_19 : decode cX0_allStocks 19 = .ok (.getfield 110, 3) := by decide +kernel
theorem dX0_allStocks_22 : decode cX0_allStocks 22 = .ok (.ladd, 1) := by decide +kernel
theorem dX0_allStocks_23 : decode cX0_allStocks 23 = .ok (.lstore_n 1, 1) := by decide +kernel
theorem dX0_allStocks_24 : decode cX0_allStocks 24 = .ok (.iinc 3 1, 3) := by decide +kernel
theorem dX0_allStocks_27 : decode cX0_allStocks 27 = .ok (.goto (-23), 3) := by decide +kernel
theorem dX0_allStocks_30 : decode cX0_allStocks 30 = .ok (.lload_n 1, 1) := by decide +kernel
theorem dX0_allStocks_31 : decode cX0_allStocks 31 = .ok (.lreturn, 1) := by decide +kernel
theorem dX0_allDebts_0 : decode cX0_allDebts 0 = .ok (.lconst 0, 1) := by decide +kernel
theorem dX0_allDebts_1 : decode cX0_allDebts 1 = .ok (.lstore_n 1, 1) := by decide +kernel
theorem dX0_allDebts_2 : decode cX0_allDebts 2 = .ok (.iconst 0, 1) := by decide +kernel
theorem dX0_allDebts_3 : decode cX0_allDebts 3 = .ok (.istore_n 3, 1) := by decide +kernel
theorem dX0_allDebts_4 : decode cX0_allDebts 4 = .ok (.iload_n 3, 1) := by decide +kernel
theorem dX0_allDebts_5 : decode cX0_allDebts 5 = .ok (.aload_n 0, 1) := by decide +kernel
theorem dX0_allDebts_6 : decode cX0_allDebts 6 = .ok (.getfield 47, 3) := by decide +kernel
theorem dX0_allDebts_9 : decode cX0_allDebts 9 = .ok (.if_icmp .ge 21, 3) := by decide +kernel
theorem dX0_allDebts_12 : decode cX0_allDebts 12 = .ok (.lload_n 1, 1) := by decide +kernel
theorem dX0_allDebts_13 : decode cX0_allDebts 13 = .ok (.aload_n 0, 1) := by decide +kernel
theorem dX0_allDebts_14 : decode cX0_allDebts 14 = .ok (.getfield 20, 3) := by decide +kernel
theorem dX0_allDebts_17 : decode cX0_allDebts 17 = .ok (.iload_n 3, 1) := by decide +kernel
theorem dX0_allDebts_18 : decode cX0_allDebts 18 = .ok (.aaload, 1) := by decide +kernel
theorem dX0_allDebts_19 : decode cX0_allDebts 19 = .ok (.getfield 178, 3) := by decide +kernel
theorem dX0_allDebts_22 : decode cX0_allDebts 22 = .ok (.ladd, 1) := by decide +kernel
theorem dX0_allDebts_23 : decode cX0_allDebts 23 = .ok (.lstore_n 1, 1) := by decide +kernel
theorem dX0_allDebts_24 : decode cX0_allDebts 24 = .ok (.iinc 3 1, 3) := by decide +kernel
theorem dX0_allDebts_27 : decode cX0_allDebts 27 = .ok (.goto (-23), 3) := by decide +kernel
theorem dX0_allDebts_30 : decode cX0_allDebts 30 = .ok (.lload_n 1, 1) := by decide +kernel
theorem dX0_allDebts_31 : decode cX0_allDebts 31 = .ok (.lreturn, 1) := by decide +kernel
theorem dX1_init_0 : decode cX1_init 0 = .ok (.aload_n 0, 1) := by decide +kernel
theorem dX1_init_1 : decode cX1_init 1 = .ok (.invokespecial 3, 3) := by decide +kernel
theorem dX1_init_4 : decode cX1_init 4 = .ok (.return_, 1) := by decide +kernel
theorem dX1_begin_0 : decode cX1_begin 0 = .ok (.aload_n 0, 1) := by decide +kernel
theorem dX1_begin_1 : decode cX1_begin 1 = .ok (.iload_n 1, 1) := by decide +kernel
theorem dX1_begin_2 : decode cX1_begin 2 = .ok (.putfield 9, 3) := by decide +kernel
theorem dX1_begin_5 : decode cX1_begin 5 = .ok (.aload_n 0, 1) := by decide +kernel
theorem dX1_begin_6 : decode cX1_begin 6 = .ok (.lconst 0, 1) := by decide +kernel
theorem dX1_begin_7 : decode cX1_begin 7 = .ok (.putfield 15, 3) := by decide +kernel
theorem dX1_begin_10 : decode cX1_begin 10 = .ok (.aload_n 0, 1) := by decide +kernel
theorem dX1_begin_11 : decode cX1_begin 11 = .ok (.lconst 0, 1) := by decide +kernel
theorem dX1_begin_12 : decode cX1_begin 12 = .ok (.putfield 19, 3) := by decide +kernel
theorem dX1_begin_15 : decode cX1_begin 15 = .ok (.aload_n 0, 1) := by decide +kernel
theorem dX1_begin_16 : decode cX1_begin 16 = .ok (.iconst (-1), 1) := by decide +kernel
theorem dX1_begin_17 : decode cX1_begin 17 = .ok (.putfield 22, 3) := by decide +kernel
theorem dX1_begin_20 : decode cX1_begin 20 = .ok (.aload_n 0, 1) := by decide +kernel
theorem dX1_begin_21 : decode cX1_begin 21 = .ok (.iconst 0, 1) := by decide +kernel
theorem dX1_begin_22 : decode cX1_begin 22 = .ok (.putfield 25, 3) := by decide +kernel
theorem dX1_begin_25 : decode cX1_begin 25 = .ok (.aload_n 0, 1) := by decide +kernel
theorem dX1_begin_26 : decode cX1_begin 26 = .ok (.iconst 0, 1) := by decide +kernel
theorem dX1_begin_27 : decode cX1_begin 27 = .ok (.putfield 29, 3) := by decide +kernel
theorem dX1_begin_30 : decode cX1_begin 30 = .ok (.aload_n 0, 1) := by decide +kernel
theorem dX1_begin_31 : decode cX1_begin 31 = .ok (.iconst 0, 1) := by decide +kernel
theorem dX1_begin_32 : decode cX1_begin 32 = .ok (.putfield 32, 3) := by decide +kernel
theorem dX1_begin_35 : decode cX1_begin 35 = .ok (.return_, 1) := by decide +kernel
theorem dX1_copyFrom_0 : decode cX1_copyFrom 0 = .ok (.aload_n 0, 1) := by decide +kernel
theorem dX1_copyFrom_1 : decode cX1_copyFrom 1 = .ok (.aload_n 1, 1) := by decide +kernel
theorem dX1_copyFrom_2 : decode cX1_copyFrom 2 = .ok (.getfield 9, 3) := by decide +kernel
theorem dX1_copyFrom_5 : decode cX1_copyFrom 5 = .ok (.putfield 9, 3) := by decide +kernel
theorem dX1_copyFrom_8 : decode cX1_copyFrom 8 = .ok (.aload_n 0, 1) := by decide +kernel
theorem dX1_copyFrom_9 : decode cX1_copyFrom 9 = .ok (.aload_n 1, 1) := by decide +kernel
theorem dX1_copyFrom_10 : decode cX1_copyFrom 10 = .ok (.getfield 15, 3) := by decide +kernel
theorem dX1_copyFrom_13 : decode cX1_copyFrom 13 = .ok (.putfield 15, 3) := by decide +kernel
theorem dX1_copyFrom_16 : decode cX1_copyFrom 16 = .ok (.aload_n 0, 1) := by decide +kernel
theorem dX1_copyFrom_17 : decode cX1_copyFrom 17 = .ok (.aload_n 1, 1) := by decide +kernel
theorem dX1_copyFrom_18 : decode cX1_copyFrom 18 = .ok (.getfield 19, 3) := by decide +kernel
theorem dX1_copyFrom_21 : decode cX1_copyFrom 21 = .ok (.putfield 19, 3) := by decide +kernel
theorem dX1_copyFrom_24 : decode cX1_copyFrom 24 = .ok (.aload_n 0, 1) := by decide +kernel
theorem dX1_copyFrom_25 : decode cX1_copyFrom 25 = .ok (.aload_n 1, 1) := by decide +kernel
theorem dX1_copyFrom_26 : decode cX1_copyFrom 26 = .ok (.getfield 22, 3) := by decide +kernel
theorem dX1_copyFrom_29 : decode cX1_copyFrom 29 = .ok (.putfield 22, 3) := by decide +kernel
theorem dX1_copyFrom_32 : decode cX1_copyFrom 32 = .ok (.aload_n 0, 1) := by decide +kernel
theorem dX1_copyFrom_33 : decode cX1_copyFrom 33 = .ok (.aload_n 1, 1) := by decide +kernel
theorem dX1_copyFrom_34 : decode cX1_copyFrom 34 = .ok (.getfield 25, 3) := by decide +kernel
theorem dX1_copyFrom_37 : decode cX1_copyFrom 37 = .ok (.putfield 25, 3) := by decide +kernel
theorem dX1_copyFrom_40 : decode cX1_copyFrom 40 = .ok (.aload_n 0, 1) := by decide +kernel
theorem dX1_copyFrom_41 : decode cX1_copyFrom 41 = .ok (.aload_n 1, 1) := by decide +kernel
theorem dX1_copyFrom_42 : decode cX1_copyFrom 42 = .ok (.getfield 29, 3) := by decide +kernel
theorem dX1_copyFrom_45 : decode cX1_copyFrom 45 = .ok (.putfield 29, 3) := by decide +kernel
theorem dX1_copyFrom_48 : decode cX1_copyFrom 48 = .ok (.aload_n 0, 1) := by decide +kernel
theorem dX1_copyFrom_49 : decode cX1_copyFrom 49 = .ok (.aload_n 1, 1) := by decide +kernel
theorem dX1_copyFrom_50 : decode cX1_copyFrom 50 = .ok (.getfield 32, 3) := by decide +kernel
theorem dX1_copyFrom_53 : decode cX1_copyFrom 53 = .ok (.putfield 32, 3) := by decide +kernel
theorem dX1_copyFrom_56 : decode cX1_copyFrom 56 = .ok (.return_, 1) := by decide +kernel
theorem dX2_init_0 : decode cX2_init 0 = .ok (.aload_n 0, 1) := by decide +kernel
theorem dX2_init_1 : decode cX2_init 1 = .ok (.invokespecial 1, 3) := by decide +kernel
theorem dX2_init_4 : decode cX2_init 4 = .ok (.return_, 1) := by decide +kernel
theorem dX2_begin_0 : decode cX2_begin 0 = .ok (.aload_n 0, 1) := by decide +kernel
theorem dX2_begin_1 : decode cX2_begin 1 = .ok (.iload_n 1, 1) := by decide +kernel
theorem dX2_begin_2 : decode cX2_begin 2 = .ok (.putfield 7, 3) := by decide +kernel
theorem dX2_begin_5 : decode cX2_begin 5 = .ok (.aload_n 0, 1) := by decide +kernel
theorem dX2_begin_6 : decode cX2_begin 6 = .ok (.iload_n 2, 1) := by decide +kernel
theorem dX2_begin_7 : decode cX2_begin 7 = .ok (.putfield 13, 3) := by decide +kernel
theorem dX2_begin_10 : decode cX2_begin 10 = .ok (.aload_n 0, 1) := by decide +kernel
theorem dX2_begin_11 : decode cX2_begin 11 = .ok (.iload_n 3, 1) := by decide +kernel
theorem dX2_begin_12 : decode cX2_begin 12 = .ok (.putfield 16, 3) := by decide +kernel
theorem dX2_begin_15 : decode cX2_begin 15 = .ok (.aload_n 0, 1) := by decide +kernel
theorem dX2_begin_16 : decode cX2_begin 16 = .ok (.lconst 0, 1) := by decide +kernel
theorem dX2_begin_17 : decode cX2_begin 17 = .ok (.putfield 19, 3) := by decide +kernel
theorem dX2_begin_20 : decode cX2_begin 20 = .ok (.aload_n 0, 1) := by decide +kernel
theorem dX2_begin_21 : decode cX2_begin 21 = .ok (.lconst 0, 1) := by decide +kernel
theorem dX2_begin_22 : decode cX2_begin 22 = .ok (.putfield 23, 3) := by decide +kernel
theorem dX2_begin_25 : decode cX2_begin 25 = .ok (.aload_n 0, 1) := by decide +kernel
theorem dX2_begin_26 : decode cX2_begin 26 = .ok (.lconst 0, 1) := by decide +kernel
theorem dX2_begin_27 : decode cX2_begin 27 = .ok (.putfield 26, 3) := by decide +kernel
theorem dX2_begin_30 : decode cX2_begin 30 = .ok (.return_, 1) := by decide +kernel
theorem dX2_copyFrom_0 : decode cX2_copyFrom 0 = .ok (.aload_n 0, 1) := by decide +kernel
theorem dX2_copyFrom_1 : decode cX2_copyFrom 1 = .ok (.aload_n 1, 1) := by decide +kernel
theorem dX2_copyFrom_2 : decode cX2_copyFrom 2 = .ok (.getfield 7, 3) := by decide +kernel
theorem dX2_copyFrom_5 : decode cX2_copyFrom 5 = .ok (.putfield 7, 3) := by decide +kernel
theorem dX2_copyFrom_8 : decode cX2_copyFrom 8 = .ok (.aload_n 0, 1) := by decide +kernel
theorem dX2_copyFrom_9 : decode cX2_copyFrom 9 = .ok (.aload_n 1, 1) := by decide +kernel
theorem dX2_copyFrom_10 : decode cX2_copyFrom 10 = .ok (.getfield 13, 3) := by decide +kernel
theorem dX2_copyFrom_13 : decode cX2_copyFrom 13 = .ok (.putfield 13, 3) := by decide +kernel
theorem dX2_copyFrom_16 : decode cX2_copyFrom 16 = .ok (.aload_n 0, 1) := by decide +kernel
theorem dX2_copyFrom_17 : decode cX2_copyFrom 17 = .ok (.aload_n 1, 1) := by decide +kernel
theorem dX2_copyFrom_18 : decode cX2_copyFrom 18 = .ok (.getfield 16, 3) := by decide +kernel
theorem dX2_copyFrom_21 : decode cX2_copyFrom 21 = .ok (.putfield 16, 3) := by decide +kernel
theorem dX2_copyFrom_24 : decode cX2_copyFrom 24 = .ok (.aload_n 0, 1) := by decide +kernel
theorem dX2_copyFrom_25 : decode cX2_copyFrom 25 = .ok (.aload_n 1, 1) := by decide +kernel
theorem dX2_copyFrom_26 : decode cX2_copyFrom 26 = .ok (.getfield 19, 3) := by decide +kernel
theorem dX2_copyFrom_29 : decode cX2_copyFrom 29 = .ok (.putfield 19, 3) := by decide +kernel
theorem dX2_copyFrom_32 : decode cX2_copyFrom 32 = .ok (.aload_n 0, 1) := by decide +kernel
theorem dX2_copyFrom_33 : decode cX2_copyFrom 33 = .ok (.aload_n 1, 1) := by decide +kernel
theorem dX2_copyFrom_34 : decode cX2_copyFrom 34 = .ok (.getfield 23, 3) := by decide +kernel
theorem dX2_copyFrom_37 : decode cX2_copyFrom 37 = .ok (.putfield 23, 3) := by decide +kernel
theorem dX2_copyFrom_40 : decode cX2_copyFrom 40 = .ok (.aload_n 0, 1) := by decide +kernel
theorem dX2_copyFrom_41 : decode cX2_copyFrom 41 = .ok (.aload_n 1, 1) := by decide +kernel
theorem dX2_copyFrom_42 : decode cX2_copyFrom 42 = .ok (.getfield 26, 3) := by decide +kernel
theorem dX2_copyFrom_45 : decode cX2_copyFrom 45 = .ok (.putfield 26, 3) := by decide +kernel
theorem dX2_copyFrom_48 : decode cX2_copyFrom 48 = .ok (.return_, 1) := by decide +kernel
theorem dX3_init_0 : decode cX3_init 0 = .ok (.aload_n 0, 1) := by decide +kernel
theorem dX3_init_1 : decode cX3_init 1 = .ok (.invokespecial 3, 3) := by decide +kernel
theorem dX3_init_4 : decode cX3_init 4 = .ok (.aload_n 0, 1) := by decide +kernel
theorem dX3_init_5 : decode cX3_init 5 = .ok (.bipush 60, 2) := by decide +kernel
theorem dX3_init_7 : decode cX3_init 7 = .ok (.newarray .long, 2) := by decide +kernel
theorem dX3_init_9 : decode cX3_init 9 = .ok (.putfield 9, 3) := by decide +kernel
theorem dX3_init_12 : decode cX3_init 12 = .ok (.return_, 1) := by decide +kernel
theorem dX3_begin_0 : decode cX3_begin 0 = .ok (.aload_n 0, 1) := by decide +kernel
theorem dX3_begin_1 : decode cX3_begin 1 = .ok (.iconst 0, 1) := by decide +kernel
theorem dX3_begin_2 : decode cX3_begin 2 = .ok (.putfield 15, 3) := by decide +kernel
theorem dX3_begin_5 : decode cX3_begin 5 = .ok (.aload_n 0, 1) := by decide +kernel
theorem dX3_begin_6 : decode cX3_begin 6 = .ok (.lconst 0, 1) := by decide +kernel
theorem dX3_begin_7 : decode cX3_begin 7 = .ok (.putfield 19, 3) := by decide +kernel
theorem dX3_begin_10 : decode cX3_begin 10 = .ok (.aload_n 0, 1) := by decide +kernel
theorem dX3_begin_11 : decode cX3_begin 11 = .ok (.iload_n 1, 1) := by decide +kernel
theorem dX3_begin_12 : decode cX3_begin 12 = .ok (.putfield 23, 3) := by decide +kernel
theorem dX3_begin_15 : decode cX3_begin 15 = .ok (.aload_n 0, 1) := by decide +kernel
theorem dX3_begin_16 : decode cX3_begin 16 = .ok (.iload_n 1, 1) := by decide +kernel
theorem dX3_begin_17 : decode cX3_begin 17 = .ok (.putfield 26, 3) := by decide +kernel
theorem dX3_begin_20 : decode cX3_begin 20 = .ok (.aload_n 0, 1) := by decide +kernel
theorem dX3_begin_21 : decode cX3_begin 21 = .ok (.iconst 0, 1) := by decide +kernel
theorem dX3_begin_22 : decode cX3_begin 22 = .ok (.putfield 29, 3) := by decide +kernel
theorem dX3_begin_25 : decode cX3_begin 25 = .ok (.aload_n 0, 1) := by decide +kernel
theorem dX3_begin_26 : decode cX3_begin 26 = .ok (.lconst 0, 1) := by decide +kernel
theorem dX3_begin_27 : decode cX3_begin 27 = .ok (.putfield 32, 3) := by decide +kernel
theorem dX3_begin_30 : decode cX3_begin 30 = .ok (.aload_n 0, 1) := by decide +kernel
theorem dX3_begin_31 : decode cX3_begin 31 = .ok (.iconst (-1), 1) := by decide +kernel
theorem dX3_begin_32 : decode cX3_begin 32 = .ok (.putfield 35, 3) := by decide +kernel
theorem dX3_begin_35 : decode cX3_begin 35 = .ok (.aload_n 0, 1) := by decide +kernel
theorem dX3_begin_36 : decode cX3_begin 36 = .ok (.iconst 0, 1) := by decide +kernel
theorem dX3_begin_37 : decode cX3_begin 37 = .ok (.putfield 38, 3) := by decide +kernel
theorem dX3_begin_40 : decode cX3_begin 40 = .ok (.aload_n 0, 1) := by decide +kernel
theorem dX3_begin_41 : decode cX3_begin 41 = .ok (.iload_n 1, 1) := by decide +kernel
theorem dX3_begin_42 : decode cX3_begin 42 = .ok (.putfield 42, 3) := by decide +kernel
theorem dX3_begin_45 : decode cX3_begin 45 = .ok (.aload_n 0, 1) := by decide +kernel
theorem dX3_begin_46 : decode cX3_begin 46 = .ok (.getfield 9, 3) := by decide +kernel
theorem dX3_begin_49 : decode cX3_begin 49 = .ok (.lconst 0, 1) := by decide +kernel
theorem dX3_begin_50 : decode cX3_begin 50 = .ok (.invokestatic 45, 3) := by decide +kernel
theorem dX3_begin_53 : decode cX3_begin 53 = .ok (.return_, 1) := by decide +kernel
theorem dX3_hasLife_0 : decode cX3_hasLife 0 = .ok (.aload_n 0, 1) := by decide +kernel
theorem dX3_hasLife_1 : decode cX3_hasLife 1 = .ok (.getfield 51, 3) := by decide +kernel
theorem dX3_hasLife_4 : decode cX3_hasLife 4 = .ok (.iload_n 1, 1) := by decide +kernel
theorem dX3_hasLife_5 : decode cX3_hasLife 5 = .ok (.if_icmp .eq 11, 3) := by decide +kernel
theorem dX3_hasLife_8 : decode cX3_hasLife 8 = .ok (.aload_n 0, 1) := by decide +kernel
theorem dX3_hasLife_9 : decode cX3_hasLife 9 = .ok (.getfield 54, 3) := by decide +kernel
theorem dX3_hasLife_12 : decode cX3_hasLife 12 = .ok (.iload_n 1, 1) := by decide +kernel
theorem dX3_hasLife_13 : decode cX3_hasLife 13 = .ok (.if_icmp .ne 7, 3) := by decide +kernel
theorem dX3_hasLife_16 : decode cX3_hasLife 16 = .ok (.iconst 1, 1) := by decide +kernel
theorem dX3_hasLife_17 : decode cX3_hasLife 17 = .ok (.goto 4, 3) := by decide +kernel
theorem dX3_hasLife_20 : decode cX3_hasLife 20 = .ok (.iconst 0, 1) := by decide +kernel
theorem dX3_hasLife_21 : decode cX3_hasLife 21 = .ok (.ireturn, 1) := by decide +kernel
theorem dX3_drewIn_0 : decode cX3_drewIn 0 = .ok (.lconst 0, 1) := by decide +kernel
theorem dX3_drewIn_1 : decode cX3_drewIn 1 = .ok (.lstore_n 3, 1) := by decide +kernel
theorem dX3_drewIn_2 : decode cX3_drewIn 2 = .ok (.iload_n 1, 1) := by decide +kernel
theorem dX3_drewIn_3 : decode cX3_drewIn 3 = .ok (.iconst 0, 1) := by decide +kernel
theorem dX3_drewIn_4 : decode cX3_drewIn 4 = .ok (.invokestatic 57, 3) := by decide +kernel
theorem dX3_drewIn_7 : decode cX3_drewIn 7 = .ok (.istore 5, 2) := by decide +kernel
theorem dX3_drewIn_9 : decode cX3_drewIn 9 = .ok (.iload 5, 2) := by decide +kernel
theorem dX3_drewIn_11 : decode cX3_drewIn 11 = .ok (.iload_n 2, 1) := by decide +kernel
theorem dX3_drewIn_12 : decode cX3_drewIn 12 = .ok (.if_icmp .ge 26, 3) := by decide +kernel
theorem dX3_drewIn_15 : decode cX3_drewIn 15 = .ok (.iload 5, 2) := by decide +kernel
theorem dX3_drewIn_17 : decode cX3_drewIn 17 = .ok (.bipush 60, 2) := by decide +kernel
theorem dX3_drewIn_19 : decode cX3_drewIn 19 = .ok (.if_icmp .ge 19, 3) := by decide +kernel
theorem dX3_drewIn_22 : decode cX3_drewIn 22 = .ok (.lload_n 3, 1) := by decide +kernel
theorem dX3_drewIn_23 : decode cX3_drewIn 23 = .ok (.aload_n 0, 1) := by decide +kernel
theorem dX3_drewIn_24 : decode cX3_drewIn 24 = .ok (.getfield 9, 3) := by decide +kernel
theorem dX3_drewIn_27 : decode cX3_drewIn 27 = .ok (.iload 5, 2) := by decide +kernel
theorem dX3_drewIn_29 : decode cX3_drewIn 29 = .ok (.laload, 1) := by decide +kernel
theorem dX3_drewIn_30 : decode cX3_drewIn 30 = .ok (.ladd, 1) := by decide +kernel
theorem dX3_drewIn_31 : decode cX3_drewIn 31 = .ok (.lstore_n 3, 1) := by decide +kernel
theorem dX3_drewIn_32 : decode cX3_drewIn 32 = .ok (.iinc 5 1, 3) := by decide +kernel
theorem dX3_drewIn_35 : decode cX3_drewIn 35 = .ok (.goto (-26), 3) := by decide +kernel
theorem dX3_drewIn_38 : decode cX3_drewIn 38 = .ok (.lload_n 3, 1) := by decide +kernel
theorem dX3_drewIn_39 : decode cX3_drewIn 39 = .ok (.lreturn, 1) := by decide +kernel
theorem dX3_heldAt_0 : decode cX3_heldAt 0 = .ok (.aload_n 0, 1) := by decide +kernel
theorem dX3_heldAt_1 : decode cX3_heldAt 1 = .ok (.aload_n 0, 1) := by decide +kernel
theorem dX3_heldAt_2 : decode cX3_heldAt 2 = .ok (.getfield 42, 3) := by decide +kernel
theorem dX3_heldAt_5 : decode cX3_heldAt 5 = .ok (.iload_n 1, 1) := by decide +kernel
theorem dX3_heldAt_6 : decode cX3_heldAt 6 = .ok (.invokevirtual 63, 3) := by decide +kernel
theorem dX3_heldAt_9 : decode cX3_heldAt 9 = .ok (.lreturn, 1) := by decide +kernel
theorem dX3_note_0 : decode cX3_note 0 = .ok (.iload_n 1, 1) := by decide +kernel
theorem dX3_note_1 : decode cX3_note 1 = .ok (.iconst 0, 1) := by decide +kernel
theorem dX3_note_2 : decode cX3_note 2 = .ok (.bipush 59, 2) := by decide +kernel
theorem dX3_note_4 : decode cX3_note 4 = .ok (.invokestatic 67, 3) := by decide +kernel
theorem dX3_note_7 : decode cX3_note 7 = .ok (.ifCond .eq 10, 3) := by decide +kernel
theorem dX3_note_10 : decode cX3_note 10 = .ok (.aload_n 0, 1) := by decide +kernel
theorem dX3_note_11 : decode cX3_note 11 = .ok (.getfield 9, 3) := by decide +kernel
theorem dX3_note_14 : decode cX3_note 14 = .ok (.iload_n 1, 1) := by decide +kernel
theorem dX3_note_15 : decode cX3_note 15 = .ok (.lload_n 2, 1) := by decide +kernel
theorem dX3_note_16 : decode cX3_note 16 = .ok (.lastore, 1) := by decide +kernel
theorem dX3_note_17 : decode cX3_note 17 = .ok (.return_, 1) := by decide +kernel
theorem dX3_release_0 : decode cX3_release 0 = .ok (.aload_n 0, 1) := by decide +kernel
theorem dX3_release_1 : decode cX3_release 1 = .ok (.iload_n 1, 1) := by decide +kernel
theorem dX3_release_2 : decode cX3_release 2 = .ok (.invokevirtual 71, 3) := by decide +kernel
theorem dX3_release_5 : decode cX3_release 5 = .ok (.lstore_n 2, 1) := by decide +kernel
theorem dX3_release_6 : decode cX3_release 6 = .ok (.aload_n 0, 1) := by decide +kernel
theorem dX3_release_7 : decode cX3_release 7 = .ok (.iload_n 1, 1) := by decide +kernel
theorem dX3_release_8 : decode cX3_release 8 = .ok (.putfield 42, 3) := by decide +kernel
theorem dX3_release_11 : decode cX3_release 11 = .ok (.lload_n 2, 1) := by decide +kernel
theorem dX3_release_12 : decode cX3_release 12 = .ok (.lreturn, 1) := by decide +kernel
theorem dX3_forgetHeldAbove_0 : decode cX3_forgetHeldAbove 0 = .ok (.aload_n 0, 1) := by decide +kernel
theorem dX3_forgetHeldAbove_1 : decode cX3_forgetHeldAbove 1 = .ok (.getfield 42, 3) := by decide +kernel
theorem dX3_forgetHeldAbove_4 : decode cX3_forgetHeldAbove 4 = .ok (.iload_n 1, 1) := by decide +kernel
theorem dX3_forgetHeldAbove_5 : decode cX3_forgetHeldAbove 5 = .ok (.iconst 1, 1) := by decide +kernel
theorem dX3_forgetHeldAbove_6 : decode cX3_forgetHeldAbove 6 = .ok (.iadd, 1) := by decide +kernel
theorem dX3_forgetHeldAbove_7 : decode cX3_forgetHeldAbove 7 = .ok (.invokestatic 57, 3) := by decide +kernel
theorem dX3_forgetHeldAbove_10 : decode cX3_forgetHeldAbove 10 = .ok (.istore_n 3, 1) := by decide +kernel
theorem dX3_forgetHeldAbove_11 : decode cX3_forgetHeldAbove 11 = .ok (.aload_n 0, 1) := by decide +kernel
theorem dX3_forgetHeldAbove_12 : decode cX3_forgetHeldAbove 12 = .ok (.iload_n 3, 1) := by decide +kernel
theorem dX3_forgetHeldAbove_13 : decode cX3_forgetHeldAbove 13 = .ok (.iload_n 2, 1) := by decide +kernel
theorem dX3_forgetHeldAbove_14 : decode cX3_forgetHeldAbove 14 = .ok (.invokevirtual 63, 3) := by decide +kernel
theorem dX3_forgetHeldAbove_17 : decode cX3_forgetHeldAbove 17 = .ok (.lstore 4, 2) := by decide +kernel
theorem dX3_forgetHeldAbove_19 : decode cX3_forgetHeldAbove 19 = .ok (.iload_n 3, 1) := by decide +kernel
theorem dX3_forgetHeldAbove_20 : decode cX3_forgetHeldAbove 20 = .ok (.istore 6, 2) := by decide +kernel
theorem dX3_forgetHeldAbove_22 : decode cX3_forgetHeldAbove 22 = .ok (.iload 6, 2) := by decide +kernel
theorem dX3_forgetHeldAbove_24 : decode cX3_forgetHeldAbove 24 = .ok (.iload_n 2, 1) := by decide +kernel
theorem dX3_forgetHeldAbove_25 : decode cX3_forgetHeldAbove 25 = .ok (.if_icmp .ge 16, 3) := by decide +kernel
theorem dX3_forgetHeldAbove_28 : decode cX3_forgetHeldAbove 28 = .ok (.aload_n 0, 1) := by decide +kernel
theorem dX3_forgetHeldAbove_29 : decode cX3_forgetHeldAbove 29 = .ok (.iload 6, 2) := by decide +kernel
theorem dX3_forgetHeldAbove_31 : decode cX3_forgetHeldAbove 31 = .ok (.lconst 0, 1) := by decide +kernel
theorem dX3_forgetHeldAbove_32 : decode cX3_forgetHeldAbove 32 = .ok (.invokevirtual 75, 3) := by decide +kernel
theorem dX3_forgetHeldAbove_35 : decode cX3_forgetHeldAbove 35 = .ok (.iinc 6 1, 3) := by decide +kernel
theorem dX3_forgetHeldAbove_38 : decode cX3_forgetHeldAbove 38 = .ok (.goto (-16), 3) := by decide +kernel
theorem dX3_forgetHeldAbove_41 : decode cX3_forgetHeldAbove 41 = .ok (.lload 4, 2) := by decide +kernel
theorem dX3_forgetHeldAbove_43 : decode cX3_forgetHeldAbove 43 = .ok (.lreturn, 1) := by decide +kernel
theorem dX3_copyFrom_0 : decode cX3_copyFrom 0 = .ok (.aload_n 0, 1) := by decide +kernel
theorem dX3_copyFrom_1 : decode cX3_copyFrom 1 = .ok (.aload_n 1, 1) := by decide +kernel
theorem dX3_copyFrom_2 : decode cX3_copyFrom 2 = .ok (.getfield 79, 3) := by decide +kernel
theorem dX3_copyFrom_5 : decode cX3_copyFrom 5 = .ok (.putfield 79, 3) := by decide +kernel
theorem dX3_copyFrom_8 : decode cX3_copyFrom 8 = .ok (.aload_n 0, 1) := by decide +kernel
theorem dX3_copyFrom_9 : decode cX3_copyFrom 9 = .ok (.aload_n 1, 1) := by decide +kernel
theorem dX3_copyFrom_10 : decode cX3_copyFrom 10 = .ok (.getfield 51, 3) := by decide +kernel
theorem dX3_copyFrom_13 : decode cX3_copyFrom 13 = .ok (.putfield 51, 3) := by decide +kernel
theorem dX3_copyFrom_16 : decode cX3_copyFrom 16 = .ok (.aload_n 0, 1) := by decide +kernel
theorem dX3_copyFrom_17 : decode cX3_copyFrom 17 = .ok (.aload_n 1, 1) := by decide +kernel
theorem dX3_copyFrom_18 : decode cX3_copyFrom 18 = .ok (.getfield 54, 3) := by decide +kernel
theorem dX3_copyFrom_21 : decode cX3_copyFrom 21 = .ok (.putfield 54, 3) := by decide +kernel
theorem dX3_copyFrom_24 : decode cX3_copyFrom 24 = .ok (.aload_n 0, 1) := by decide +kernel
theorem dX3_copyFrom_25 : decode cX3_copyFrom 25 = .ok (.aload_n 1, 1) := by decide +kernel
theorem dX3_copyFrom_26 : decode cX3_copyFrom 26 = .ok (.getfield 82, 3) := by decide +kernel
theorem dX3_copyFrom_29 : decode cX3_copyFrom 29 = .ok (.putfield 82, 3) := by decide +kernel
theorem dX3_copyFrom_32 : decode cX3_copyFrom 32 = .ok (.aload_n 0, 1) := by decide +kernel
theorem dX3_copyFrom_33 : decode cX3_copyFrom 33 = .ok (.aload_n 1, 1) := by decide +kernel
theorem dX3_copyFrom_34 : decode cX3_copyFrom 34 = .ok (.getfield 85, 3) := by decide +kernel
theorem dX3_copyFrom_37 : decode cX3_copyFrom 37 = .ok (.putfield 85, 3) := by decide +kernel
theorem dX3_copyFrom_40 : decode cX3_copyFrom 40 = .ok (.aload_n 0, 1) := by decide +kernel
theorem dX3_copyFrom_41 : decode cX3_copyFrom 41 = .ok (.aload_n 1, 1) := by decide +kernel
theorem dX3_copyFrom_42 : decode cX3_copyFrom 42 = .ok (.getfield 15, 3) := by decide +kernel
theorem dX3_copyFrom_45 : decode cX3_copyFrom 45 = .ok (.putfield 15, 3) := by decide +kernel
theorem dX3_copyFrom_48 : decode cX3_copyFrom 48 = .ok (.aload_n 0, 1) := by decide +kernel
theorem dX3_copyFrom_49 : decode cX3_copyFrom 49 = .ok (.aload_n 1, 1) := by decide +kernel
theorem dX3_copyFrom_50 : decode cX3_copyFrom 50 = .ok (.getfield 88, 3) := by decide +kernel
theorem dX3_copyFrom_53 : decode cX3_copyFrom 53 = .ok (.putfield 88, 3) := by decide +kernel
theorem dX3_copyFrom_56 : decode cX3_copyFrom 56 = .ok (.aload_n 0, 1) := by decide +kernel
theorem dX3_copyFrom_57 : decode cX3_copyFrom 57 = .ok (.aload_n 1, 1) := by decide +kernel
theorem dX3_copyFrom_58 : decode cX3_copyFrom 58 = .ok (.getfield 19, 3) := by decide +kernel
theorem dX3_copyFrom_61 : decode cX3_copyFrom 61 = .ok (.putfield 19, 3) := by decide +kernel
theorem dX3_copyFrom_64 : decode cX3_copyFrom 64 = .ok (.aload_n 0, 1) := by decide +kernel
theorem dX3_copyFrom_65 : decode cX3_copyFrom 65 = .ok (.aload_n 1, 1) := by decide +kernel
theorem dX3_copyFrom_66 : decode cX3_copyFrom 66 = .ok (.getfield 23, 3) := by decide +kernel
theorem dX3_copyFrom_69 : decode cX3_copyFrom 69 = .ok (.putfield 23, 3) := by decide +kernel
theorem dX3_copyFrom_72 : decode cX3_copyFrom 72 = .ok (.aload_n 0, 1) := by decide +kernel
theorem dX3_copyFrom_73 : decode cX3_copyFrom 73 = .ok (.aload_n 1, 1) := by decide +kernel
theorem dX3_copyFrom_74 : decode cX3_copyFrom 74 = .ok (.getfield 26, 3) := by decide +kernel
theorem dX3_copyFrom_77 : decode cX3_copyFrom 77 = .ok (.putfield 26, 3) := by decide +kernel
theorem dX3_copyFrom_80 : decode cX3_copyFrom 80 = .ok (.aload_n 0, 1) := by decide +kernel
theorem dX3_copyFrom_81 : decode cX3_copyFrom 81 = .ok (.aload_n 1, 1) := by decide +kernel
theorem dX3_copyFrom_82 : decode cX3_copyFrom 82 = .ok (.getfield 29, 3) := by decide +kernel
theorem dX3_copyFrom_85 : decode cX3_copyFrom 85 = .ok (.putfield 29, 3) := by decide +kernel
theorem dX3_copyFrom_88 : decode cX3_copyFrom 88 = .ok (.aload_n 0, 1) := by decide +kernel
theorem dX3_copyFrom_89 : decode cX3_copyFrom 89 = .ok (.aload_n 1, 1) := by decide +kernel
theorem dX3_copyFrom_90 : decode cX3_copyFrom 90 = .ok (.getfield 32, 3) := by decide +kernel
theorem dX3_copyFrom_93 : decode cX3_copyFrom 93 = .ok (.putfield 32, 3) := by decide +kernel
theorem dX3_copyFrom_96 : decode cX3_copyFrom 96 = .ok (.aload_n 0, 1) := by decide +kernel
theorem dX3_copyFrom_97 : decode cX3_copyFrom 97 = .ok (.aload_n 1, 1) := by decide +kernel
theorem dX3_copyFrom_98 : decode cX3_copyFrom 98 = .ok (.getfield 35, 3) := by decide +kernel
theorem dX3_copyFrom_101 : decode cX3_copyFrom 101 = .ok (.putfield 35, 3) := by decide +kernel
theorem dX3_copyFrom_104 : decode cX3_copyFrom 104 = .ok (.aload_n 0, 1) := by decide +kernel
theorem dX3_copyFrom_105 : decode cX3_copyFrom 105 = .ok (.aload_n 1, 1) := by decide +kernel
theorem dX3_copyFrom_106 : decode cX3_copyFrom 106 = .ok (.getfield 38, 3) := by decide +kernel
theorem dX3_copyFrom_109 : decode cX3_copyFrom 109 = .ok (.putfield 38, 3) := by decide +kernel
theorem dX3_copyFrom_112 : decode cX3_copyFrom 112 = .ok (.aload_n 0, 1) := by decide +kernel
theorem dX3_copyFrom_113 : decode cX3_copyFrom 113 = .ok (.aload_n 1, 1) := by decide +kernel
theorem dX3_copyFrom_114 : decode cX3_copyFrom 114 = .ok (.getfield 42, 3) := by decide +kernel
theorem dX3_copyFrom_117 : decode cX3_copyFrom 117 = .ok (.putfield 42, 3) := by decide +kernel
theorem dX3_copyFrom_120 : decode cX3_copyFrom 120 = .ok (.aload_n 1, 1) := by decide +kernel
theorem dX3_copyFrom_121 : decode cX3_copyFrom 121 = .ok (.getfield 9, 3) := by decide +kernel
theorem dX3_copyFrom_124 : decode cX3_copyFrom 124 = .ok (.iconst 0, 1) := by decide +kernel
theorem dX3_copyFrom_125 : decode cX3_copyFrom 125 = .ok (.aload_n 0, 1) := by decide +kernel
theorem dX3_copyFrom_126 : decode cX3_copyFrom 126 = .ok (.getfield 9, 3) := by decide +kernel
theorem dX3_copyFrom_129 : decode cX3_copyFrom 129 = .ok (.iconst 0, 1) := by decide +kernel
theorem dX3_copyFrom_130 : decode cX3_copyFrom 130 = .ok (.bipush 60, 2) := by decide +kernel
theorem dX3_copyFrom_132 : decode cX3_copyFrom 132 = .ok (.invokestatic 91, 3) := by decide +kernel
theorem dX3_copyFrom_135 : decode cX3_copyFrom 135 = .ok (.return_, 1) := by decide +kernel
theorem dX3_shrinkTo_0 : decode cX3_shrinkTo 0 = .ok (.aload_n 0, 1) := by decide +kernel
theorem dX3_shrinkTo_1 : decode cX3_shrinkTo 1 = .ok (.aload_n 0, 1) := by decide +kernel
theorem dX3_shrinkTo_2 : decode cX3_shrinkTo 2 = .ok (.getfield 88, 3) := by decide +kernel
theorem dX3_shrinkTo_5 : decode cX3_shrinkTo 5 = .ok (.iload_n 1, 1) := by decide +kernel
theorem dX3_shrinkTo_6 : decode cX3_shrinkTo 6 = .ok (.i2l, 1) := by decide +kernel
theorem dX3_shrinkTo_7 : decode cX3_shrinkTo 7 = .ok (.aload_n 0, 1) := by decide +kernel
theorem dX3_shrinkTo_8 : decode cX3_shrinkTo 8 = .ok (.getfield 82, 3) := by decide +kernel
theorem dX3_shrinkTo_11 : decode cX3_shrinkTo 11 = .ok (.i2l, 1) := by decide +kernel
theorem dX3_shrinkTo_12 : decode cX3_shrinkTo 12 = .ok (.invokestatic 97, 3) := by decide +kernel
theorem dX3_shrinkTo_15 : decode cX3_shrinkTo 15 = .ok (.putfield 88, 3) := by decide +kernel
theorem dX3_shrinkTo_18 : decode cX3_shrinkTo 18 = .ok (.aload_n 0, 1) := by decide +kernel
theorem dX3_shrinkTo_19 : decode cX3_shrinkTo 19 = .ok (.aload_n 0, 1) := by decide +kernel
theorem dX3_shrinkTo_20 : decode cX3_shrinkTo 20 = .ok (.getfield 19, 3) := by decide +kernel
theorem dX3_shrinkTo_23 : decode cX3_shrinkTo 23 = .ok (.iload_n 1, 1) := by decide +kernel
theorem dX3_shrinkTo_24 : decode cX3_shrinkTo 24 = .ok (.i2l, 1) := by decide +kernel
theorem dX3_shrinkTo_25 : decode cX3_shrinkTo 25 = .ok (.aload_n 0, 1) := by decide +kernel
theorem dX3_shrinkTo_26 : decode cX3_shrinkTo 26 = .ok (.getfield 82, 3) := by decide +kernel
theorem dX3_shrinkTo_29 : decode cX3_shrinkTo 29 = .ok (.i2l, 1) := by decide +kernel
theorem dX3_shrinkTo_30 : decode cX3_shrinkTo 30 = .ok (.invokestatic 97, 3) := by decide +kernel
theorem dX3_shrinkTo_33 : decode cX3_shrinkTo 33 = .ok (.putfield 19, 3) := by decide +kernel
theorem dX3_shrinkTo_36 : decode cX3_shrinkTo 36 = .ok (.aload_n 0, 1) := by decide +kernel
theorem dX3_shrinkTo_37 : decode cX3_shrinkTo 37 = .ok (.aload_n 0, 1) := by decide +kernel
theorem dX3_shrinkTo_38 : decode cX3_shrinkTo 38 = .ok (.getfield 32, 3) := by decide +kernel
theorem dX3_shrinkTo_41 : decode cX3_shrinkTo 41 = .ok (.iload_n 1, 1) := by decide +kernel
theorem dX3_shrinkTo_42 : decode cX3_shrinkTo 42 = .ok (.i2l, 1) := by decide +kernel
theorem dX3_shrinkTo_43 : decode cX3_shrinkTo 43 = .ok (.aload_n 0, 1) := by decide +kernel
theorem dX3_shrinkTo_44 : decode cX3_shrinkTo 44 = .ok (.getfield 82, 3) := by decide +kernel
theorem dX3_shrinkTo_47 : decode cX3_shrinkTo 47 = .ok (.i2l, 1) := by decide +kernel
theorem dX3_shrinkTo_48 : decode cX3_shrinkTo 48 = .ok (.invokestatic 97, 3) := by decide +kernel
theorem dX3_shrinkTo_51 : decode cX3_shrinkTo 51 = .ok (.putfield 32, 3) := by decide +kernel
theorem dX3_shrinkTo_54 : decode cX3_shrinkTo 54 = .ok (.iconst 0, 1) := by decide +kernel
theorem dX3_shrinkTo_55 : decode cX3_shrinkTo 55 = .ok (.istore_n 2, 1) := by decide +kernel
theorem dX3_shrinkTo_56 : decode cX3_shrinkTo 56 = .ok (.iload_n 2, 1) := by decide +kernel
theorem dX3_shrinkTo_57 : decode cX3_shrinkTo 57 = .ok (.bipush 60, 2) := by decide +kernel
theorem dX3_shrinkTo_59 : decode cX3_shrinkTo 59 = .ok (.if_icmp .ge 31, 3) := by decide +kernel
theorem dX3_shrinkTo_62 : decode cX3_shrinkTo 62 = .ok (.aload_n 0, 1) := by decide +kernel
theorem dX3_shrinkTo_63 : decode cX3_shrinkTo 63 = .ok (.getfield 9, 3) := by decide +kernel
theorem dX3_shrinkTo_66 : decode cX3_shrinkTo 66 = .ok (.iload_n 2, 1) := by decide +kernel
theorem dX3_shrinkTo_67 : decode cX3_shrinkTo 67 = .ok (.aload_n 0, 1) := by decide +kernel
theorem dX3_shrinkTo_68 : decode cX3_shrinkTo 68 = .ok (.getfield 9, 3) := by decide +kernel
theorem dX3_shrinkTo_71 : decode cX3_shrinkTo 71 = .ok (.iload_n 2, 1) := by decide +kernel
theorem dX3_shrinkTo_72 : decode cX3_shrinkTo 72 = .ok (.laload, 1) := by decide +kernel
theorem dX3_shrinkTo_73 : decode cX3_shrinkTo 73 = .ok (.iload_n 1, 1) := by decide +kernel
theorem dX3_shrinkTo_74 : decode cX3_shrinkTo 74 = .ok (.i2l, 1) := by decide +kernel
theorem dX3_shrinkTo_75 : decode cX3_shrinkTo 75 = .ok (.aload_n 0, 1) := by decide +kernel
theorem dX3_shrinkTo_76 : decode cX3_shrinkTo 76 = .ok (.getfield 82, 3) := by decide +kernel
theorem dX3_shrinkTo_79 : decode cX3_shrinkTo 79 = .ok (.i2l, 1) := by decide +kernel
theorem dX3_shrinkTo_80 : decode cX3_shrinkTo 80 = .ok (.invokestatic 97, 3) := by decide +kernel
theorem dX3_shrinkTo_83 : decode cX3_shrinkTo 83 = .ok (.lastore, 1) := by decide +kernel
theorem dX3_shrinkTo_84 : decode cX3_shrinkTo 84 = .ok (.iinc 2 1, 3) := by decide +kernel
theorem dX3_shrinkTo_87 : decode cX3_shrinkTo 87 = .ok (.goto (-31), 3) := by decide +kernel
theorem dX3_shrinkTo_90 : decode cX3_shrinkTo 90 = .ok (.aload_n 0, 1) := by decide +kernel
theorem dX3_shrinkTo_91 : decode cX3_shrinkTo 91 = .ok (.iload_n 1, 1) := by decide +kernel
theorem dX3_shrinkTo_92 : decode cX3_shrinkTo 92 = .ok (.putfield 82, 3) := by decide +kernel
theorem dX3_shrinkTo_95 : decode cX3_shrinkTo 95 = .ok (.return_, 1) := by decide +kernel
theorem dX3_loseTo_0 : decode cX3_loseTo 0 = .ok (.aload_n 0, 1) := by decide +kernel
theorem dX3_loseTo_1 : decode cX3_loseTo 1 = .ok (.dup, 1) := by decide +kernel
theorem dX3_loseTo_2 : decode cX3_loseTo 2 = .ok (.getfield 82, 3) := by decide +kernel
theorem dX3_loseTo_5 : decode cX3_loseTo 5 = .ok (.aload_n 1, 1) := by decide +kernel
theorem dX3_loseTo_6 : decode cX3_loseTo 6 = .ok (.getfield 82, 3) := by decide +kernel
theorem dX3_loseTo_9 : decode cX3_loseTo 9 = .ok (.isub, 1) := by decide +kernel
theorem dX3_loseTo_10 : decode cX3_loseTo 10 = .ok (.putfield 82, 3) := by decide +kernel
theorem dX3_loseTo_13 : decode cX3_loseTo 13 = .ok (.aload_n 0, 1) := by decide +kernel
theorem dX3_loseTo_14 : decode cX3_loseTo 14 = .ok (.dup, 1) := by decide +kernel
theorem dX3_loseTo_15 : decode cX3_loseTo 15 = .ok (.getfield 88, 3) := by decide +kernel
theorem dX3_loseTo_18 : decode cX3_loseTo 18 = .ok (.aload_n 1, 1) := by decide +kernel
theorem dX3_loseTo_19 : decode cX3_loseTo 19 = .ok (.getfield 88, 3) := by decide +kernel
theorem dX3_loseTo_22 : decode cX3_loseTo 22 = .ok (.lsub, 1) := by decide +kernel
theorem dX3_loseTo_23 : decode cX3_loseTo 23 = .ok (.putfield 88, 3) := by decide +kernel
theorem dX3_loseTo_26 : decode cX3_loseTo 26 = .ok (.aload_n 0, 1) := by decide +kernel
theorem dX3_loseTo_27 : decode cX3_loseTo 27 = .ok (.dup, 1) := by decide +kernel
theorem dX3_loseTo_28 : decode cX3_loseTo 28 = .ok (.getfield 19, 3) := by decide +kernel
theorem dX3_loseTo_31 : decode cX3_loseTo 31 = .ok (.aload_n 1, 1) := by decide +kernel
theorem dX3_loseTo_32 : decode cX3_loseTo 32 = .ok (.getfield 19, 3) := by decide +kernel
theorem dX3_loseTo_35 : decode cX3_loseTo 35 = .ok (.lsub, 1) := by decide +kernel
theorem dX3_loseTo_36 : decode cX3_loseTo 36 = .ok (.putfield 19, 3) := by decide +kernel
theorem dX3_loseTo_39 : decode cX3_loseTo 39 = .ok (.aload_n 0, 1) := by decide +kernel
theorem dX3_loseTo_40 : decode cX3_loseTo 40 = .ok (.dup, 1) := by decide +kernel
theorem dX3_loseTo_41 : decode cX3_loseTo 41 = .ok (.getfield 32, 3) := by decide +kernel
theorem dX3_loseTo_44 : decode cX3_loseTo 44 = .ok (.aload_n 1, 1) := by decide +kernel
theorem dX3_loseTo_45 : decode cX3_loseTo 45 = .ok (.getfield 32, 3) := by decide +kernel
theorem dX3_loseTo_48 : decode cX3_loseTo 48 = .ok (.lsub, 1) := by decide +kernel
theorem dX3_loseTo_49 : decode cX3_loseTo 49 = .ok (.putfield 32, 3) := by decide +kernel
theorem dX3_loseTo_52 : decode cX3_loseTo 52 = .ok (.iconst 0, 1) := by decide +kernel
theorem dX3_loseTo_53 : decode cX3_loseTo 53 = .ok (.istore_n 2, 1) := by decide +kernel
theorem dX3_loseTo_54 : decode cX3_loseTo 54 = .ok (.iload_n 2, 1) := by decide +kernel
theorem dX3_loseTo_55 : decode cX3_loseTo 55 = .ok (.bipush 60, 2) := by decide +kernel
theorem dX3_loseTo_57 : decode cX3_loseTo 57 = .ok (.if_icmp .ge 24, 3) := by decide +kernel
theorem dX3_loseTo_60 : decode cX3_loseTo 60 = .ok (.aload_n 0, 1) := by decide +kernel
theorem dX3_loseTo_61 : decode cX3_loseTo 61 = .ok (.getfield 9, 3) := by decide +kernel
theorem dX3_loseTo_64 : decode cX3_loseTo 64 = .ok (.iload_n 2, 1) := by decide +kernel
theorem dX3_loseTo_65 : decode cX3_loseTo 65 = .ok (.dup2, 1) := by decide +kernel
theorem dX3_loseTo_66 : decode cX3_loseTo 66 = .ok (.laload, 1) := by decide +kernel
theorem dX3_loseTo_67 : decode cX3_loseTo 67 = .ok (.aload_n 1, 1) := by decide +kernel
theorem dX3_loseTo_68 : decode cX3_loseTo 68 = .ok (.getfield 9, 3) := by decide +kernel
theorem dX3_loseTo_71 : decode cX3_loseTo 71 = .ok (.iload_n 2, 1) := by decide +kernel
theorem dX3_loseTo_72 : decode cX3_loseTo 72 = .ok (.laload, 1) := by decide +kernel
theorem dX3_loseTo_73 : decode cX3_loseTo 73 = .ok (.lsub, 1) := by decide +kernel
theorem dX3_loseTo_74 : decode cX3_loseTo 74 = .ok (.lastore, 1) := by decide +kernel
theorem dX3_loseTo_75 : decode cX3_loseTo 75 = .ok (.iinc 2 1, 3) := by decide +kernel
theorem dX3_loseTo_78 : decode cX3_loseTo 78 = .ok (.goto (-24), 3) := by decide +kernel
theorem dX3_loseTo_81 : decode cX3_loseTo 81 = .ok (.return_, 1) := by decide +kernel
theorem dX4_init_0 : decode cX4_init 0 = .ok (.aload_n 0, 1) := by decide +kernel
theorem dX4_init_1 : decode cX4_init 1 = .ok (.invokespecial 3, 3) := by decide +kernel
theorem dX4_init_4 : decode cX4_init 4 = .ok (.aload_n 0, 1) := by decide +kernel
theorem dX4_init_5 : decode cX4_init 5 = .ok (.bipush 111, 2) := by decide +kernel
theorem dX4_init_7 : decode cX4_init 7 = .ok (.newarray .int, 2) := by decide +kernel
theorem dX4_init_9 : decode cX4_init 9 = .ok (.putfield 9, 3) := by decide +kernel
theorem dX4_init_12 : decode cX4_init 12 = .ok (.iconst 0, 1) := by decide +kernel
theorem dX4_init_13 : decode cX4_init 13 = .ok (.istore_n 1, 1) := by decide +kernel
theorem dX4_init_14 : decode cX4_init 14 = .ok (.iload_n 1, 1) := by decide +kernel
theorem dX4_init_15 : decode cX4_init 15 = .ok (.bipush 110, 2) := by decide +kernel
theorem dX4_init_17 : decode cX4_init 17 = .ok (.if_icmp .gt 23, 3) := by decide +kernel
theorem dX4_init_20 : decode cX4_init 20 = .ok (.aload_n 0, 1) := by decide +kernel
theorem dX4_init_21 : decode cX4_init 21 = .ok (.getfield 9, 3) := by decide +kernel
theorem dX4_init_24 : decode cX4_init 24 = .ok (.iload_n 1, 1) := by decide +kernel
theorem dX4_init_25 : decode cX4_init 25 = .ok (.ldc 15, 2) := by decide +kernel
theorem dX4_init_27 : decode cX4_init 27 = .ok (.sipush 900, 3) := by decide +kernel
theorem dX4_init_30 : decode cX4_init 30 = .ok (.iload_n 1, 1) := by decide +kernel
theorem dX4_init_31 : decode cX4_init 31 = .ok (.imul, 1) := by decide +kernel
theorem dX4_init_32 : decode cX4_init 32 = .ok (.isub, 1) := by decide +kernel
theorem dX4_init_33 : decode cX4_init 33 = .ok (.iastore, 1) := by decide +kernel
theorem dX4_init_34 : decode cX4_init 34 = .ok (.iinc 1 1, 3) := by decide +kernel
theorem dX4_init_37 : decode cX4_init 37 = .ok (.goto (-23), 3) := by decide +kernel
theorem dX4_init_40 : decode cX4_init 40 = .ok (.return_, 1) := by decide +kernel
theorem dX4_at_0 : decode cX4_at 0 = .ok (.iload_n 1, 1) := by decide +kernel
theorem dX4_at_1 : decode cX4_at 1 = .ok (.invokestatic 16, 3) := by decide +kernel
theorem dX4_at_4 : decode cX4_at 4 = .ok (.ifCond .eq 13, 3) := by decide +kernel
theorem dX4_at_7 : decode cX4_at 7 = .ok (.aload_n 0, 1) := by decide +kernel
theorem dX4_at_8 : decode cX4_at 8 = .ok (.getfield 9, 3) := by decide +kernel
theorem dX4_at_11 : decode cX4_at 11 = .ok (.iload_n 1, 1) := by decide +kernel
theorem dX4_at_12 : decode cX4_at 12 = .ok (.iaload, 1) := by decide +kernel
theorem dX4_at_13 : decode cX4_at 13 = .ok (.i2l, 1) := by decide +kernel
theorem dX4_at_14 : decode cX4_at 14 = .ok (.goto 4, 3) := by decide +kernel
theorem dX4_at_17 : decode cX4_at 17 = .ok (.lconst 0, 1) := by decide +kernel
theorem dX4_at_18 : decode cX4_at 18 = .ok (.lreturn, 1) := by decide +kernel
theorem dX4_fits_0 : decode cX4_fits 0 = .ok (.iload_n 1, 1) := by decide +kernel
theorem dX4_fits_1 : decode cX4_fits 1 = .ok (.ifCond .le 16, 3) := by decide +kernel
theorem dX4_fits_4 : decode cX4_fits 4 = .ok (.iload_n 2, 1) := by decide +kernel
theorem dX4_fits_5 : decode cX4_fits 5 = .ok (.i2l, 1) := by decide +kernel
theorem dX4_fits_6 : decode cX4_fits 6 = .ok (.aload_n 0, 1) := by decide +kernel
theorem dX4_fits_7 : decode cX4_fits 7 = .ok (.iload_n 1, 1) := by decide +kernel
theorem dX4_fits_8 : decode cX4_fits 8 = .ok (.iconst 1, 1) := by decide +kernel
theorem dX4_fits_9 : decode cX4_fits 9 = .ok (.isub, 1) := by decide +kernel
theorem dX4_fits_10 : decode cX4_fits 10 = .ok (.invokevirtual 20, 3) := by decide +kernel
theorem dX4_fits_13 : decode cX4_fits 13 = .ok (.lcmp, 1) := by decide +kernel
theorem dX4_fits_14 : decode cX4_fits 14 = .ok (.ifCond .gt 7, 3) := by decide +kernel
theorem dX4_fits_17 : decode cX4_fits 17 = .ok (.iconst 1, 1) := by decide +kernel
theorem dX4_fits_18 : decode cX4_fits 18 = .ok (.goto 4, 3) := by decide +kernel
theorem dX4_fits_21 : decode cX4_fits 21 = .ok (.iconst 0, 1) := by decide +kernel
theorem dX4_fits_22 : decode cX4_fits 22 = .ok (.istore_n 3, 1) := by decide +kernel
theorem dX4_fits_23 : decode cX4_fits 23 = .ok (.iload_n 1, 1) := by decide +kernel
theorem dX4_fits_24 : decode cX4_fits 24 = .ok (.bipush 110, 2) := by decide +kernel
theorem dX4_fits_26 : decode cX4_fits 26 = .ok (.if_icmp .ge 16, 3) := by decide +kernel
theorem dX4_fits_29 : decode cX4_fits 29 = .ok (.iload_n 2, 1) := by decide +kernel
theorem dX4_fits_30 : decode cX4_fits 30 = .ok (.i2l, 1) := by decide +kernel
theorem dX4_fits_31 : decode cX4_fits 31 = .ok (.aload_n 0, 1) := by decide +kernel
theorem dX4_fits_32 : decode cX4_fits 32 = .ok (.iload_n 1, 1) := by decide +kernel
theorem dX4_fits_33 : decode cX4_fits 33 = .ok (.iconst 1, 1) := by decide +kernel
theorem dX4_fits_34 : decode cX4_fits 34 = .ok (.iadd, 1) := by decide +kernel
theorem dX4_fits_35 : decode cX4_fits 35 = .ok (.invokevirtual 20, 3) := by decide +kernel
theorem dX4_fits_38 : decode cX4_fits 38 = .ok (.lcmp, 1) := by decide +kernel
theorem dX4_fits_39 : decode cX4_fits 39 = .ok (.ifCond .lt 7, 3) := by decide +kernel
theorem dX4_fits_42 : decode cX4_fits 42 = .ok (.iconst 1, 1) := by decide +kernel
theorem dX4_fits_43 : decode cX4_fits 43 = .ok (.goto 4, 3) := by decide +kernel
theorem dX4_fits_46 : decode cX4_fits 46 = .ok (.iconst 0, 1) := by decide +kernel
theorem dX4_fits_47 : decode cX4_fits 47 = .ok (.istore 4, 2) := by decide +kernel
theorem dX4_fits_49 : decode cX4_fits 49 = .ok (.iload_n 3, 1) := by decide +kernel
theorem dX4_fits_50 : decode cX4_fits 50 = .ok (.ifCond .eq 12, 3) := by decide +kernel
theorem dX4_fits_53 : decode cX4_fits 53 = .ok (.iload 4, 2) := by decide +kernel
theorem dX4_fits_55 : decode cX4_fits 55 = .ok (.ifCond .eq 7, 3) := by decide +kernel
theorem dX4_fits_58 : decode cX4_fits 58 = .ok (.iconst 1, 1) := by decide +kernel
theorem dX4_fits_59 : decode cX4_fits 59 = .ok (.goto 4, 3) := by decide +kernel
theorem dX4_fits_62 : decode cX4_fits 62 = .ok (.iconst 0, 1) := by decide +kernel
theorem dX4_fits_63 : decode cX4_fits 63 = .ok (.ireturn, 1) := by decide +kernel
theorem dX4_replace_0 : decode cX4_replace 0 = .ok (.aload_n 0, 1) := by decide +kernel
theorem dX4_replace_1 : decode cX4_replace 1 = .ok (.iload_n 1, 1) := by decide +kernel
theorem dX4_replace_2 : decode cX4_replace 2 = .ok (.invokevirtual 20, 3) := by decide +kernel
theorem dX4_replace_5 : decode cX4_replace 5 = .ok (.lstore_n 3, 1) := by decide +kernel
theorem dX4_replace_6 : decode cX4_replace 6 = .ok (.iload_n 1, 1) := by decide +kernel
theorem dX4_replace_7 : decode cX4_replace 7 = .ok (.invokestatic 16, 3) := by decide +kernel
theorem dX4_replace_10 : decode cX4_replace 10 = .ok (.ifCond .eq 10, 3) := by decide +kernel
theorem dX4_replace_13 : decode cX4_replace 13 = .ok (.aload_n 0, 1) := by decide +kernel
theorem dX4_replace_14 : decode cX4_replace 14 = .ok (.getfield 9, 3) := by decide +kernel
theorem dX4_replace_17 : decode cX4_replace 17 = .ok (.iload_n 1, 1) := by decide +kernel
theorem dX4_replace_18 : decode cX4_replace 18 = .ok (.iload_n 2, 1) := by decide +kernel
theorem dX4_replace_19 : decode cX4_replace 19 = .ok (.iastore, 1) := by decide +kernel
theorem dX4_replace_20 : decode cX4_replace 20 = .ok (.lload_n 3, 1) := by decide +kernel
theorem dX4_replace_21 : decode cX4_replace 21 = .ok (.lreturn, 1) := by decide +kernel
theorem dX4_sumAbove_0 : decode cX4_sumAbove 0 = .ok (.lconst 0, 1) := by decide +kernel
theorem dX4_sumAbove_1 : decode cX4_sumAbove 1 = .ok (.lstore_n 2, 1) := by decide +kernel
theorem dX4_sumAbove_2 : decode cX4_sumAbove 2 = .ok (.iload_n 1, 1) := by decide +kernel
theorem dX4_sumAbove_3 : decode cX4_sumAbove 3 = .ok (.iconst 1, 1) := by decide +kernel
theorem dX4_sumAbove_4 : decode cX4_sumAbove 4 = .ok (.iadd, 1) := by decide +kernel
theorem dX4_sumAbove_5 : decode cX4_sumAbove 5 = .ok (.istore 4, 2) := by decide +kernel
theorem dX4_sumAbove_7 : decode cX4_sumAbove 7 = .ok (.iload 4, 2) := by decide +kernel
theorem dX4_sumAbove_9 : decode cX4_sumAbove 9 = .ok (.bipush 110, 2) := by decide +kernel
theorem dX4_sumAbove_11 : decode cX4_sumAbove 11 = .ok (.if_icmp .gt 18, 3) := by decide +kernel
theorem dX4_sumAbove_14 : decode cX4_sumAbove 14 = .ok (.lload_n 2, 1) := by decide +kernel
theorem dX4_sumAbove_15 : decode cX4_sumAbove 15 = .ok (.aload_n 0, 1) := by decide +kernel
theorem dX4_sumAbove_16 : decode cX4_sumAbove 16 = .ok (.iload 4, 2) := by decide +kernel
theorem dX4_sumAbove_18 : decode cX4_sumAbove 18 = .ok (.invokevirtual 20, 3) := by decide +kernel
theorem dX4_sumAbove_21 : decode cX4_sumAbove 21 = .ok (.ladd, 1) := by decide +kernel
theorem dX4_sumAbove_22 : decode cX4_sumAbove 22 = .ok (.lstore_n 2, 1) := by decide +kernel
theorem dX4_sumAbove_23 : decode cX4_sumAbove 23 = .ok (.iinc 4 1, 3) := by decide +kernel
theorem dX4_sumAbove_26 : decode cX4_sumAbove 26 = .ok (.goto (-19), 3) := by decide +kernel
theorem dX4_sumAbove_29 : decode cX4_sumAbove 29 = .ok (.lload_n 2, 1) := by decide +kernel
theorem dX4_sumAbove_30 : decode cX4_sumAbove 30 = .ok (.lreturn, 1) := by decide +kernel
theorem dX4_copyFrom_0 : decode cX4_copyFrom 0 = .ok (.aload_n 1, 1) := by decide +kernel
theorem dX4_copyFrom_1 : decode cX4_copyFrom 1 = .ok (.getfield 9, 3) := by decide +kernel
theorem dX4_copyFrom_4 : decode cX4_copyFrom 4 = .ok (.iconst 0, 1) := by decide +kernel
theorem dX4_copyFrom_5 : decode cX4_copyFrom 5 = .ok (.aload_n 0, 1) := by decide +kernel
theorem dX4_copyFrom_6 : decode cX4_copyFrom 6 = .ok (.getfield 9, 3) := by decide +kernel
theorem dX4_copyFrom_9 : decode cX4_copyFrom 9 = .ok (.iconst 0, 1) := by decide +kernel
theorem dX4_copyFrom_10 : decode cX4_copyFrom 10 = .ok (.bipush 111, 2) := by decide +kernel
theorem dX4_copyFrom_12 : decode cX4_copyFrom 12 = .ok (.invokestatic 24, 3) := by decide +kernel
theorem dX4_copyFrom_15 : decode cX4_copyFrom 15 = .ok (.return_, 1) := by decide +kernel
theorem dX5_init_0 : decode cX5_init 0 = .ok (.aload_n 0, 1) := by decide +kernel
theorem dX5_init_1 : decode cX5_init 1 = .ok (.invokespecial 1, 3) := by decide +kernel
theorem dX5_init_4 : decode cX5_init 4 = .ok (.aload_n 0, 1) := by decide +kernel
theorem dX5_init_5 : decode cX5_init 5 = .ok (.new 7, 3) := by decide +kernel
theorem dX5_init_8 : decode cX5_init 8 = .ok (.dup, 1) := by decide +kernel
theorem dX5_init_9 : decode cX5_init 9 = .ok (.invokespecial 9, 3) := by decide +kernel
theorem dX5_init_12 : decode cX5_init 12 = .ok (.putfield 10, 3) := by decide +kernel
theorem dX5_init_15 : decode cX5_init 15 = .ok (.aload_n 0, 1) := by decide +kernel
theorem dX5_init_16 : decode cX5_init 16 = .ok (.aconst_null, 1) := by decide +kernel
theorem dX5_init_17 : decode cX5_init 17 = .ok (.putfield 16, 3) := by decide +kernel
theorem dX5_init_20 : decode cX5_init 20 = .ok (.return_, 1) := by decide +kernel
theorem dX5_living_0 : decode cX5_living 0 = .ok (.iload_n 1, 1) := by decide +kernel
theorem dX5_living_1 : decode cX5_living 1 = .ok (.invokestatic 19, 3) := by decide +kernel
theorem dX5_living_4 : decode cX5_living 4 = .ok (.ifCond .eq 28, 3) := by decide +kernel
theorem dX5_living_7 : decode cX5_living 7 = .ok (.iload_n 2, 1) := by decide +kernel
theorem dX5_living_8 : decode cX5_living 8 = .ok (.ifCond .lt 24, 3) := by decide +kernel
theorem dX5_living_11 : decode cX5_living 11 = .ok (.iload_n 2, 1) := by decide +kernel
theorem dX5_living_12 : decode cX5_living 12 = .ok (.ldc 23, 2) := by decide +kernel
theorem dX5_living_14 : decode cX5_living 14 = .ok (.if_icmp .gt 18, 3) := by decide +kernel
theorem dX5_living_17 : decode cX5_living 17 = .ok (.aload_n 0, 1) := by decide +kernel
theorem dX5_living_18 : decode cX5_living 18 = .ok (.getfield 10, 3) := by decide +kernel
theorem dX5_living_21 : decode cX5_living 21 = .ok (.getfield 24, 3) := by decide +kernel
theorem dX5_living_24 : decode cX5_living 24 = .ok (.iload_n 1, 1) := by decide +kernel
theorem dX5_living_25 : decode cX5_living 25 = .ok (.iload_n 2, 1) := by decide +kernel
theorem dX5_living_26 : decode cX5_living 26 = .ok (.invokevirtual 28, 3) := by decide +kernel
theorem dX5_living_29 : decode cX5_living 29 = .ok (.ifCond .ne 7, 3) := by decide +kernel
theorem dX5_living_32 : decode cX5_living 32 = .ok (.ldc2_w 34, 3) := by decide +kernel
theorem dX5_living_35 : decode cX5_living 35 = .ok (.lreturn, 1) := by decide +kernel
theorem dX5_living_36 : decode cX5_living 36 = .ok (.aload_n 0, 1) := by decide +kernel
theorem dX5_living_37 : decode cX5_living 37 = .ok (.getfield 10, 3) := by decide +kernel
theorem dX5_living_40 : decode cX5_living 40 = .ok (.getfield 24, 3) := by decide +kernel
theorem dX5_living_43 : decode cX5_living 43 = .ok (.iload_n 1, 1) := by decide +kernel
theorem dX5_living_44 : decode cX5_living 44 = .ok (.iload_n 2, 1) := by decide +kernel
theorem dX5_living_45 : decode cX5_living 45 = .ok (.invokevirtual 36, 3) := by decide +kernel
theorem dX5_living_48 : decode cX5_living 48 = .ok (.lreturn, 1) := by decide +kernel
theorem dX5_foretell_0 : decode cX5_foretell 0 = .ok (.iload_n 1, 1) := by decide +kernel
theorem dX5_foretell_1 : decode cX5_foretell 1 = .ok (.invokestatic 19, 3) := by decide +kernel
theorem dX5_foretell_4 : decode cX5_foretell 4 = .ok (.ifCond .eq 7, 3) := by decide +kernel
theorem dX5_foretell_7 : decode cX5_foretell 7 = .ok (.iload_n 2, 1) := by decide +kernel
theorem dX5_foretell_8 : decode cX5_foretell 8 = .ok (.ifCond .ge 7, 3) := by decide +kernel
theorem dX5_foretell_11 : decode cX5_foretell 11 = .ok (.ldc2_w 34, 3) := by decide +kernel
theorem dX5_foretell_14 : decode cX5_foretell 14 = .ok (.lreturn, 1) := by decide +kernel
theorem dX5_foretell_15 : decode cX5_foretell 15 = .ok (.iload_n 2, 1) := by decide +kernel
theorem dX5_foretell_16 : decode cX5_foretell 16 = .ok (.bipush 110, 2) := by decide +kernel
theorem dX5_foretell_18 : decode cX5_foretell 18 = .ok (.iload_n 1, 1) := by decide +kernel
theorem dX5_foretell_19 : decode cX5_foretell 19 = .ok (.isub, 1) := by decide +kernel
theorem dX5_foretell_20 : decode cX5_foretell 20 = .ok (.if_icmp .le 7, 3) := by decide +kernel
theorem dX5_foretell_23 : decode cX5_foretell 23 = .ok (.lconst 0, 1) := by decide +kernel
theorem dX5_foretell_24 : decode cX5_foretell 24 = .ok (.goto 33, 3) := by decide +kernel
theorem dX5_foretell_27 : decode cX5_foretell 27 = .ok (.ldc2_w 40, 3) := by decide +kernel
theorem dX5_foretell_30 : decode cX5_foretell 30 = .ok (.aload_n 0, 1) := by decide +kernel
theorem dX5_foretell_31 : decode cX5_foretell 31 = .ok (.getfield 10, 3) := by decide +kernel
theorem dX5_foretell_34 : decode cX5_foretell 34 = .ok (.getfield 24, 3) := by decide +kernel
theorem dX5_foretell_37 : decode cX5_foretell 37 = .ok (.iload_n 1, 1) := by decide +kernel
theorem dX5_foretell_38 : decode cX5_foretell 38 = .ok (.iload_n 2, 1) := by decide +kernel
theorem dX5_foretell_39 : decode cX5_foretell 39 = .ok (.iadd, 1) := by decide +kernel
theorem dX5_foretell_40 : decode cX5_foretell 40 = .ok (.invokevirtual 42, 3) := by decide +kernel
theorem dX5_foretell_43 : decode cX5_foretell 43 = .ok (.aload_n 0, 1) := by decide +kernel
theorem dX5_foretell_44 : decode cX5_foretell 44 = .ok (.getfield 10, 3) := by decide +kernel
theorem dX5_foretell_47 : decode cX5_foretell 47 = .ok (.getfield 24, 3) := by decide +kernel
theorem dX5_foretell_50 : decode cX5_foretell 50 = .ok (.iload_n 1, 1) := by decide +kernel
theorem dX5_foretell_51 : decode cX5_foretell 51 = .ok (.invokevirtual 42, 3) := by decide +kernel
theorem dX5_foretell_54 : decode cX5_foretell 54 = .ok (.invokestatic 46, 3) := by decide +kernel
theorem dX5_foretell_57 : decode cX5_foretell 57 = .ok (.lreturn, 1) := by decide +kernel
theorem dX5_mean_0 : decode cX5_mean 0 = .ok (.iload_n 1, 1) := by decide +kernel
theorem dX5_mean_1 : decode cX5_mean 1 = .ok (.invokestatic 19, 3) := by decide +kernel
theorem dX5_mean_4 : decode cX5_mean 4 = .ok (.ifCond .ne 7, 3) := by decide +kernel
theorem dX5_mean_7 : decode cX5_mean 7 = .ok (.ldc2_w 34, 3) := by decide +kernel
theorem dX5_mean_10 : decode cX5_mean 10 = .ok (.lreturn, 1) := by decide +kernel
theorem dX5_mean_11 : decode cX5_mean 11 = .ok (.ldc2_w 50, 3) := by decide +kernel
theorem dX5_mean_14 : decode cX5_mean 14 = .ok (.aload_n 0, 1) := by decide +kernel
theorem dX5_mean_15 : decode cX5_mean 15 = .ok (.getfield 10, 3) := by decide +kernel
theorem dX5_mean_18 : decode cX5_mean 18 = .ok (.getfield 24, 3) := by decide +kernel
theorem dX5_mean_21 : decode cX5_mean 21 = .ok (.iload_n 1, 1) := by decide +kernel
theorem dX5_mean_22 : decode cX5_mean 22 = .ok (.invokevirtual 52, 3) := by decide +kernel
theorem dX5_mean_25 : decode cX5_mean 25 = .ok (.aload_n 0, 1) := by decide +kernel
theorem dX5_mean_26 : decode cX5_mean 26 = .ok (.getfield 10, 3) := by decide +kernel
theorem dX5_mean_29 : decode cX5_mean 29 = .ok (.getfield 24, 3) := by decide +kernel
theorem dX5_mean_32 : decode cX5_mean 32 = .ok (.iload_n 1, 1) := by decide +kernel
theorem dX5_mean_33 : decode cX5_mean 33 = .ok (.invokevirtual 42, 3) := by decide +kernel
theorem dX5_mean_36 : decode cX5_mean 36 = .ok (.invokestatic 46, 3) := by decide +kernel
theorem dX5_mean_39 : decode cX5_mean 39 = .ok (.lreturn, 1) := by decide +kernel
theorem dX5_dearer_0 : decode cX5_dearer 0 = .ok (.aload_n 0, 1) := by decide +kernel
theorem dX5_dearer_1 : decode cX5_dearer 1 = .ok (.getfield 10, 3) := by decide +kernel
theorem dX5_dearer_4 : decode cX5_dearer 4 = .ok (.iload_n 1, 1) := by decide +kernel
theorem dX5_dearer_5 : decode cX5_dearer 5 = .ok (.invokevirtual 55, 3) := by decide +kernel
theorem dX5_dearer_8 : decode cX5_dearer 8 = .ok (.ifCond .eq 14, 3) := by decide +kernel
theorem dX5_dearer_11 : decode cX5_dearer 11 = .ok (.aload_n 0, 1) := by decide +kernel
theorem dX5_dearer_12 : decode cX5_dearer 12 = .ok (.getfield 10, 3) := by decide +kernel
theorem dX5_dearer_15 : decode cX5_dearer 15 = .ok (.iload_n 2, 1) := by decide +kernel
theorem dX5_dearer_16 : decode cX5_dearer 16 = .ok (.invokevirtual 55, 3) := by decide +kernel
theorem dX5_dearer_19 : decode cX5_dearer 19 = .ok (.ifCond .ne 7, 3) := by decide +kernel
theorem dX5_dearer_22 : decode cX5_dearer 22 = .ok (.ldc2_w 34, 3) := by decide +kernel
theorem dX5_dearer_25 : decode cX5_dearer 25 = .ok (.lreturn, 1) := by decide +kernel
theorem dX5_dearer_26 : decode cX5_dearer 26 = .ok (.aload_n 0, 1) := by decide +kernel
theorem dX5_dearer_27 : decode cX5_dearer 27 = .ok (.getfield 10, 3) := by decide +kernel
theorem dX5_dearer_30 : decode cX5_dearer 30 = .ok (.getfield 58, 3) := by decide +kernel
theorem dX5_dearer_33 : decode cX5_dearer 33 = .ok (.iload_n 1, 1) := by decide +kernel
theorem dX5_dearer_34 : decode cX5_dearer 34 = .ok (.aaload, 1) := by decide +kernel
theorem dX5_dearer_35 : decode cX5_dearer 35 = .ok (.astore_n 3, 1) := by decide +kernel
theorem dX5_dearer_36 : decode cX5_dearer 36 = .ok (.aload_n 0, 1) := by decide +kernel
theorem dX5_dearer_37 : decode cX5_dearer 37 = .ok (.getfield 10, 3) := by decide +kernel
theorem dX5_dearer_40 : decode cX5_dearer 40 = .ok (.getfield 58, 3) := by decide +kernel
theorem dX5_dearer_43 : decode cX5_dearer 43 = .ok (.iload_n 2, 1) := by decide +kernel
theorem dX5_dearer_44 : decode cX5_dearer 44 = .ok (.aaload, 1) := by decide +kernel
theorem dX5_dearer_45 : decode cX5_dearer 45 = .ok (.astore 4, 2) := by decide +kernel
theorem dX5_dearer_47 : decode cX5_dearer 47 = .ok (.aload_n 0, 1) := by decide +kernel
theorem dX5_dearer_48 : decode cX5_dearer 48 = .ok (.getfield 10, 3) := by decide +kernel
theorem dX5_dearer_51 : decode cX5_dearer 51 = .ok (.getfield 24, 3) := by decide +kernel
theorem dX5_dearer_54 : decode cX5_dearer 54 = .ok (.aload_n 3, 1) := by decide +kernel
theorem dX5_dearer_55 : decode cX5_dearer 55 = .ok (.getfield 62, 3) := by decide +kernel
theorem dX5_dearer_58 : decode cX5_dearer 58 = .ok (.invokevirtual 52, 3) := by decide +kernel
theorem dX5_dearer_61 : decode cX5_dearer 61 = .ok (.lstore 5, 2) := by decide +kernel
theorem dX5_dearer_63 : decode cX5_dearer 63 = .ok (.aload_n 0, 1) := by decide +kernel
theorem dX5_dearer_64 : decode cX5_dearer 64 = .ok (.getfield 10, 3) := by decide +kernel
theorem dX5_dearer_67 : decode cX5_dearer 67 = .ok (.getfield 24, 3) := by decide +kernel
theorem dX5_dearer_70 : decode cX5_dearer 70 = .ok (.aload 4, 2) := by decide +kernel
theorem dX5_dearer_72 : decode cX5_dearer 72 = .ok (.getfield 62, 3) := by decide +kernel
theorem dX5_dearer_75 : decode cX5_dearer 75 = .ok (.invokevirtual 52, 3) := by decide +kernel
theorem dX5_dearer_78 : decode cX5_dearer 78 = .ok (.lstore 7, 2) := by decide +kernel
theorem dX5_dearer_80 : decode cX5_dearer 80 = .ok (.lload 5, 2) := by decide +kernel
theorem dX5_dearer_82 : decode cX5_dearer 82 = .ok (.lconst 0, 1) := by decide +kernel
theorem dX5_dearer_83 : decode cX5_dearer 83 = .ok (.lcmp, 1) := by decide +kernel
theorem dX5_dearer_84 : decode cX5_dearer 84 = .ok (.ifCond .eq 10, 3) := by decide +kernel
theorem dX5_dearer_87 : decode cX5_dearer 87 = .ok (.lload 7, 2) := by decide +kernel
theorem dX5_dearer_89 : decode cX5_dearer 89 = .ok (.lconst 0, 1) := by decide +kernel
theorem dX5_dearer_90 : decode cX5_dearer 90 = .ok (.lcmp, 1) := by decide +kernel
theorem dX5_dearer_91 : decode cX5_dearer 91 = .ok (.ifCond .ne 11, 3) := by decide +kernel
theorem dX5_dearer_94 : decode cX5_dearer 94 = .ok (.lload 7, 2) := by decide +kernel
theorem dX5_dearer_96 : decode cX5_dearer 96 = .ok (.lload 5, 2) := by decide +kernel
theorem dX5_dearer_98 : decode cX5_dearer 98 = .ok (.invokestatic 68, 3) := by decide +kernel
theorem dX5_dearer_101 : decode cX5_dearer 101 = .ok (.lreturn, 1) := by decide +kernel
theorem dX5_dearer_102 : decode cX5_dearer 102 = .ok (.aload_n 3, 1) := by decide +kernel
theorem dX5_dearer_103 : decode cX5_dearer 103 = .ok (.getfield 72, 3) := by decide +kernel
theorem dX5_dearer_106 : decode cX5_dearer 106 = .ok (.i2l, 1) := by decide +kernel
theorem dX5_dearer_107 : decode cX5_dearer 107 = .ok (.aload_n 0, 1) := by decide +kernel
theorem dX5_dearer_108 : decode cX5_dearer 108 = .ok (.getfield 10, 3) := by decide +kernel
theorem dX5_dearer_111 : decode cX5_dearer 111 = .ok (.getfield 24, 3) := by decide +kernel
theorem dX5_dearer_114 : decode cX5_dearer 114 = .ok (.aload_n 3, 1) := by decide +kernel
theorem dX5_dearer_115 : decode cX5_dearer 115 = .ok (.getfield 62, 3) := by decide +kernel
theorem dX5_dearer_118 : decode cX5_dearer 118 = .ok (.invokevirtual 42, 3) := by decide +kernel
theorem dX5_dearer_121 : decode cX5_dearer 121 = .ok (.lmul, 1) := by decide +kernel
theorem dX5_dearer_122 : decode cX5_dearer 122 = .ok (.lload 7, 2) := by decide +kernel
theorem dX5_dearer_124 : decode cX5_dearer 124 = .ok (.lmul, 1) := by decide +kernel
theorem dX5_dearer_125 : decode cX5_dearer 125 = .ok (.aload 4, 2) := by decide +kernel
theorem dX5_dearer_127 : decode cX5_dearer 127 = .ok (.getfield 72, 3) := by decide +kernel
theorem dX5_dearer_130 : decode cX5_dearer 130 = .ok (.i2l, 1) := by decide +kernel
theorem dX5_dearer_131 : decode cX5_dearer 131 = .ok (.aload_n 0, 1) := by decide +kernel
theorem dX5_dearer_132 : decode cX5_dearer 132 = .ok (.getfield 10, 3) := by decide +kernel
theorem dX5_dearer_135 : decode cX5_dearer 135 = .ok (.getfield 24, 3) := by decide +kernel
theorem dX5_dearer_138 : decode cX5_dearer 138 = .ok (.aload 4, 2) := by decide +kernel
theorem dX5_dearer_140 : decode cX5_dearer 140 = .ok (.getfield 62, 3) := by decide +kernel
theorem dX5_dearer_143 : decode cX5_dearer 143 = .ok (.invokevirtual 42, 3) := by decide +kernel
theorem dX5_dearer_146 : decode cX5_dearer 146 = .ok (.lmul, 1) := by decide +kernel
theorem dX5_dearer_147 : decode cX5_dearer 147 = .ok (.lload 5, 2) := by decide +kernel
theorem dX5_dearer_149 : decode cX5_dearer 149 = .ok (.lmul, 1) := by decide +kernel
theorem dX5_dearer_150 : decode cX5_dearer 150 = .ok (.invokestatic 68, 3) := by decide +kernel
theorem dX5_dearer_153 : decode cX5_dearer 153 = .ok (.lreturn, 1) := by decide +kernel
theorem dX5_member_0 : decode cX5_member 0 = .ok (.iload_n 1, 1) := by decide +kernel
theorem dX5_member_1 : decode cX5_member 1 = .ok (.aload_n 0, 1) := by decide +kernel
theorem dX5_member_2 : decode cX5_member 2 = .ok (.getfield 10, 3) := by decide +kernel
theorem dX5_member_5 : decode cX5_member 5 = .ok (.getfield 75, 3) := by decide +kernel
theorem dX5_member_8 : decode cX5_member 8 = .ok (.if_icmp .gt 29, 3) := by decide +kernel
theorem dX5_member_11 : decode cX5_member 11 = .ok (.iload_n 1, 1) := by decide +kernel
theorem dX5_member_12 : decode cX5_member 12 = .ok (.aload_n 0, 1) := by decide +kernel
theorem dX5_member_13 : decode cX5_member 13 = .ok (.getfield 10, 3) := by decide +kernel
theorem dX5_member_16 : decode cX5_member 16 = .ok (.getfield 75, 3) := by decide +kernel
theorem dX5_member_19 : decode cX5_member 19 = .ok (.bipush 110, 2) := by decide +kernel
theorem dX5_member_21 : decode cX5_member 21 = .ok (.isub, 1) := by decide +kernel
theorem dX5_member_22 : decode cX5_member 22 = .ok (.if_icmp .lt 15, 3) := by decide +kernel
theorem dX5_member_25 : decode cX5_member 25 = .ok (.aload_n 0, 1) := by decide +kernel
theorem dX5_member_26 : decode cX5_member 26 = .ok (.getfield 10, 3) := by decide +kernel
theorem dX5_member_29 : decode cX5_member 29 = .ok (.getfield 78, 3) := by decide +kernel
theorem dX5_member_32 : decode cX5_member 32 = .ok (.bipush 24, 2) := by decide +kernel
theorem dX5_member_34 : decode cX5_member 34 = .ok (.if_icmp .lt 7, 3) := by decide +kernel
theorem dX5_member_37 : decode cX5_member 37 = .ok (.ldc2_w 34, 3) := by decide +kernel
theorem dX5_member_40 : decode cX5_member 40 = .ok (.lreturn, 1) := by decide +kernel
theorem dX5_member_41 : decode cX5_member 41 = .ok (.aload_n 0, 1) := by decide +kernel
theorem dX5_member_42 : decode cX5_member 42 = .ok (.getfield 10, 3) := by decide +kernel
theorem dX5_member_45 : decode cX5_member 45 = .ok (.iload_n 1, 1) := by decide +kernel
theorem dX5_member_46 : decode cX5_member 46 = .ok (.invokevirtual 81, 3) := by decide +kernel
theorem dX5_member_49 : decode cX5_member 49 = .ok (.i2l, 1) := by decide +kernel
theorem dX5_member_50 : decode cX5_member 50 = .ok (.lreturn, 1) := by decide +kernel
theorem dX5_heir_0 : decode cX5_heir 0 = .ok (.aload_n 0, 1) := by decide +kernel
theorem dX5_heir_1 : decode cX5_heir 1 = .ok (.getfield 10, 3) := by decide +kernel
theorem dX5_heir_4 : decode cX5_heir 4 = .ok (.iload_n 1, 1) := by decide +kernel
theorem dX5_heir_5 : decode cX5_heir 5 = .ok (.invokevirtual 85, 3) := by decide +kernel
theorem dX5_heir_8 : decode cX5_heir 8 = .ok (.ifCond .eq 24, 3) := by decide +kernel
theorem dX5_heir_11 : decode cX5_heir 11 = .ok (.iload_n 2, 1) := by decide +kernel
theorem dX5_heir_12 : decode cX5_heir 12 = .ok (.iload_n 1, 1) := by decide +kernel
theorem dX5_heir_13 : decode cX5_heir 13 = .ok (.if_icmp .eq 19, 3) := by decide +kernel
theorem dX5_heir_16 : decode cX5_heir 16 = .ok (.iload_n 2, 1) := by decide +kernel
theorem dX5_heir_17 : decode cX5_heir 17 = .ok (.iconst (-1), 1) := by decide +kernel
theorem dX5_heir_18 : decode cX5_heir 18 = .ok (.if_icmp .eq 18, 3) := by decide +kernel
theorem dX5_heir_21 : decode cX5_heir 21 = .ok (.aload_n 0, 1) := by decide +kernel
theorem dX5_heir_22 : decode cX5_heir 22 = .ok (.getfield 10, 3) := by decide +kernel
theorem dX5_heir_25 : decode cX5_heir 25 = .ok (.iload_n 2, 1) := by decide +kernel
theorem dX5_heir_26 : decode cX5_heir 26 = .ok (.invokevirtual 85, 3) := by decide +kernel
theorem dX5_heir_29 : decode cX5_heir 29 = .ok (.ifCond .ne 7, 3) := by decide +kernel
theorem dX5_heir_32 : decode cX5_heir 32 = .ok (.ldc2_w 34, 3) := by decide +kernel
theorem dX5_heir_35 : decode cX5_heir 35 = .ok (.lreturn, 1) := by decide +kernel
theorem dX5_heir_36 : decode cX5_heir 36 = .ok (.aload_n 0, 1) := by decide +kernel
theorem dX5_heir_37 : decode cX5_heir 37 = .ok (.getfield 10, 3) := by decide +kernel
theorem dX5_heir_40 : decode cX5_heir 40 = .ok (.getfield 88, 3) := by decide +kernel
theorem dX5_heir_43 : decode cX5_heir 43 = .ok (.iload_n 1, 1) := by decide +kernel
theorem dX5_heir_44 : decode cX5_heir 44 = .ok (.aaload, 1) := by decide +kernel
theorem dX5_heir_45 : decode cX5_heir 45 = .ok (.getfield 92, 3) := by decide +kernel
theorem dX5_heir_48 : decode cX5_heir 48 = .ok (.istore_n 3, 1) := by decide +kernel
theorem dX5_heir_49 : decode cX5_heir 49 = .ok (.aload_n 0, 1) := by decide +kernel
theorem dX5_heir_50 : decode cX5_heir 50 = .ok (.getfield 10, 3) := by decide +kernel
theorem dX5_heir_53 : decode cX5_heir 53 = .ok (.getfield 88, 3) := by decide +kernel
theorem dX5_heir_56 : decode cX5_heir 56 = .ok (.iload_n 1, 1) := by decide +kernel
theorem dX5_heir_57 : decode cX5_heir 57 = .ok (.aaload, 1) := by decide +kernel
theorem dX5_heir_58 : decode cX5_heir 58 = .ok (.iload_n 2, 1) := by decide +kernel
theorem dX5_heir_59 : decode cX5_heir 59 = .ok (.putfield 92, 3) := by decide +kernel
theorem dX5_heir_62 : decode cX5_heir 62 = .ok (.iload_n 3, 1) := by decide +kernel
theorem dX5_heir_63 : decode cX5_heir 63 = .ok (.i2l, 1) := by decide +kernel
theorem dX5_heir_64 : decode cX5_heir 64 = .ok (.lreturn, 1) := by decide +kernel
theorem dX5_group_0 : decode cX5_group 0 = .ok (.iload_n 1, 1) := by decide +kernel
theorem dX5_group_1 : decode cX5_group 1 = .ok (.invokestatic 19, 3) := by decide +kernel
theorem dX5_group_4 : decode cX5_group 4 = .ok (.ifCond .eq 15, 3) := by decide +kernel
theorem dX5_group_7 : decode cX5_group 7 = .ok (.iload_n 2, 1) := by decide +kernel
theorem dX5_group_8 : decode cX5_group 8 = .ok (.invokestatic 19, 3) := by decide +kernel
theorem dX5_group_11 : decode cX5_group 11 = .ok (.ifCond .eq 8, 3) := by decide +kernel
theorem dX5_group_14 : decode cX5_group 14 = .ok (.iload_n 1, 1) := by decide +kernel
theorem dX5_group_15 : decode cX5_group 15 = .ok (.iload_n 2, 1) := by decide +kernel
theorem dX5_group_16 : decode cX5_group 16 = .ok (.if_icmp .le 7, 3) := by decide +kernel
theorem dX5_group_19 : decode cX5_group 19 = .ok (.ldc2_w 34, 3) := by decide +kernel
theorem dX5_group_22 : decode cX5_group 22 = .ok (.lreturn, 1) := by decide +kernel
theorem dX5_group_23 : decode cX5_group 23 = .ok (.iload_n 3, 1) := by decide +kernel
theorem dX5_group_24 : decode cX5_group 24 = .ok (.iconst 1, 1) := by decide +kernel
theorem dX5_group_25 : decode cX5_group 25 = .ok (.sipush 10000, 3) := by decide +kernel
theorem dX5_group_28 : decode cX5_group 28 = .ok (.invokestatic 97, 3) := by decide +kernel
theorem dX5_group_31 : decode cX5_group 31 = .ok (.ifCond .eq 15, 3) := by decide +kernel
theorem dX5_group_34 : decode cX5_group 34 = .ok (.aload_n 0, 1) := by decide +kernel
theorem dX5_group_35 : decode cX5_group 35 = .ok (.getfield 10, 3) := by decide +kernel
theorem dX5_group_38 : decode cX5_group 38 = .ok (.getfield 101, 3) := by decide +kernel
theorem dX5_group_41 : decode cX5_group 41 = .ok (.bipush 6, 2) := by decide +kernel
theorem dX5_group_43 : decode cX5_group 43 = .ok (.if_icmp .lt 7, 3) := by decide +kernel
theorem dX5_group_46 : decode cX5_group 46 = .ok (.ldc2_w 34, 3) := by decide +kernel
theorem dX5_group_49 : decode cX5_group 49 = .ok (.lreturn, 1) := by decide +kernel
theorem dX5_group_50 : decode cX5_group 50 = .ok (.aload_n 0, 1) := by decide +kernel
theorem dX5_group_51 : decode cX5_group 51 = .ok (.getfield 10, 3) := by decide +kernel
theorem dX5_group_54 : decode cX5_group 54 = .ok (.iload_n 1, 1) := by decide +kernel
theorem dX5_group_55 : decode cX5_group 55 = .ok (.iload_n 2, 1) := by decide +kernel
theorem dX5_group_56 : decode cX5_group 56 = .ok (.iload_n 3, 1) := by decide +kernel
theorem dX5_group_57 : decode cX5_group 57 = .ok (.invokevirtual 104, 3) := by decide +kernel
theorem dX5_group_60 : decode cX5_group 60 = .ok (.i2l, 1) := by decide +kernel
theorem dX5_group_61 : decode cX5_group 61 = .ok (.lreturn, 1) := by decide +kernel
theorem dX5_set_0 : decode cX5_set 0 = .ok (.iload_n 1, 1) := by decide +kernel
theorem dX5_set_1 : decode cX5_set 1 = .ok (.ifCond .ne 31, 3) := by decide +kernel
theorem dX5_set_4 : decode cX5_set 4 = .ok (.iload_n 2, 1) := by decide +kernel
theorem dX5_set_5 : decode cX5_set 5 = .ok (.iconst 1, 1) := by decide +kernel
theorem dX5_set_6 : decode cX5_set 6 = .ok (.iconst 5, 1) := by decide +kernel
theorem dX5_set_7 : decode cX5_set 7 = .ok (.invokestatic 97, 3) := by decide +kernel
theorem dX5_set_10 : decode cX5_set 10 = .ok (.ifCond .eq 22, 3) := by decide +kernel
theorem dX5_set_13 : decode cX5_set 13 = .ok (.aload_n 0, 1) := by decide +kernel
theorem dX5_set_14 : decode cX5_set 14 = .ok (.getfield 10, 3) := by decide +kernel
theorem dX5_set_17 : decode cX5_set 17 = .ok (.getfield 108, 3) := by decide +kernel
theorem dX5_set_20 : decode cX5_set 20 = .ok (.istore_n 3, 1) := by decide +kernel
theorem dX5_set_21 : decode cX5_set 21 = .ok (.aload_n 0, 1) := by decide +kernel
theorem dX5_set_22 : decode cX5_set 22 = .ok (.getfield 10, 3) := by decide +kernel
theorem dX5_set_25 : decode cX5_set 25 = .ok (.iload_n 2, 1) := by decide +kernel
theorem dX5_set_26 : decode cX5_set 26 = .ok (.putfield 108, 3) := by decide +kernel
theorem dX5_set_29 : decode cX5_set 29 = .ok (.iload_n 3, 1) := by decide +kernel
theorem dX5_set_30 : decode cX5_set 30 = .ok (.i2l, 1) := by decide +kernel
theorem dX5_set_31 : decode cX5_set 31 = .ok (.lreturn, 1) := by decide +kernel
theorem dX5_set_32 : decode cX5_set 32 = .ok (.iload_n 1, 1) := by decide +kernel
theorem dX5_set_33 : decode cX5_set 33 = .ok (.iconst 1, 1) := by decide +kernel
theorem dX5_set_34 : decode cX5_set 34 = .ok (.if_icmp .ne 33, 3) := by decide +kernel
theorem dX5_set_37 : decode cX5_set 37 = .ok (.iload_n 2, 1) := by decide +kernel
theorem dX5_set_38 : decode cX5_set 38 = .ok (.iconst 0, 1) := by decide +kernel
theorem dX5_set_39 : decode cX5_set 39 = .ok (.sipush 1000, 3) := by decide +kernel
theorem dX5_set_42 : decode cX5_set 42 = .ok (.invokestatic 97, 3) := by decide +kernel
theorem dX5_set_45 : decode cX5_set 45 = .ok (.ifCond .eq 22, 3) := by decide +kernel
theorem dX5_set_48 : decode cX5_set 48 = .ok (.aload_n 0, 1) := by decide +kernel
theorem dX5_set_49 : decode cX5_set 49 = .ok (.getfield 10, 3) := by decide +kernel
theorem dX5_set_52 : decode cX5_set 52 = .ok (.getfield 111, 3) := by decide +kernel
theorem dX5_set_55 : decode cX5_set 55 = .ok (.istore_n 3, 1) := by decide +kernel
theorem dX5_set_56 : decode cX5_set 56 = .ok (.aload_n 0, 1) := by decide +kernel
theorem dX5_set_57 : decode cX5_set 57 = .ok (.getfield 10, 3) := by decide +kernel
theorem dX5_set_60 : decode cX5_set 60 = .ok (.iload_n 2, 1) := by decide +kernel
theorem dX5_set_61 : decode cX5_set 61 = .ok (.putfield 111, 3) := by decide +kernel
theorem dX5_set_64 : decode cX5_set 64 = .ok (.iload_n 3, 1) := by decide +kernel
theorem dX5_set_65 : decode cX5_set 65 = .ok (.i2l, 1) := by decide +kernel
theorem dX5_set_66 : decode cX5_set 66 = .ok (.lreturn, 1) := by decide +kernel
theorem dX5_set_67 : decode cX5_set 67 = .ok (.ldc2_w 34, 3) := by decide +kernel
theorem dX5_set_70 : decode cX5_set 70 = .ok (.lreturn, 1) := by decide +kernel
theorem dX5_buy_0 : decode cX5_buy 0 = .ok (.iload 5, 2) := by decide +kernel
theorem dX5_buy_2 : decode cX5_buy 2 = .ok (.iconst 0, 1) := by decide +kernel
theorem dX5_buy_3 : decode cX5_buy 3 = .ok (.iconst 3, 1) := by decide +kernel
theorem dX5_buy_4 : decode cX5_buy 4 = .ok (.invokestatic 97, 3) := by decide +kernel
theorem dX5_buy_7 : decode cX5_buy 7 = .ok (.ifCond .eq 15, 3) := by decide +kernel
theorem dX5_buy_10 : decode cX5_buy 10 = .ok (.iload 4, 2) := by decide +kernel
theorem dX5_buy_12 : decode cX5_buy 12 = .ok (.iconst 1, 1) := by decide +kernel
theorem dX5_buy_13 : decode cX5_buy 13 = .ok (.sipush 1000, 3) := by decide +kernel
theorem dX5_buy_16 : decode cX5_buy 16 = .ok (.invokestatic 97, 3) := by decide +kernel
theorem dX5_buy_19 : decode cX5_buy 19 = .ok (.ifCond .ne 7, 3) := by decide +kernel
theorem dX5_buy_22 : decode cX5_buy 22 = .ok (.ldc2_w 34, 3) := by decide +kernel
theorem dX5_buy_25 : decode cX5_buy 25 = .ok (.lreturn, 1) := by decide +kernel
theorem dX5_buy_26 : decode cX5_buy 26 = .ok (.iload 5, 2) := by decide +kernel
theorem dX5_buy_28 : decode cX5_buy 28 = .ok (.iconst 2, 1) := by decide +kernel
theorem dX5_buy_29 : decode cX5_buy 29 = .ok (.if_icmp .eq 9, 3) := by decide +kernel
theorem dX5_buy_32 : decode cX5_buy 32 = .ok (.iload 5, 2) := by decide +kernel
theorem dX5_buy_34 : decode cX5_buy 34 = .ok (.iconst 3, 1) := by decide +kernel
theorem dX5_buy_35 : decode cX5_buy 35 = .ok (.if_icmp .ne 18, 3) := by decide +kernel
theorem dX5_buy_38 : decode cX5_buy 38 = .ok (.iload 6, 2) := by decide +kernel
theorem dX5_buy_40 : decode cX5_buy 40 = .ok (.iconst 1, 1) := by decide +kernel
theorem dX5_buy_41 : decode cX5_buy 41 = .ok (.bipush 30, 2) := by decide +kernel
theorem dX5_buy_43 : decode cX5_buy 43 = .ok (.invokestatic 97, 3) := by decide +kernel
theorem dX5_buy_46 : decode cX5_buy 46 = .ok (.ifCond .ne 7, 3) := by decide +kernel
theorem dX5_buy_49 : decode cX5_buy 49 = .ok (.ldc2_w 34, 3) := by decide +kernel
theorem dX5_buy_52 : decode cX5_buy 52 = .ok (.lreturn, 1) := by decide +kernel
theorem dX5_buy_53 : decode cX5_buy 53 = .ok (.iload 5, 2) := by decide +kernel
theorem dX5_buy_55 : decode cX5_buy 55 = .ok (.iconst 1, 1) := by decide +kernel
theorem dX5_buy_56 : decode cX5_buy 56 = .ok (.if_icmp .ne 7, 3) := by decide +kernel
theorem dX5_buy_59 : decode cX5_buy 59 = .ok (.iload_n 3, 1) := by decide +kernel
theorem dX5_buy_60 : decode cX5_buy 60 = .ok (.goto 4, 3) := by decide +kernel
theorem dX5_buy_63 : decode cX5_buy 63 = .ok (.iconst (-1), 1) := by decide +kernel
theorem dX5_buy_64 : decode cX5_buy 64 = .ok (.istore 7, 2) := by decide +kernel
theorem dX5_buy_66 : decode cX5_buy 66 = .ok (.aload_n 0, 1) := by decide +kernel
theorem dX5_buy_67 : decode cX5_buy 67 = .ok (.getfield 10, 3) := by decide +kernel
theorem dX5_buy_70 : decode cX5_buy 70 = .ok (.iload_n 1, 1) := by decide +kernel
theorem dX5_buy_71 : decode cX5_buy 71 = .ok (.invokevirtual 85, 3) := by decide +kernel
theorem dX5_buy_74 : decode cX5_buy 74 = .ok (.ifCond .eq 27, 3) := by decide +kernel
theorem dX5_buy_77 : decode cX5_buy 77 = .ok (.aload_n 0, 1) := by decide +kernel
theorem dX5_buy_78 : decode cX5_buy 78 = .ok (.getfield 10, 3) := by decide +kernel
theorem dX5_buy_81 : decode cX5_buy 81 = .ok (.iload_n 2, 1) := by decide +kernel
theorem dX5_buy_82 : decode cX5_buy 82 = .ok (.iload 7, 2) := by decide +kernel
theorem dX5_buy_84 : decode cX5_buy 84 = .ok (.iload 5, 2) := by decide +kernel
theorem dX5_buy_86 : decode cX5_buy 86 = .ok (.iconst 1, 1) := by decide +kernel
theorem dX5_buy_87 : decode cX5_buy 87 = .ok (.if_icmp .ne 7, 3) := by decide +kernel
theorem dX5_buy_90 : decode cX5_buy 90 = .ok (.iconst 1, 1) := by decide +kernel
theorem dX5_buy_91 : decode cX5_buy 91 = .ok (.goto 4, 3) := by decide +kernel
theorem dX5_buy_94 : decode cX5_buy 94 = .ok (.iconst 0, 1) := by decide +kernel
theorem dX5_buy_95 : decode cX5_buy 95 = .ok (.invokevirtual 114, 3) := by decide +kernel
theorem dX5_buy_98 : decode cX5_buy 98 = .ok (.ifCond .ne 7, 3) := by decide +kernel
theorem dX5_buy_101 : decode cX5_buy 101 = .ok (.ldc2_w 34, 3) := by decide +kernel
theorem dX5_buy_104 : decode cX5_buy 104 = .ok (.lreturn, 1) := by decide +kernel
theorem dX5_buy_105 : decode cX5_buy 105 = .ok (.aload_n 0, 1) := by decide +kernel
theorem dX5_buy_106 : decode cX5_buy 106 = .ok (.getfield 10, 3) := by decide +kernel
theorem dX5_buy_109 : decode cX5_buy 109 = .ok (.iload_n 2, 1) := by decide +kernel
theorem dX5_buy_110 : decode cX5_buy 110 = .ok (.iload 7, 2) := by decide +kernel
theorem dX5_buy_112 : decode cX5_buy 112 = .ok (.invokevirtual 118, 3) := by decide +kernel
theorem dX5_buy_115 : decode cX5_buy 115 = .ok (.istore 8, 2) := by decide +kernel
theorem dX5_buy_117 : decode cX5_buy 117 = .ok (.iload 8, 2) := by decide +kernel
theorem dX5_buy_119 : decode cX5_buy 119 = .ok (.iconst (-1), 1) := by decide +kernel
theorem dX5_buy_120 : decode cX5_buy 120 = .ok (.if_icmp .eq 15, 3) := by decide +kernel
theorem dX5_buy_123 : decode cX5_buy 123 = .ok (.aload_n 0, 1) := by decide +kernel
theorem dX5_buy_124 : decode cX5_buy 124 = .ok (.getfield 10, 3) := by decide +kernel
theorem dX5_buy_127 : decode cX5_buy 127 = .ok (.getfield 122, 3) := by decide +kernel
theorem dX5_buy_130 : decode cX5_buy 130 = .ok (.bipush 40, 2) := by decide +kernel
end
section
theorem dX5_buy_132 : decode cX5_buy 132 = .ok (.if_icmp .lt 7, 3) := by decide +kernel
theorem dX5_buy_135 : decode cX5_buy 135 = .ok (.ldc2_w 34, 3) := by decide +kernel
theorem dX5_buy_138 : decode cX5_buy 138 = .ok (.lreturn, 1) := by decide +kernel
theorem dX5_buy_139 : decode cX5_buy 139 = .ok (.aload_n 0, 1) := by decide +kernel
theorem dX5_buy_140 : decode cX5_buy 140 = .ok (.getfield 10, 3) := by decide +kernel
theorem dX5_buy_143 : decode cX5_buy 143 = .ok (.iload_n 1, 1) := by decide +kernel
theorem dX5_buy_144 : decode cX5_buy 144 = .ok (.iload_n 2, 1) := by decide +kernel
theorem dX5_buy_145 : decode cX5_buy 145 = .ok (.iload 7, 2) := by decide +kernel
theorem dX5_buy_147 : decode cX5_buy 147 = .ok (.iload 4, 2) := by decide +kernel
theorem dX5_buy_149 : decode cX5_buy 149 = .ok (.iload 8, 2) := by decide +kernel
theorem dX5_buy_151 : decode cX5_buy 151 = .ok (.invokevirtual 125, 3) := by decide +kernel
theorem dX5_buy_154 : decode cX5_buy 154 = .ok (.istore 9, 2) := by decide +kernel
theorem dX5_buy_156 : decode cX5_buy 156 = .ok (.aload_n 0, 1) := by decide +kernel
theorem dX5_buy_157 : decode cX5_buy 157 = .ok (.getfield 10, 3) := by decide +kernel
theorem dX5_buy_160 : decode cX5_buy 160 = .ok (.getfield 129, 3) := by decide +kernel
theorem dX5_buy_163 : decode cX5_buy 163 = .ok (.iload 9, 2) := by decide +kernel
theorem dX5_buy_165 : decode cX5_buy 165 = .ok (.aaload, 1) := by decide +kernel
theorem dX5_buy_166 : decode cX5_buy 166 = .ok (.astore 10, 2) := by decide +kernel
theorem dX5_buy_168 : decode cX5_buy 168 = .ok (.aload 10, 2) := by decide +kernel
theorem dX5_buy_170 : decode cX5_buy 170 = .ok (.iload 5, 2) := by decide +kernel
theorem dX5_buy_172 : decode cX5_buy 172 = .ok (.putfield 133, 3) := by decide +kernel
theorem dX5_buy_175 : decode cX5_buy 175 = .ok (.aload 10, 2) := by decide +kernel
theorem dX5_buy_177 : decode cX5_buy 177 = .ok (.iload 5, 2) := by decide +kernel
theorem dX5_buy_179 : decode cX5_buy 179 = .ok (.iconst 2, 1) := by decide +kernel
theorem dX5_buy_180 : decode cX5_buy 180 = .ok (.if_icmp .eq 9, 3) := by decide +kernel
theorem dX5_buy_183 : decode cX5_buy 183 = .ok (.iload 5, 2) := by decide +kernel
theorem dX5_buy_185 : decode cX5_buy 185 = .ok (.iconst 3, 1) := by decide +kernel
theorem dX5_buy_186 : decode cX5_buy 186 = .ok (.if_icmp .ne 16, 3) := by decide +kernel
theorem dX5_buy_189 : decode cX5_buy 189 = .ok (.aload_n 0, 1) := by decide +kernel
theorem dX5_buy_190 : decode cX5_buy 190 = .ok (.getfield 10, 3) := by decide +kernel
theorem dX5_buy_193 : decode cX5_buy 193 = .ok (.getfield 75, 3) := by decide +kernel
theorem dX5_buy_196 : decode cX5_buy 196 = .ok (.iload 6, 2) := by decide +kernel
theorem dX5_buy_198 : decode cX5_buy 198 = .ok (.iadd, 1) := by decide +kernel
theorem dX5_buy_199 : decode cX5_buy 199 = .ok (.goto 10, 3) := by decide +kernel
theorem dX5_buy_202 : decode cX5_buy 202 = .ok (.aload_n 0, 1) := by decide +kernel
theorem dX5_buy_203 : decode cX5_buy 203 = .ok (.getfield 10, 3) := by decide +kernel
theorem dX5_buy_206 : decode cX5_buy 206 = .ok (.getfield 75, 3) := by decide +kernel
theorem dX5_buy_209 : decode cX5_buy 209 = .ok (.putfield 138, 3) := by decide +kernel
theorem dX5_buy_212 : decode cX5_buy 212 = .ok (.iload 9, 2) := by decide +kernel
theorem dX5_buy_214 : decode cX5_buy 214 = .ok (.i2l, 1) := by decide +kernel
theorem dX5_buy_215 : decode cX5_buy 215 = .ok (.lreturn, 1) := by decide +kernel
theorem dX5_sell_0 : decode cX5_sell 0 = .ok (.aload_n 0, 1) := by decide +kernel
theorem dX5_sell_1 : decode cX5_sell 1 = .ok (.getfield 10, 3) := by decide +kernel
theorem dX5_sell_4 : decode cX5_sell 4 = .ok (.iload_n 1, 1) := by decide +kernel
theorem dX5_sell_5 : decode cX5_sell 5 = .ok (.invokevirtual 141, 3) := by decide +kernel
theorem dX5_sell_8 : decode cX5_sell 8 = .ok (.ifCond .eq 14, 3) := by decide +kernel
theorem dX5_sell_11 : decode cX5_sell 11 = .ok (.aload_n 0, 1) := by decide +kernel
theorem dX5_sell_12 : decode cX5_sell 12 = .ok (.getfield 10, 3) := by decide +kernel
theorem dX5_sell_15 : decode cX5_sell 15 = .ok (.iload_n 2, 1) := by decide +kernel
theorem dX5_sell_16 : decode cX5_sell 16 = .ok (.invokevirtual 85, 3) := by decide +kernel
theorem dX5_sell_19 : decode cX5_sell 19 = .ok (.ifCond .ne 7, 3) := by decide +kernel
theorem dX5_sell_22 : decode cX5_sell 22 = .ok (.ldc2_w 34, 3) := by decide +kernel
theorem dX5_sell_25 : decode cX5_sell 25 = .ok (.lreturn, 1) := by decide +kernel
theorem dX5_sell_26 : decode cX5_sell 26 = .ok (.aload_n 0, 1) := by decide +kernel
theorem dX5_sell_27 : decode cX5_sell 27 = .ok (.getfield 10, 3) := by decide +kernel
theorem dX5_sell_30 : decode cX5_sell 30 = .ok (.getfield 129, 3) := by decide +kernel
theorem dX5_sell_33 : decode cX5_sell 33 = .ok (.iload_n 1, 1) := by decide +kernel
theorem dX5_sell_34 : decode cX5_sell 34 = .ok (.aaload, 1) := by decide +kernel
theorem dX5_sell_35 : decode cX5_sell 35 = .ok (.getfield 144, 3) := by decide +kernel
theorem dX5_sell_38 : decode cX5_sell 38 = .ok (.istore_n 3, 1) := by decide +kernel
theorem dX5_sell_39 : decode cX5_sell 39 = .ok (.aload_n 0, 1) := by decide +kernel
theorem dX5_sell_40 : decode cX5_sell 40 = .ok (.getfield 10, 3) := by decide +kernel
theorem dX5_sell_43 : decode cX5_sell 43 = .ok (.getfield 129, 3) := by decide +kernel
theorem dX5_sell_46 : decode cX5_sell 46 = .ok (.iload_n 1, 1) := by decide +kernel
theorem dX5_sell_47 : decode cX5_sell 47 = .ok (.aaload, 1) := by decide +kernel
theorem dX5_sell_48 : decode cX5_sell 48 = .ok (.iload_n 2, 1) := by decide +kernel
theorem dX5_sell_49 : decode cX5_sell 49 = .ok (.putfield 144, 3) := by decide +kernel
theorem dX5_sell_52 : decode cX5_sell 52 = .ok (.iload_n 3, 1) := by decide +kernel
theorem dX5_sell_53 : decode cX5_sell 53 = .ok (.i2l, 1) := by decide +kernel
theorem dX5_sell_54 : decode cX5_sell 54 = .ok (.lreturn, 1) := by decide +kernel
theorem dX5_split_0 : decode cX5_split 0 = .ok (.aload_n 0, 1) := by decide +kernel
theorem dX5_split_1 : decode cX5_split 1 = .ok (.getfield 10, 3) := by decide +kernel
theorem dX5_split_4 : decode cX5_split 4 = .ok (.iload_n 1, 1) := by decide +kernel
theorem dX5_split_5 : decode cX5_split 5 = .ok (.invokevirtual 141, 3) := by decide +kernel
theorem dX5_split_8 : decode cX5_split 8 = .ok (.ifCond .eq 15, 3) := by decide +kernel
theorem dX5_split_11 : decode cX5_split 11 = .ok (.aload_n 0, 1) := by decide +kernel
theorem dX5_split_12 : decode cX5_split 12 = .ok (.getfield 10, 3) := by decide +kernel
theorem dX5_split_15 : decode cX5_split 15 = .ok (.getfield 122, 3) := by decide +kernel
theorem dX5_split_18 : decode cX5_split 18 = .ok (.bipush 40, 2) := by decide +kernel
theorem dX5_split_20 : decode cX5_split 20 = .ok (.if_icmp .lt 7, 3) := by decide +kernel
theorem dX5_split_23 : decode cX5_split 23 = .ok (.ldc2_w 34, 3) := by decide +kernel
theorem dX5_split_26 : decode cX5_split 26 = .ok (.lreturn, 1) := by decide +kernel
theorem dX5_split_27 : decode cX5_split 27 = .ok (.iload_n 2, 1) := by decide +kernel
theorem dX5_split_28 : decode cX5_split 28 = .ok (.iconst 1, 1) := by decide +kernel
theorem dX5_split_29 : decode cX5_split 29 = .ok (.aload_n 0, 1) := by decide +kernel
theorem dX5_split_30 : decode cX5_split 30 = .ok (.getfield 10, 3) := by decide +kernel
theorem dX5_split_33 : decode cX5_split 33 = .ok (.getfield 129, 3) := by decide +kernel
theorem dX5_split_36 : decode cX5_split 36 = .ok (.iload_n 1, 1) := by decide +kernel
theorem dX5_split_37 : decode cX5_split 37 = .ok (.aaload, 1) := by decide +kernel
theorem dX5_split_38 : decode cX5_split 38 = .ok (.getfield 147, 3) := by decide +kernel
theorem dX5_split_41 : decode cX5_split 41 = .ok (.iconst 1, 1) := by decide +kernel
theorem dX5_split_42 : decode cX5_split 42 = .ok (.isub, 1) := by decide +kernel
theorem dX5_split_43 : decode cX5_split 43 = .ok (.invokestatic 97, 3) := by decide +kernel
theorem dX5_split_46 : decode cX5_split 46 = .ok (.ifCond .ne 7, 3) := by decide +kernel
theorem dX5_split_49 : decode cX5_split 49 = .ok (.ldc2_w 34, 3) := by decide +kernel
theorem dX5_split_52 : decode cX5_split 52 = .ok (.lreturn, 1) := by decide +kernel
theorem dX5_split_53 : decode cX5_split 53 = .ok (.aload_n 0, 1) := by decide +kernel
theorem dX5_split_54 : decode cX5_split 54 = .ok (.getfield 10, 3) := by decide +kernel
theorem dX5_split_57 : decode cX5_split 57 = .ok (.aload_n 0, 1) := by decide +kernel
theorem dX5_split_58 : decode cX5_split 58 = .ok (.getfield 10, 3) := by decide +kernel
theorem dX5_split_61 : decode cX5_split 61 = .ok (.getfield 129, 3) := by decide +kernel
theorem dX5_split_64 : decode cX5_split 64 = .ok (.iload_n 1, 1) := by decide +kernel
theorem dX5_split_65 : decode cX5_split 65 = .ok (.aaload, 1) := by decide +kernel
theorem dX5_split_66 : decode cX5_split 66 = .ok (.iload_n 2, 1) := by decide +kernel
theorem dX5_split_67 : decode cX5_split 67 = .ok (.invokevirtual 150, 3) := by decide +kernel
theorem dX5_split_70 : decode cX5_split 70 = .ok (.i2l, 1) := by decide +kernel
theorem dX5_split_71 : decode cX5_split 71 = .ok (.lreturn, 1) := by decide +kernel
theorem dX5_pledge_0 : decode cX5_pledge 0 = .ok (.aload_n 0, 1) := by decide +kernel
theorem dX5_pledge_1 : decode cX5_pledge 1 = .ok (.getfield 10, 3) := by decide +kernel
theorem dX5_pledge_4 : decode cX5_pledge 4 = .ok (.iload_n 1, 1) := by decide +kernel
theorem dX5_pledge_5 : decode cX5_pledge 5 = .ok (.invokevirtual 141, 3) := by decide +kernel
theorem dX5_pledge_8 : decode cX5_pledge 8 = .ok (.ifCond .eq 24, 3) := by decide +kernel
theorem dX5_pledge_11 : decode cX5_pledge 11 = .ok (.aload_n 0, 1) := by decide +kernel
theorem dX5_pledge_12 : decode cX5_pledge 12 = .ok (.getfield 10, 3) := by decide +kernel
theorem dX5_pledge_15 : decode cX5_pledge 15 = .ok (.iload_n 2, 1) := by decide +kernel
theorem dX5_pledge_16 : decode cX5_pledge 16 = .ok (.invokevirtual 85, 3) := by decide +kernel
theorem dX5_pledge_19 : decode cX5_pledge 19 = .ok (.ifCond .eq 13, 3) := by decide +kernel
theorem dX5_pledge_22 : decode cX5_pledge 22 = .ok (.iload_n 3, 1) := by decide +kernel
theorem dX5_pledge_23 : decode cX5_pledge 23 = .ok (.iconst 0, 1) := by decide +kernel
theorem dX5_pledge_24 : decode cX5_pledge 24 = .ok (.ldc 154, 2) := by decide +kernel
theorem dX5_pledge_26 : decode cX5_pledge 26 = .ok (.invokestatic 97, 3) := by decide +kernel
theorem dX5_pledge_29 : decode cX5_pledge 29 = .ok (.ifCond .ne 7, 3) := by decide +kernel
theorem dX5_pledge_32 : decode cX5_pledge 32 = .ok (.ldc2_w 34, 3) := by decide +kernel
theorem dX5_pledge_35 : decode cX5_pledge 35 = .ok (.lreturn, 1) := by decide +kernel
theorem dX5_pledge_36 : decode cX5_pledge 36 = .ok (.aload_n 0, 1) := by decide +kernel
theorem dX5_pledge_37 : decode cX5_pledge 37 = .ok (.getfield 10, 3) := by decide +kernel
theorem dX5_pledge_40 : decode cX5_pledge 40 = .ok (.getfield 129, 3) := by decide +kernel
theorem dX5_pledge_43 : decode cX5_pledge 43 = .ok (.iload_n 1, 1) := by decide +kernel
theorem dX5_pledge_44 : decode cX5_pledge 44 = .ok (.aaload, 1) := by decide +kernel
theorem dX5_pledge_45 : decode cX5_pledge 45 = .ok (.astore 4, 2) := by decide +kernel
theorem dX5_pledge_47 : decode cX5_pledge 47 = .ok (.aload 4, 2) := by decide +kernel
theorem dX5_pledge_49 : decode cX5_pledge 49 = .ok (.getfield 155, 3) := by decide +kernel
theorem dX5_pledge_52 : decode cX5_pledge 52 = .ok (.lstore 5, 2) := by decide +kernel
theorem dX5_pledge_54 : decode cX5_pledge 54 = .ok (.aload 4, 2) := by decide +kernel
theorem dX5_pledge_56 : decode cX5_pledge 56 = .ok (.iload_n 3, 1) := by decide +kernel
theorem dX5_pledge_57 : decode cX5_pledge 57 = .ok (.i2l, 1) := by decide +kernel
theorem dX5_pledge_58 : decode cX5_pledge 58 = .ok (.putfield 155, 3) := by decide +kernel
theorem dX5_pledge_61 : decode cX5_pledge 61 = .ok (.aload 4, 2) := by decide +kernel
theorem dX5_pledge_63 : decode cX5_pledge 63 = .ok (.iload_n 2, 1) := by decide +kernel
theorem dX5_pledge_64 : decode cX5_pledge 64 = .ok (.putfield 159, 3) := by decide +kernel
theorem dX5_pledge_67 : decode cX5_pledge 67 = .ok (.lload 5, 2) := by decide +kernel
theorem dX5_pledge_69 : decode cX5_pledge 69 = .ok (.lreturn, 1) := by decide +kernel
theorem dX5_share_0 : decode cX5_share 0 = .ok (.aload_n 0, 1) := by decide +kernel
theorem dX5_share_1 : decode cX5_share 1 = .ok (.getfield 10, 3) := by decide +kernel
theorem dX5_share_4 : decode cX5_share 4 = .ok (.iload_n 1, 1) := by decide +kernel
theorem dX5_share_5 : decode cX5_share 5 = .ok (.invokevirtual 141, 3) := by decide +kernel
theorem dX5_share_8 : decode cX5_share 8 = .ok (.ifCond .ne 7, 3) := by decide +kernel
theorem dX5_share_11 : decode cX5_share 11 = .ok (.ldc2_w 34, 3) := by decide +kernel
theorem dX5_share_14 : decode cX5_share 14 = .ok (.lreturn, 1) := by decide +kernel
theorem dX5_share_15 : decode cX5_share 15 = .ok (.aload_n 0, 1) := by decide +kernel
theorem dX5_share_16 : decode cX5_share 16 = .ok (.getfield 10, 3) := by decide +kernel
theorem dX5_share_19 : decode cX5_share 19 = .ok (.getfield 129, 3) := by decide +kernel
theorem dX5_share_22 : decode cX5_share 22 = .ok (.iload_n 1, 1) := by decide +kernel
theorem dX5_share_23 : decode cX5_share 23 = .ok (.aaload, 1) := by decide +kernel
theorem dX5_share_24 : decode cX5_share 24 = .ok (.astore_n 3, 1) := by decide +kernel
theorem dX5_share_25 : decode cX5_share 25 = .ok (.iload_n 2, 1) := by decide +kernel
theorem dX5_share_26 : decode cX5_share 26 = .ok (.tableswitch 151 0 12 #[66, 72, 78, 84, 90, 96, 102, 107, 112, 124, 130, 136, 146], 66) := by decide +kernel
theorem dX5_share_92 : decode cX5_share 92 = .ok (.aload_n 3, 1) := by decide +kernel
theorem dX5_share_93 : decode cX5_share 93 = .ok (.getfield 144, 3) := by decide +kernel
theorem dX5_share_96 : decode cX5_share 96 = .ok (.i2l, 1) := by decide +kernel
theorem dX5_share_97 : decode cX5_share 97 = .ok (.lreturn, 1) := by decide +kernel
theorem dX5_share_98 : decode cX5_share 98 = .ok (.aload_n 3, 1) := by decide +kernel
theorem dX5_share_99 : decode cX5_share 99 = .ok (.getfield 162, 3) := by decide +kernel
theorem dX5_share_102 : decode cX5_share 102 = .ok (.i2l, 1) := by decide +kernel
theorem dX5_share_103 : decode cX5_share 103 = .ok (.lreturn, 1) := by decide +kernel
theorem dX5_share_104 : decode cX5_share 104 = .ok (.aload_n 3, 1) := by decide +kernel
theorem dX5_share_105 : decode cX5_share 105 = .ok (.getfield 165, 3) := by decide +kernel
theorem dX5_share_108 : decode cX5_share 108 = .ok (.i2l, 1) := by decide +kernel
theorem dX5_share_109 : decode cX5_share 109 = .ok (.lreturn, 1) := by decide +kernel
theorem dX5_share_110 : decode cX5_share 110 = .ok (.aload_n 3, 1) := by decide +kernel
theorem dX5_share_111 : decode cX5_share 111 = .ok (.getfield 147, 3) := by decide +kernel
theorem dX5_share_114 : decode cX5_share 114 = .ok (.i2l, 1) := by decide +kernel
theorem dX5_share_115 : decode cX5_share 115 = .ok (.lreturn, 1) := by decide +kernel
theorem dX5_share_116 : decode cX5_share 116 = .ok (.aload_n 3, 1) := by decide +kernel
theorem dX5_share_117 : decode cX5_share 117 = .ok (.getfield 168, 3) := by decide +kernel
theorem dX5_share_120 : decode cX5_share 120 = .ok (.i2l, 1) := by decide +kernel
theorem dX5_share_121 : decode cX5_share 121 = .ok (.lreturn, 1) := by decide +kernel
theorem dX5_share_122 : decode cX5_share 122 = .ok (.aload_n 3, 1) := by decide +kernel
theorem dX5_share_123 : decode cX5_share 123 = .ok (.getfield 133, 3) := by decide +kernel
theorem dX5_share_126 : decode cX5_share 126 = .ok (.i2l, 1) := by decide +kernel
theorem dX5_share_127 : decode cX5_share 127 = .ok (.lreturn, 1) := by decide +kernel
theorem dX5_share_128 : decode cX5_share 128 = .ok (.aload_n 3, 1) := by decide +kernel
theorem dX5_share_129 : decode cX5_share 129 = .ok (.getfield 171, 3) := by decide +kernel
theorem dX5_share_132 : decode cX5_share 132 = .ok (.lreturn, 1) := by decide +kernel
theorem dX5_share_133 : decode cX5_share 133 = .ok (.aload_n 3, 1) := by decide +kernel
theorem dX5_share_134 : decode cX5_share 134 = .ok (.getfield 174, 3) := by decide +kernel
theorem dX5_share_137 : decode cX5_share 137 = .ok (.lreturn, 1) := by decide +kernel
theorem dX5_share_138 : decode cX5_share 138 = .ok (.aload_n 3, 1) := by decide +kernel
theorem dX5_share_139 : decode cX5_share 139 = .ok (.aload_n 0, 1) := by decide +kernel
theorem dX5_share_140 : decode cX5_share 140 = .ok (.getfield 10, 3) := by decide +kernel
theorem dX5_share_143 : decode cX5_share 143 = .ok (.getfield 75, 3) := by decide +kernel
theorem dX5_share_146 : decode cX5_share 146 = .ok (.invokevirtual 177, 3) := by decide +kernel
theorem dX5_share_149 : decode cX5_share 149 = .ok (.lreturn, 1) := by decide +kernel
theorem dX5_share_150 : decode cX5_share 150 = .ok (.aload_n 3, 1) := by decide +kernel
theorem dX5_share_151 : decode cX5_share 151 = .ok (.getfield 180, 3) := by decide +kernel
theorem dX5_share_154 : decode cX5_share 154 = .ok (.i2l, 1) := by decide +kernel
theorem dX5_share_155 : decode cX5_share 155 = .ok (.lreturn, 1) := by decide +kernel
theorem dX5_share_156 : decode cX5_share 156 = .ok (.aload_n 3, 1) := by decide +kernel
theorem dX5_share_157 : decode cX5_share 157 = .ok (.getfield 183, 3) := by decide +kernel
theorem dX5_share_160 : decode cX5_share 160 = .ok (.i2l, 1) := by decide +kernel
theorem dX5_share_161 : decode cX5_share 161 = .ok (.lreturn, 1) := by decide +kernel
theorem dX5_share_162 : decode cX5_share 162 = .ok (.aload_n 0, 1) := by decide +kernel
theorem dX5_share_163 : decode cX5_share 163 = .ok (.getfield 10, 3) := by decide +kernel
theorem dX5_share_166 : decode cX5_share 166 = .ok (.aload_n 3, 1) := by decide +kernel
theorem dX5_share_167 : decode cX5_share 167 = .ok (.invokevirtual 186, 3) := by decide +kernel
theorem dX5_share_170 : decode cX5_share 170 = .ok (.i2l, 1) := by decide +kernel
theorem dX5_share_171 : decode cX5_share 171 = .ok (.lreturn, 1) := by decide +kernel
theorem dX5_share_172 : decode cX5_share 172 = .ok (.aload_n 3, 1) := by decide +kernel
theorem dX5_share_173 : decode cX5_share 173 = .ok (.getfield 155, 3) := by decide +kernel
theorem dX5_share_176 : decode cX5_share 176 = .ok (.lreturn, 1) := by decide +kernel
theorem dX5_share_177 : decode cX5_share 177 = .ok (.ldc2_w 34, 3) := by decide +kernel
theorem dX5_share_180 : decode cX5_share 180 = .ok (.lreturn, 1) := by decide +kernel
theorem dX5_drew_0 : decode cX5_drew 0 = .ok (.aload_n 0, 1) := by decide +kernel
theorem dX5_drew_1 : decode cX5_drew 1 = .ok (.getfield 10, 3) := by decide +kernel
theorem dX5_drew_4 : decode cX5_drew 4 = .ok (.iload_n 1, 1) := by decide +kernel
theorem dX5_drew_5 : decode cX5_drew 5 = .ok (.invokevirtual 141, 3) := by decide +kernel
theorem dX5_drew_8 : decode cX5_drew 8 = .ok (.ifCond .eq 20, 3) := by decide +kernel
theorem dX5_drew_11 : decode cX5_drew 11 = .ok (.iload_n 2, 1) := by decide +kernel
theorem dX5_drew_12 : decode cX5_drew 12 = .ok (.iconst 0, 1) := by decide +kernel
theorem dX5_drew_13 : decode cX5_drew 13 = .ok (.aload_n 0, 1) := by decide +kernel
theorem dX5_drew_14 : decode cX5_drew 14 = .ok (.getfield 10, 3) := by decide +kernel
theorem dX5_drew_17 : decode cX5_drew 17 = .ok (.getfield 75, 3) := by decide +kernel
theorem dX5_drew_20 : decode cX5_drew 20 = .ok (.iconst 1, 1) := by decide +kernel
theorem dX5_drew_21 : decode cX5_drew 21 = .ok (.isub, 1) := by decide +kernel
theorem dX5_drew_22 : decode cX5_drew 22 = .ok (.invokestatic 97, 3) := by decide +kernel
theorem dX5_drew_25 : decode cX5_drew 25 = .ok (.ifCond .ne 7, 3) := by decide +kernel
theorem dX5_drew_28 : decode cX5_drew 28 = .ok (.ldc2_w 34, 3) := by decide +kernel
theorem dX5_drew_31 : decode cX5_drew 31 = .ok (.lreturn, 1) := by decide +kernel
theorem dX5_drew_32 : decode cX5_drew 32 = .ok (.aload_n 0, 1) := by decide +kernel
theorem dX5_drew_33 : decode cX5_drew 33 = .ok (.getfield 10, 3) := by decide +kernel
theorem dX5_drew_36 : decode cX5_drew 36 = .ok (.getfield 129, 3) := by decide +kernel
theorem dX5_drew_39 : decode cX5_drew 39 = .ok (.iload_n 1, 1) := by decide +kernel
theorem dX5_drew_40 : decode cX5_drew 40 = .ok (.aaload, 1) := by decide +kernel
theorem dX5_drew_41 : decode cX5_drew 41 = .ok (.iload_n 2, 1) := by decide +kernel
theorem dX5_drew_42 : decode cX5_drew 42 = .ok (.iload_n 2, 1) := by decide +kernel
theorem dX5_drew_43 : decode cX5_drew 43 = .ok (.iconst 1, 1) := by decide +kernel
theorem dX5_drew_44 : decode cX5_drew 44 = .ok (.iadd, 1) := by decide +kernel
theorem dX5_drew_45 : decode cX5_drew 45 = .ok (.invokevirtual 190, 3) := by decide +kernel
theorem dX5_drew_48 : decode cX5_drew 48 = .ok (.lreturn, 1) := by decide +kernel
theorem dX5_proof_0 : decode cX5_proof 0 = .ok (.aload_n 0, 1) := by decide +kernel
theorem dX5_proof_1 : decode cX5_proof 1 = .ok (.getfield 10, 3) := by decide +kernel
theorem dX5_proof_4 : decode cX5_proof 4 = .ok (.iload_n 1, 1) := by decide +kernel
theorem dX5_proof_5 : decode cX5_proof 5 = .ok (.invokevirtual 85, 3) := by decide +kernel
theorem dX5_proof_8 : decode cX5_proof 8 = .ok (.ifCond .eq 33, 3) := by decide +kernel
theorem dX5_proof_11 : decode cX5_proof 11 = .ok (.aload_n 0, 1) := by decide +kernel
theorem dX5_proof_12 : decode cX5_proof 12 = .ok (.getfield 10, 3) := by decide +kernel
theorem dX5_proof_15 : decode cX5_proof 15 = .ok (.getfield 88, 3) := by decide +kernel
theorem dX5_proof_18 : decode cX5_proof 18 = .ok (.iload_n 1, 1) := by decide +kernel
theorem dX5_proof_19 : decode cX5_proof 19 = .ok (.aaload, 1) := by decide +kernel
theorem dX5_proof_20 : decode cX5_proof 20 = .ok (.getfield 193, 3) := by decide +kernel
theorem dX5_proof_23 : decode cX5_proof 23 = .ok (.ifCond .ne 18, 3) := by decide +kernel
theorem dX5_proof_26 : decode cX5_proof 26 = .ok (.aload_n 0, 1) := by decide +kernel
theorem dX5_proof_27 : decode cX5_proof 27 = .ok (.getfield 10, 3) := by decide +kernel
theorem dX5_proof_30 : decode cX5_proof 30 = .ok (.getfield 88, 3) := by decide +kernel
theorem dX5_proof_33 : decode cX5_proof 33 = .ok (.iload_n 1, 1) := by decide +kernel
theorem dX5_proof_34 : decode cX5_proof 34 = .ok (.aaload, 1) := by decide +kernel
theorem dX5_proof_35 : decode cX5_proof 35 = .ok (.getfield 197, 3) := by decide +kernel
theorem dX5_proof_38 : decode cX5_proof 38 = .ok (.ifCond .eq 7, 3) := by decide +kernel
theorem dX5_proof_41 : decode cX5_proof 41 = .ok (.ldc2_w 34, 3) := by decide +kernel
theorem dX5_proof_44 : decode cX5_proof 44 = .ok (.lreturn, 1) := by decide +kernel
theorem dX5_proof_45 : decode cX5_proof 45 = .ok (.aload_n 0, 1) := by decide +kernel
theorem dX5_proof_46 : decode cX5_proof 46 = .ok (.getfield 10, 3) := by decide +kernel
theorem dX5_proof_49 : decode cX5_proof 49 = .ok (.iload_n 1, 1) := by decide +kernel
theorem dX5_proof_50 : decode cX5_proof 50 = .ok (.invokevirtual 200, 3) := by decide +kernel
theorem dX5_proof_53 : decode cX5_proof 53 = .ok (.lreturn, 1) := by decide +kernel
theorem dX5_death_0 : decode cX5_death 0 = .ok (.aload_n 0, 1) := by decide +kernel
theorem dX5_death_1 : decode cX5_death 1 = .ok (.getfield 10, 3) := by decide +kernel
theorem dX5_death_4 : decode cX5_death 4 = .ok (.iload_n 1, 1) := by decide +kernel
theorem dX5_death_5 : decode cX5_death 5 = .ok (.invokevirtual 85, 3) := by decide +kernel
theorem dX5_death_8 : decode cX5_death 8 = .ok (.ifCond .eq 18, 3) := by decide +kernel
theorem dX5_death_11 : decode cX5_death 11 = .ok (.aload_n 0, 1) := by decide +kernel
theorem dX5_death_12 : decode cX5_death 12 = .ok (.getfield 10, 3) := by decide +kernel
theorem dX5_death_15 : decode cX5_death 15 = .ok (.getfield 88, 3) := by decide +kernel
theorem dX5_death_18 : decode cX5_death 18 = .ok (.iload_n 1, 1) := by decide +kernel
theorem dX5_death_19 : decode cX5_death 19 = .ok (.aaload, 1) := by decide +kernel
theorem dX5_death_20 : decode cX5_death 20 = .ok (.getfield 193, 3) := by decide +kernel
theorem dX5_death_23 : decode cX5_death 23 = .ok (.ifCond .eq 7, 3) := by decide +kernel
theorem dX5_death_26 : decode cX5_death 26 = .ok (.ldc2_w 34, 3) := by decide +kernel
theorem dX5_death_29 : decode cX5_death 29 = .ok (.lreturn, 1) := by decide +kernel
theorem dX5_death_30 : decode cX5_death 30 = .ok (.iload_n 2, 1) := by decide +kernel
theorem dX5_death_31 : decode cX5_death 31 = .ok (.aload_n 0, 1) := by decide +kernel
theorem dX5_death_32 : decode cX5_death 32 = .ok (.getfield 10, 3) := by decide +kernel
theorem dX5_death_35 : decode cX5_death 35 = .ok (.getfield 88, 3) := by decide +kernel
theorem dX5_death_38 : decode cX5_death 38 = .ok (.iload_n 1, 1) := by decide +kernel
theorem dX5_death_39 : decode cX5_death 39 = .ok (.aaload, 1) := by decide +kernel
theorem dX5_death_40 : decode cX5_death 40 = .ok (.getfield 203, 3) := by decide +kernel
theorem dX5_death_43 : decode cX5_death 43 = .ok (.aload_n 0, 1) := by decide +kernel
theorem dX5_death_44 : decode cX5_death 44 = .ok (.getfield 10, 3) := by decide +kernel
theorem dX5_death_47 : decode cX5_death 47 = .ok (.getfield 75, 3) := by decide +kernel
theorem dX5_death_50 : decode cX5_death 50 = .ok (.invokestatic 97, 3) := by decide +kernel
theorem dX5_death_53 : decode cX5_death 53 = .ok (.ifCond .ne 7, 3) := by decide +kernel
theorem dX5_death_56 : decode cX5_death 56 = .ok (.ldc2_w 34, 3) := by decide +kernel
theorem dX5_death_59 : decode cX5_death 59 = .ok (.lreturn, 1) := by decide +kernel
theorem dX5_death_60 : decode cX5_death 60 = .ok (.aload_n 0, 1) := by decide +kernel
theorem dX5_death_61 : decode cX5_death 61 = .ok (.getfield 10, 3) := by decide +kernel
theorem dX5_death_64 : decode cX5_death 64 = .ok (.iload_n 1, 1) := by decide +kernel
theorem dX5_death_65 : decode cX5_death 65 = .ok (.iload_n 2, 1) := by decide +kernel
theorem dX5_death_66 : decode cX5_death 66 = .ok (.invokevirtual 206, 3) := by decide +kernel
theorem dX5_death_69 : decode cX5_death 69 = .ok (.lreturn, 1) := by decide +kernel
theorem dX5_close_0 : decode cX5_close 0 = .ok (.iload_n 1, 1) := by decide +kernel
theorem dX5_close_1 : decode cX5_close 1 = .ok (.iconst 0, 1) := by decide +kernel
theorem dX5_close_2 : decode cX5_close 2 = .ok (.ldc 209, 2) := by decide +kernel
theorem dX5_close_4 : decode cX5_close 4 = .ok (.invokestatic 97, 3) := by decide +kernel
theorem dX5_close_7 : decode cX5_close 7 = .ok (.ifCond .eq 15, 3) := by decide +kernel
theorem dX5_close_10 : decode cX5_close 10 = .ok (.aload_n 0, 1) := by decide +kernel
theorem dX5_close_11 : decode cX5_close 11 = .ok (.getfield 10, 3) := by decide +kernel
theorem dX5_close_14 : decode cX5_close 14 = .ok (.getfield 75, 3) := by decide +kernel
theorem dX5_close_17 : decode cX5_close 17 = .ok (.bipush 60, 2) := by decide +kernel
theorem dX5_close_19 : decode cX5_close 19 = .ok (.if_icmp .lt 7, 3) := by decide +kernel
theorem dX5_close_22 : decode cX5_close 22 = .ok (.ldc2_w 34, 3) := by decide +kernel
theorem dX5_close_25 : decode cX5_close 25 = .ok (.lreturn, 1) := by decide +kernel
theorem dX5_close_26 : decode cX5_close 26 = .ok (.aload_n 0, 1) := by decide +kernel
theorem dX5_close_27 : decode cX5_close 27 = .ok (.getfield 10, 3) := by decide +kernel
theorem dX5_close_30 : decode cX5_close 30 = .ok (.iload_n 1, 1) := by decide +kernel
theorem dX5_close_31 : decode cX5_close 31 = .ok (.invokevirtual 210, 3) := by decide +kernel
theorem dX5_close_34 : decode cX5_close 34 = .ok (.aload_n 0, 1) := by decide +kernel
theorem dX5_close_35 : decode cX5_close 35 = .ok (.getfield 10, 3) := by decide +kernel
theorem dX5_close_38 : decode cX5_close 38 = .ok (.invokevirtual 214, 3) := by decide +kernel
theorem dX5_close_41 : decode cX5_close 41 = .ok (.lstore_n 2, 1) := by decide +kernel
theorem dX5_close_42 : decode cX5_close 42 = .ok (.aload_n 0, 1) := by decide +kernel
theorem dX5_close_43 : decode cX5_close 43 = .ok (.getfield 10, 3) := by decide +kernel
theorem dX5_close_46 : decode cX5_close 46 = .ok (.invokevirtual 218, 3) := by decide +kernel
theorem dX5_close_49 : decode cX5_close 49 = .ok (.aload_n 0, 1) := by decide +kernel
theorem dX5_close_50 : decode cX5_close 50 = .ok (.getfield 10, 3) := by decide +kernel
theorem dX5_close_53 : decode cX5_close 53 = .ok (.invokevirtual 221, 3) := by decide +kernel
theorem dX5_close_56 : decode cX5_close 56 = .ok (.lload_n 2, 1) := by decide +kernel
theorem dX5_close_57 : decode cX5_close 57 = .ok (.lreturn, 1) := by decide +kernel
theorem dX5_of_0 : decode cX5_of 0 = .ok (.aload_n 0, 1) := by decide +kernel
theorem dX5_of_1 : decode cX5_of 1 = .ok (.getfield 10, 3) := by decide +kernel
theorem dX5_of_4 : decode cX5_of 4 = .ok (.iload_n 1, 1) := by decide +kernel
theorem dX5_of_5 : decode cX5_of 5 = .ok (.invokevirtual 85, 3) := by decide +kernel
theorem dX5_of_8 : decode cX5_of 8 = .ok (.ifCond .ne 7, 3) := by decide +kernel
theorem dX5_of_11 : decode cX5_of 11 = .ok (.ldc2_w 34, 3) := by decide +kernel
theorem dX5_of_14 : decode cX5_of 14 = .ok (.lreturn, 1) := by decide +kernel
theorem dX5_of_15 : decode cX5_of 15 = .ok (.aload_n 0, 1) := by decide +kernel
theorem dX5_of_16 : decode cX5_of 16 = .ok (.getfield 10, 3) := by decide +kernel
theorem dX5_of_19 : decode cX5_of 19 = .ok (.getfield 88, 3) := by decide +kernel
theorem dX5_of_22 : decode cX5_of 22 = .ok (.iload_n 1, 1) := by decide +kernel
theorem dX5_of_23 : decode cX5_of 23 = .ok (.aaload, 1) := by decide +kernel
theorem dX5_of_24 : decode cX5_of 24 = .ok (.astore_n 3, 1) := by decide +kernel
theorem dX5_of_25 : decode cX5_of 25 = .ok (.iload_n 2, 1) := by decide +kernel
theorem dX5_of_26 : decode cX5_of 26 = .ok (.tableswitch 92 0 5 #[38, 43, 48, 54, 67, 86], 38) := by decide +kernel
theorem dX5_of_64 : decode cX5_of 64 = .ok (.aload_n 3, 1) := by decide +kernel
theorem dX5_of_65 : decode cX5_of 65 = .ok (.getfield 224, 3) := by decide +kernel
theorem dX5_of_68 : decode cX5_of 68 = .ok (.lreturn, 1) := by decide +kernel
theorem dX5_of_69 : decode cX5_of 69 = .ok (.aload_n 3, 1) := by decide +kernel
theorem dX5_of_70 : decode cX5_of 70 = .ok (.getfield 227, 3) := by decide +kernel
theorem dX5_of_73 : decode cX5_of 73 = .ok (.lreturn, 1) := by decide +kernel
theorem dX5_of_74 : decode cX5_of 74 = .ok (.aload_n 3, 1) := by decide +kernel
theorem dX5_of_75 : decode cX5_of 75 = .ok (.getfield 203, 3) := by decide +kernel
theorem dX5_of_78 : decode cX5_of 78 = .ok (.i2l, 1) := by decide +kernel
theorem dX5_of_79 : decode cX5_of 79 = .ok (.lreturn, 1) := by decide +kernel
theorem dX5_of_80 : decode cX5_of 80 = .ok (.aload_n 3, 1) := by decide +kernel
theorem dX5_of_81 : decode cX5_of 81 = .ok (.getfield 197, 3) := by decide +kernel
theorem dX5_of_84 : decode cX5_of 84 = .ok (.ifCond .eq 7, 3) := by decide +kernel
theorem dX5_of_87 : decode cX5_of 87 = .ok (.lconst 1, 1) := by decide +kernel
theorem dX5_of_88 : decode cX5_of 88 = .ok (.goto 4, 3) := by decide +kernel
theorem dX5_of_91 : decode cX5_of 91 = .ok (.lconst 0, 1) := by decide +kernel
theorem dX5_of_92 : decode cX5_of 92 = .ok (.lreturn, 1) := by decide +kernel
theorem dX5_of_93 : decode cX5_of 93 = .ok (.aload_n 3, 1) := by decide +kernel
theorem dX5_of_94 : decode cX5_of 94 = .ok (.getfield 193, 3) := by decide +kernel
theorem dX5_of_97 : decode cX5_of 97 = .ok (.ifCond .eq 11, 3) := by decide +kernel
theorem dX5_of_100 : decode cX5_of 100 = .ok (.aload_n 3, 1) := by decide +kernel
theorem dX5_of_101 : decode cX5_of 101 = .ok (.getfield 230, 3) := by decide +kernel
theorem dX5_of_104 : decode cX5_of 104 = .ok (.i2l, 1) := by decide +kernel
theorem dX5_of_105 : decode cX5_of 105 = .ok (.goto 6, 3) := by decide +kernel
theorem dX5_of_108 : decode cX5_of 108 = .ok (.ldc2_w 34, 3) := by decide +kernel
theorem dX5_of_111 : decode cX5_of 111 = .ok (.lreturn, 1) := by decide +kernel
theorem dX5_of_112 : decode cX5_of 112 = .ok (.aload_n 3, 1) := by decide +kernel
theorem dX5_of_113 : decode cX5_of 113 = .ok (.getfield 92, 3) := by decide +kernel
theorem dX5_of_116 : decode cX5_of 116 = .ok (.i2l, 1) := by decide +kernel
theorem dX5_of_117 : decode cX5_of 117 = .ok (.lreturn, 1) := by decide +kernel
theorem dX5_of_118 : decode cX5_of 118 = .ok (.ldc2_w 34, 3) := by decide +kernel
theorem dX5_of_121 : decode cX5_of 121 = .ok (.lreturn, 1) := by decide +kernel
theorem dX5_about_0 : decode cX5_about 0 = .ok (.aload_n 0, 1) := by decide +kernel
theorem dX5_about_1 : decode cX5_about 1 = .ok (.getfield 10, 3) := by decide +kernel
theorem dX5_about_4 : decode cX5_about 4 = .ok (.iload_n 1, 1) := by decide +kernel
theorem dX5_about_5 : decode cX5_about 5 = .ok (.invokevirtual 55, 3) := by decide +kernel
theorem dX5_about_8 : decode cX5_about 8 = .ok (.ifCond .ne 7, 3) := by decide +kernel
theorem dX5_about_11 : decode cX5_about 11 = .ok (.ldc2_w 34, 3) := by decide +kernel
theorem dX5_about_14 : decode cX5_about 14 = .ok (.lreturn, 1) := by decide +kernel
theorem dX5_about_15 : decode cX5_about 15 = .ok (.aload_n 0, 1) := by decide +kernel
theorem dX5_about_16 : decode cX5_about 16 = .ok (.getfield 10, 3) := by decide +kernel
theorem dX5_about_19 : decode cX5_about 19 = .ok (.getfield 58, 3) := by decide +kernel
theorem dX5_about_22 : decode cX5_about 22 = .ok (.iload_n 1, 1) := by decide +kernel
theorem dX5_about_23 : decode cX5_about 23 = .ok (.aaload, 1) := by decide +kernel
theorem dX5_about_24 : decode cX5_about 24 = .ok (.astore_n 3, 1) := by decide +kernel
theorem dX5_about_25 : decode cX5_about 25 = .ok (.iload_n 2, 1) := by decide +kernel
theorem dX5_about_26 : decode cX5_about 26 = .ok (.tableswitch 79 0 5 #[38, 44, 50, 56, 61, 70], 38) := by decide +kernel
theorem dX5_about_64 : decode cX5_about 64 = .ok (.aload_n 3, 1) := by decide +kernel
theorem dX5_about_65 : decode cX5_about 65 = .ok (.getfield 62, 3) := by decide +kernel
theorem dX5_about_68 : decode cX5_about 68 = .ok (.i2l, 1) := by decide +kernel
theorem dX5_about_69 : decode cX5_about 69 = .ok (.lreturn, 1) := by decide +kernel
theorem dX5_about_70 : decode cX5_about 70 = .ok (.aload_n 3, 1) := by decide +kernel
theorem dX5_about_71 : decode cX5_about 71 = .ok (.getfield 233, 3) := by decide +kernel
theorem dX5_about_74 : decode cX5_about 74 = .ok (.i2l, 1) := by decide +kernel
theorem dX5_about_75 : decode cX5_about 75 = .ok (.lreturn, 1) := by decide +kernel
theorem dX5_about_76 : decode cX5_about 76 = .ok (.aload_n 3, 1) := by decide +kernel
theorem dX5_about_77 : decode cX5_about 77 = .ok (.getfield 72, 3) := by decide +kernel
theorem dX5_about_80 : decode cX5_about 80 = .ok (.i2l, 1) := by decide +kernel
theorem dX5_about_81 : decode cX5_about 81 = .ok (.lreturn, 1) := by decide +kernel
theorem dX5_about_82 : decode cX5_about 82 = .ok (.aload_n 3, 1) := by decide +kernel
theorem dX5_about_83 : decode cX5_about 83 = .ok (.getfield 236, 3) := by decide +kernel
theorem dX5_about_86 : decode cX5_about 86 = .ok (.lreturn, 1) := by decide +kernel
theorem dX5_about_87 : decode cX5_about 87 = .ok (.aload_n 0, 1) := by decide +kernel
theorem dX5_about_88 : decode cX5_about 88 = .ok (.getfield 10, 3) := by decide +kernel
theorem dX5_about_91 : decode cX5_about 91 = .ok (.iload_n 1, 1) := by decide +kernel
theorem dX5_about_92 : decode cX5_about 92 = .ok (.invokevirtual 239, 3) := by decide +kernel
theorem dX5_about_95 : decode cX5_about 95 = .ok (.lreturn, 1) := by decide +kernel
theorem dX5_about_96 : decode cX5_about 96 = .ok (.aload_n 0, 1) := by decide +kernel
theorem dX5_about_97 : decode cX5_about 97 = .ok (.getfield 10, 3) := by decide +kernel
theorem dX5_about_100 : decode cX5_about 100 = .ok (.iload_n 1, 1) := by decide +kernel
theorem dX5_about_101 : decode cX5_about 101 = .ok (.invokevirtual 242, 3) := by decide +kernel
theorem dX5_about_104 : decode cX5_about 104 = .ok (.lreturn, 1) := by decide +kernel
theorem dX5_about_105 : decode cX5_about 105 = .ok (.ldc2_w 34, 3) := by decide +kernel
theorem dX5_about_108 : decode cX5_about 108 = .ok (.lreturn, 1) := by decide +kernel
theorem dX5_told_0 : decode cX5_told 0 = .ok (.iload_n 1, 1) := by decide +kernel
theorem dX5_told_1 : decode cX5_told 1 = .ok (.tableswitch 151 0 10 #[59, 68, 76, 84, 92, 100, 108, 116, 124, 133, 142], 59) := by decide +kernel
theorem dX5_told_60 : decode cX5_told 60 = .ok (.aload_n 0, 1) := by decide +kernel
theorem dX5_told_61 : decode cX5_told 61 = .ok (.getfield 10, 3) := by decide +kernel
theorem dX5_told_64 : decode cX5_told 64 = .ok (.getfield 75, 3) := by decide +kernel
theorem dX5_told_67 : decode cX5_told 67 = .ok (.i2l, 1) := by decide +kernel
theorem dX5_told_68 : decode cX5_told 68 = .ok (.lreturn, 1) := by decide +kernel
theorem dX5_told_69 : decode cX5_told 69 = .ok (.aload_n 0, 1) := by decide +kernel
theorem dX5_told_70 : decode cX5_told 70 = .ok (.getfield 10, 3) := by decide +kernel
theorem dX5_told_73 : decode cX5_told 73 = .ok (.getfield 245, 3) := by decide +kernel
theorem dX5_told_76 : decode cX5_told 76 = .ok (.lreturn, 1) := by decide +kernel
theorem dX5_told_77 : decode cX5_told 77 = .ok (.aload_n 0, 1) := by decide +kernel
theorem dX5_told_78 : decode cX5_told 78 = .ok (.getfield 10, 3) := by decide +kernel
theorem dX5_told_81 : decode cX5_told 81 = .ok (.getfield 248, 3) := by decide +kernel
theorem dX5_told_84 : decode cX5_told 84 = .ok (.lreturn, 1) := by decide +kernel
theorem dX5_told_85 : decode cX5_told 85 = .ok (.aload_n 0, 1) := by decide +kernel
theorem dX5_told_86 : decode cX5_told 86 = .ok (.getfield 10, 3) := by decide +kernel
theorem dX5_told_89 : decode cX5_told 89 = .ok (.invokevirtual 251, 3) := by decide +kernel
theorem dX5_told_92 : decode cX5_told 92 = .ok (.lreturn, 1) := by decide +kernel
theorem dX5_told_93 : decode cX5_told 93 = .ok (.aload_n 0, 1) := by decide +kernel
theorem dX5_told_94 : decode cX5_told 94 = .ok (.getfield 10, 3) := by decide +kernel
theorem dX5_told_97 : decode cX5_told 97 = .ok (.invokevirtual 254, 3) := by decide +kernel
theorem dX5_told_100 : decode cX5_told 100 = .ok (.lreturn, 1) := by decide +kernel
theorem dX5_told_101 : decode cX5_told 101 = .ok (.aload_n 0, 1) := by decide +kernel
theorem dX5_told_102 : decode cX5_told 102 = .ok (.getfield 10, 3) := by decide +kernel
theorem dX5_told_105 : decode cX5_told 105 = .ok (.invokevirtual 257, 3) := by decide +kernel
theorem dX5_told_108 : decode cX5_told 108 = .ok (.lreturn, 1) := by decide +kernel
theorem dX5_told_109 : decode cX5_told 109 = .ok (.aload_n 0, 1) := by decide +kernel
theorem dX5_told_110 : decode cX5_told 110 = .ok (.getfield 10, 3) := by decide +kernel
theorem dX5_told_113 : decode cX5_told 113 = .ok (.invokevirtual 260, 3) := by decide +kernel
theorem dX5_told_116 : decode cX5_told 116 = .ok (.lreturn, 1) := by decide +kernel
theorem dX5_told_117 : decode cX5_told 117 = .ok (.aload_n 0, 1) := by decide +kernel
theorem dX5_told_118 : decode cX5_told 118 = .ok (.getfield 10, 3) := by decide +kernel
theorem dX5_told_121 : decode cX5_told 121 = .ok (.getfield 263, 3) := by decide +kernel
theorem dX5_told_124 : decode cX5_told 124 = .ok (.lreturn, 1) := by decide +kernel
theorem dX5_told_125 : decode cX5_told 125 = .ok (.aload_n 0, 1) := by decide +kernel
theorem dX5_told_126 : decode cX5_told 126 = .ok (.getfield 10, 3) := by decide +kernel
theorem dX5_told_129 : decode cX5_told 129 = .ok (.getfield 78, 3) := by decide +kernel
theorem dX5_told_132 : decode cX5_told 132 = .ok (.i2l, 1) := by decide +kernel
theorem dX5_told_133 : decode cX5_told 133 = .ok (.lreturn, 1) := by decide +kernel
theorem dX5_told_134 : decode cX5_told 134 = .ok (.aload_n 0, 1) := by decide +kernel
theorem dX5_told_135 : decode cX5_told 135 = .ok (.getfield 10, 3) := by decide +kernel
theorem dX5_told_138 : decode cX5_told 138 = .ok (.getfield 101, 3) := by decide +kernel
theorem dX5_told_141 : decode cX5_told 141 = .ok (.i2l, 1) := by decide +kernel
theorem dX5_told_142 : decode cX5_told 142 = .ok (.lreturn, 1) := by decide +kernel
theorem dX5_told_143 : decode cX5_told 143 = .ok (.aload_n 0, 1) := by decide +kernel
theorem dX5_told_144 : decode cX5_told 144 = .ok (.getfield 10, 3) := by decide +kernel
theorem dX5_told_147 : decode cX5_told 147 = .ok (.getfield 122, 3) := by decide +kernel
theorem dX5_told_150 : decode cX5_told 150 = .ok (.i2l, 1) := by decide +kernel
theorem dX5_told_151 : decode cX5_told 151 = .ok (.lreturn, 1) := by decide +kernel
theorem dX5_told_152 : decode cX5_told 152 = .ok (.ldc2_w 34, 3) := by decide +kernel
theorem dX5_told_155 : decode cX5_told 155 = .ok (.lreturn, 1) := by decide +kernel
theorem dX5_keep_0 : decode cX5_keep 0 = .ok (.aload_n 0, 1) := by decide +kernel
theorem dX5_keep_1 : decode cX5_keep 1 = .ok (.getfield 16, 3) := by decide +kernel
theorem dX5_keep_4 : decode cX5_keep 4 = .ok (.ifnonnull 14, 3) := by decide +kernel
theorem dX5_keep_7 : decode cX5_keep 7 = .ok (.aload_n 0, 1) := by decide +kernel
theorem dX5_keep_8 : decode cX5_keep 8 = .ok (.new 7, 3) := by decide +kernel
theorem dX5_keep_11 : decode cX5_keep 11 = .ok (.dup, 1) := by decide +kernel
theorem dX5_keep_12 : decode cX5_keep 12 = .ok (.invokespecial 9, 3) := by decide +kernel
theorem dX5_keep_15 : decode cX5_keep 15 = .ok (.putfield 16, 3) := by decide +kernel
theorem dX5_keep_18 : decode cX5_keep 18 = .ok (.aload_n 0, 1) := by decide +kernel
theorem dX5_keep_19 : decode cX5_keep 19 = .ok (.getfield 16, 3) := by decide +kernel
theorem dX5_keep_22 : decode cX5_keep 22 = .ok (.aload_n 0, 1) := by decide +kernel
theorem dX5_keep_23 : decode cX5_keep 23 = .ok (.getfield 10, 3) := by decide +kernel
theorem dX5_keep_26 : decode cX5_keep 26 = .ok (.invokevirtual 266, 3) := by decide +kernel
theorem dX5_keep_29 : decode cX5_keep 29 = .ok (.lconst 1, 1) := by decide +kernel
theorem dX5_keep_30 : decode cX5_keep 30 = .ok (.lreturn, 1) := by decide +kernel
theorem dX5_back_0 : decode cX5_back 0 = .ok (.aload_n 0, 1) := by decide +kernel
theorem dX5_back_1 : decode cX5_back 1 = .ok (.getfield 16, 3) := by decide +kernel
theorem dX5_back_4 : decode cX5_back 4 = .ok (.ifnonnull 7, 3) := by decide +kernel
theorem dX5_back_7 : decode cX5_back 7 = .ok (.ldc2_w 34, 3) := by decide +kernel
theorem dX5_back_10 : decode cX5_back 10 = .ok (.lreturn, 1) := by decide +kernel
theorem dX5_back_11 : decode cX5_back 11 = .ok (.aload_n 0, 1) := by decide +kernel
theorem dX5_back_12 : decode cX5_back 12 = .ok (.getfield 10, 3) := by decide +kernel
theorem dX5_back_15 : decode cX5_back 15 = .ok (.aload_n 0, 1) := by decide +kernel
theorem dX5_back_16 : decode cX5_back 16 = .ok (.getfield 16, 3) := by decide +kernel
theorem dX5_back_19 : decode cX5_back 19 = .ok (.invokevirtual 266, 3) := by decide +kernel
theorem dX5_back_22 : decode cX5_back 22 = .ok (.lconst 1, 1) := by decide +kernel
theorem dX5_back_23 : decode cX5_back 23 = .ok (.lreturn, 1) := by decide +kernel
theorem dX5_isWithin_0 : decode cX5_isWithin 0 = .ok (.iload_n 0, 1) := by decide +kernel
theorem dX5_isWithin_1 : decode cX5_isWithin 1 = .ok (.iload_n 1, 1) := by decide +kernel
theorem dX5_isWithin_2 : decode cX5_isWithin 2 = .ok (.if_icmp .lt 12, 3) := by decide +kernel
theorem dX5_isWithin_5 : decode cX5_isWithin 5 = .ok (.iload_n 0, 1) := by decide +kernel
theorem dX5_isWithin_6 : decode cX5_isWithin 6 = .ok (.iload_n 2, 1) := by decide +kernel
theorem dX5_isWithin_7 : decode cX5_isWithin 7 = .ok (.if_icmp .gt 7, 3) := by decide +kernel
theorem dX5_isWithin_10 : decode cX5_isWithin 10 = .ok (.iconst 1, 1) := by decide +kernel
theorem dX5_isWithin_11 : decode cX5_isWithin 11 = .ok (.goto 4, 3) := by decide +kernel
theorem dX5_isWithin_14 : decode cX5_isWithin 14 = .ok (.iconst 0, 1) := by decide +kernel
theorem dX5_isWithin_15 : decode cX5_isWithin 15 = .ok (.ireturn, 1) := by decide +kernel
theorem dX5_isAge_0 : decode cX5_isAge 0 = .ok (.iload_n 0, 1) := by decide +kernel
theorem dX5_isAge_1 : decode cX5_isAge 1 = .ok (.iconst 0, 1) := by decide +kernel
theorem dX5_isAge_2 : decode cX5_isAge 2 = .ok (.bipush 110, 2) := by decide +kernel
theorem dX5_isAge_4 : decode cX5_isAge 4 = .ok (.invokestatic 97, 3) := by decide +kernel
theorem dX5_isAge_7 : decode cX5_isAge 7 = .ok (.ireturn, 1) := by decide +kernel
theorem dX5_sign_0 : decode cX5_sign 0 = .ok (.lload_n 0, 1) := by decide +kernel
theorem dX5_sign_1 : decode cX5_sign 1 = .ok (.lload_n 2, 1) := by decide +kernel
theorem dX5_sign_2 : decode cX5_sign 2 = .ok (.lcmp, 1) := by decide +kernel
theorem dX5_sign_3 : decode cX5_sign 3 = .ok (.ifCond .le 7, 3) := by decide +kernel
theorem dX5_sign_6 : decode cX5_sign 6 = .ok (.lconst 1, 1) := by decide +kernel
theorem dX5_sign_7 : decode cX5_sign 7 = .ok (.goto 16, 3) := by decide +kernel
theorem dX5_sign_10 : decode cX5_sign 10 = .ok (.lload_n 0, 1) := by decide +kernel
theorem dX5_sign_11 : decode cX5_sign 11 = .ok (.lload_n 2, 1) := by decide +kernel
theorem dX5_sign_12 : decode cX5_sign 12 = .ok (.lcmp, 1) := by decide +kernel
theorem dX5_sign_13 : decode cX5_sign 13 = .ok (.ifCond .ge 9, 3) := by decide +kernel
theorem dX5_sign_16 : decode cX5_sign 16 = .ok (.ldc2_w 270, 3) := by decide +kernel
theorem dX5_sign_19 : decode cX5_sign 19 = .ok (.goto 4, 3) := by decide +kernel
theorem dX5_sign_22 : decode cX5_sign 22 = .ok (.lconst 0, 1) := by decide +kernel
theorem dX5_sign_23 : decode cX5_sign 23 = .ok (.lreturn, 1) := by decide +kernel
theorem dX5_parted_0 : decode cX5_parted 0 = .ok (.lload 4, 2) := by decide +kernel
theorem dX5_parted_2 : decode cX5_parted 2 = .ok (.lconst 0, 1) := by decide +kernel
theorem dX5_parted_3 : decode cX5_parted 3 = .ok (.lcmp, 1) := by decide +kernel
theorem dX5_parted_4 : decode cX5_parted 4 = .ok (.ifCond .le 12, 3) := by decide +kernel
theorem dX5_parted_7 : decode cX5_parted 7 = .ok (.lload_n 0, 1) := by decide +kernel
theorem dX5_parted_8 : decode cX5_parted 8 = .ok (.lload_n 2, 1) := by decide +kernel
theorem dX5_parted_9 : decode cX5_parted 9 = .ok (.lmul, 1) := by decide +kernel
theorem dX5_parted_10 : decode cX5_parted 10 = .ok (.lload 4, 2) := by decide +kernel
theorem dX5_parted_12 : decode cX5_parted 12 = .ok (.ldiv, 1) := by decide +kernel
theorem dX5_parted_13 : decode cX5_parted 13 = .ok (.goto 4, 3) := by decide +kernel
theorem dX5_parted_16 : decode cX5_parted 16 = .ok (.lconst 0, 1) := by decide +kernel
theorem dX5_parted_17 : decode cX5_parted 17 = .ok (.lreturn, 1) := by decide +kernel
theorem dX6_init_0 : decode cX6_init 0 = .ok (.aload_n 0, 1) := by decide +kernel
theorem dX6_init_1 : decode cX6_init 1 = .ok (.invokespecial 1, 3) := by decide +kernel
theorem dX6_init_4 : decode cX6_init 4 = .ok (.aload_n 0, 1) := by decide +kernel
theorem dX6_init_5 : decode cX6_init 5 = .ok (.sipush 5672, 3) := by decide +kernel
theorem dX6_init_8 : decode cX6_init 8 = .ok (.newarray .long, 2) := by decide +kernel
theorem dX6_init_10 : decode cX6_init 10 = .ok (.putfield 7, 3) := by decide +kernel
theorem dX6_init_13 : decode cX6_init 13 = .ok (.aload_n 0, 1) := by decide +kernel
theorem dX6_init_14 : decode cX6_init 14 = .ok (.sipush 5672, 3) := by decide +kernel
theorem dX6_init_17 : decode cX6_init 17 = .ok (.newarray .long, 2) := by decide +kernel
theorem dX6_init_19 : decode cX6_init 19 = .ok (.putfield 13, 3) := by decide +kernel
theorem dX6_init_22 : decode cX6_init 22 = .ok (.aload_n 0, 1) := by decide +kernel
theorem dX6_init_23 : decode cX6_init 23 = .ok (.bipush 7, 2) := by decide +kernel
theorem dX6_init_25 : decode cX6_init 25 = .ok (.newarray .long, 2) := by decide +kernel
theorem dX6_init_27 : decode cX6_init 27 = .ok (.putfield 16, 3) := by decide +kernel
theorem dX6_init_30 : decode cX6_init 30 = .ok (.aload_n 0, 1) := by decide +kernel
theorem dX6_init_31 : decode cX6_init 31 = .ok (.bipush 6, 2) := by decide +kernel
theorem dX6_init_33 : decode cX6_init 33 = .ok (.newarray .long, 2) := by decide +kernel
theorem dX6_init_35 : decode cX6_init 35 = .ok (.putfield 19, 3) := by decide +kernel
theorem dX6_init_38 : decode cX6_init 38 = .ok (.aload_n 0, 1) := by decide +kernel
theorem dX6_init_39 : decode cX6_init 39 = .ok (.bipush 40, 2) := by decide +kernel
theorem dX6_init_41 : decode cX6_init 41 = .ok (.newarray .long, 2) := by decide +kernel
theorem dX6_init_43 : decode cX6_init 43 = .ok (.putfield 22, 3) := by decide +kernel
theorem dX6_init_46 : decode cX6_init 46 = .ok (.aload_n 0, 1) := by decide +kernel
theorem dX6_init_47 : decode cX6_init 47 = .ok (.bipush 40, 2) := by decide +kernel
theorem dX6_init_49 : decode cX6_init 49 = .ok (.newarray .int, 2) := by decide +kernel
theorem dX6_init_51 : decode cX6_init 51 = .ok (.putfield 25, 3) := by decide +kernel
theorem dX6_init_54 : decode cX6_init 54 = .ok (.iconst 0, 1) := by decide +kernel
theorem dX6_init_55 : decode cX6_init 55 = .ok (.istore_n 1, 1) := by decide +kernel
theorem dX6_init_56 : decode cX6_init 56 = .ok (.iload_n 1, 1) := by decide +kernel
theorem dX6_init_57 : decode cX6_init 57 = .ok (.bipush 110, 2) := by decide +kernel
theorem dX6_init_59 : decode cX6_init 59 = .ok (.if_icmp .gt 27, 3) := by decide +kernel
theorem dX6_init_62 : decode cX6_init 62 = .ok (.aload_n 0, 1) := by decide +kernel
theorem dX6_init_63 : decode cX6_init 63 = .ok (.getfield 7, 3) := by decide +kernel
theorem dX6_init_66 : decode cX6_init 66 = .ok (.iconst 0, 1) := by decide +kernel
theorem dX6_init_67 : decode cX6_init 67 = .ok (.iload_n 1, 1) := by decide +kernel
theorem dX6_init_68 : decode cX6_init 68 = .ok (.iadd, 1) := by decide +kernel
theorem dX6_init_69 : decode cX6_init 69 = .ok (.ldc2_w 29, 3) := by decide +kernel
theorem dX6_init_72 : decode cX6_init 72 = .ok (.ldc2_w 31, 3) := by decide +kernel
theorem dX6_init_75 : decode cX6_init 75 = .ok (.iload_n 1, 1) := by decide +kernel
theorem dX6_init_76 : decode cX6_init 76 = .ok (.i2l, 1) := by decide +kernel
theorem dX6_init_77 : decode cX6_init 77 = .ok (.lmul, 1) := by decide +kernel
theorem dX6_init_78 : decode cX6_init 78 = .ok (.lsub, 1) := by decide +kernel
theorem dX6_init_79 : decode cX6_init 79 = .ok (.lastore, 1) := by decide +kernel
theorem dX6_init_80 : decode cX6_init 80 = .ok (.iinc 1 1, 3) := by decide +kernel
theorem dX6_init_83 : decode cX6_init 83 = .ok (.goto (-27), 3) := by decide +kernel
theorem dX6_init_86 : decode cX6_init 86 = .ok (.aload_n 0, 1) := by decide +kernel
theorem dX6_init_87 : decode cX6_init 87 = .ok (.getfield 7, 3) := by decide +kernel
theorem dX6_init_90 : decode cX6_init 90 = .ok (.sipush 5666, 3) := by decide +kernel
theorem dX6_init_93 : decode cX6_init 93 = .ok (.ldc2_w 33, 3) := by decide +kernel
theorem dX6_init_96 : decode cX6_init 96 = .ok (.lastore, 1) := by decide +kernel
theorem dX6_init_97 : decode cX6_init 97 = .ok (.return_, 1) := by decide +kernel
theorem dX6_in_0 : decode cX6_in 0 = .ok (.lload_n 0, 1) := by decide +kernel
theorem dX6_in_1 : decode cX6_in 1 = .ok (.lload_n 2, 1) := by decide +kernel
theorem dX6_in_2 : decode cX6_in 2 = .ok (.lcmp, 1) := by decide +kernel
theorem dX6_in_3 : decode cX6_in 3 = .ok (.ifCond .lt 14, 3) := by decide +kernel
theorem dX6_in_6 : decode cX6_in 6 = .ok (.lload_n 0, 1) := by decide +kernel
theorem dX6_in_7 : decode cX6_in 7 = .ok (.lload 4, 2) := by decide +kernel
theorem dX6_in_9 : decode cX6_in 9 = .ok (.lcmp, 1) := by decide +kernel
theorem dX6_in_10 : decode cX6_in 10 = .ok (.ifCond .gt 7, 3) := by decide +kernel
theorem dX6_in_13 : decode cX6_in 13 = .ok (.iconst 1, 1) := by decide +kernel
theorem dX6_in_14 : decode cX6_in 14 = .ok (.goto 4, 3) := by decide +kernel
theorem dX6_in_17 : decode cX6_in 17 = .ok (.iconst 0, 1) := by decide +kernel
theorem dX6_in_18 : decode cX6_in 18 = .ok (.ireturn, 1) := by decide +kernel
theorem dX6_isMember_0 : decode cX6_isMember 0 = .ok (.iload_n 1, 1) := by decide +kernel
theorem dX6_isMember_1 : decode cX6_isMember 1 = .ok (.i2l, 1) := by decide +kernel
theorem dX6_isMember_2 : decode cX6_isMember 2 = .ok (.lconst 0, 1) := by decide +kernel
theorem dX6_isMember_3 : decode cX6_isMember 3 = .ok (.aload_n 0, 1) := by decide +kernel
theorem dX6_isMember_4 : decode cX6_isMember 4 = .ok (.getfield 7, 3) := by decide +kernel
theorem dX6_isMember_7 : decode cX6_isMember 7 = .ok (.sipush 5668, 3) := by decide +kernel
theorem dX6_isMember_10 : decode cX6_isMember 10 = .ok (.laload, 1) := by decide +kernel
theorem dX6_isMember_11 : decode cX6_isMember 11 = .ok (.lconst 1, 1) := by decide +kernel
theorem dX6_isMember_12 : decode cX6_isMember 12 = .ok (.lsub, 1) := by decide +kernel
theorem dX6_isMember_13 : decode cX6_isMember 13 = .ok (.invokestatic 35, 3) := by decide +kernel
theorem dX6_isMember_16 : decode cX6_isMember 16 = .ok (.ireturn, 1) := by decide +kernel
theorem dX6_isClass_0 : decode cX6_isClass 0 = .ok (.iload_n 1, 1) := by decide +kernel
theorem dX6_isClass_1 : decode cX6_isClass 1 = .ok (.i2l, 1) := by decide +kernel
theorem dX6_isClass_2 : decode cX6_isClass 2 = .ok (.lconst 0, 1) := by decide +kernel
theorem dX6_isClass_3 : decode cX6_isClass 3 = .ok (.aload_n 0, 1) := by decide +kernel
theorem dX6_isClass_4 : decode cX6_isClass 4 = .ok (.getfield 7, 3) := by decide +kernel
theorem dX6_isClass_7 : decode cX6_isClass 7 = .ok (.sipush 5669, 3) := by decide +kernel
theorem dX6_isClass_10 : decode cX6_isClass 10 = .ok (.laload, 1) := by decide +kernel
theorem dX6_isClass_11 : decode cX6_isClass 11 = .ok (.lconst 1, 1) := by decide +kernel
theorem dX6_isClass_12 : decode cX6_isClass 12 = .ok (.lsub, 1) := by decide +kernel
theorem dX6_isClass_13 : decode cX6_isClass 13 = .ok (.invokestatic 35, 3) := by decide +kernel
theorem dX6_isClass_16 : decode cX6_isClass 16 = .ok (.ireturn, 1) := by decide +kernel
theorem dX6_isShare_0 : decode cX6_isShare 0 = .ok (.iload_n 1, 1) := by decide +kernel
theorem dX6_isShare_1 : decode cX6_isShare 1 = .ok (.i2l, 1) := by decide +kernel
theorem dX6_isShare_2 : decode cX6_isShare 2 = .ok (.lconst 0, 1) := by decide +kernel
theorem dX6_isShare_3 : decode cX6_isShare 3 = .ok (.aload_n 0, 1) := by decide +kernel
theorem dX6_isShare_4 : decode cX6_isShare 4 = .ok (.getfield 7, 3) := by decide +kernel
theorem dX6_isShare_7 : decode cX6_isShare 7 = .ok (.sipush 5670, 3) := by decide +kernel
theorem dX6_isShare_10 : decode cX6_isShare 10 = .ok (.laload, 1) := by decide +kernel
theorem dX6_isShare_11 : decode cX6_isShare 11 = .ok (.lconst 1, 1) := by decide +kernel
theorem dX6_isShare_12 : decode cX6_isShare 12 = .ok (.lsub, 1) := by decide +kernel
theorem dX6_isShare_13 : decode cX6_isShare 13 = .ok (.invokestatic 35, 3) := by decide +kernel
theorem dX6_isShare_16 : decode cX6_isShare 16 = .ok (.ireturn, 1) := by decide +kernel
theorem dX6_cellOf_0 : decode cX6_cellOf 0 = .ok (.bipush 111, 2) := by decide +kernel
theorem dX6_cellOf_2 : decode cX6_cellOf 2 = .ok (.bipush 7, 2) := by decide +kernel
theorem dX6_cellOf_4 : decode cX6_cellOf 4 = .ok (.iload_n 0, 1) := by decide +kernel
theorem dX6_cellOf_5 : decode cX6_cellOf 5 = .ok (.imul, 1) := by decide +kernel
theorem dX6_cellOf_6 : decode cX6_cellOf 6 = .ok (.iadd, 1) := by decide +kernel
theorem dX6_cellOf_7 : decode cX6_cellOf 7 = .ok (.iload_n 1, 1) := by decide +kernel
theorem dX6_cellOf_8 : decode cX6_cellOf 8 = .ok (.iadd, 1) := by decide +kernel
theorem dX6_cellOf_9 : decode cX6_cellOf 9 = .ok (.ireturn, 1) := by decide +kernel
theorem dX6_groupCell_0 : decode cX6_groupCell 0 = .ok (.sipush 279, 3) := by decide +kernel
theorem dX6_groupCell_3 : decode cX6_groupCell 3 = .ok (.iconst 4, 1) := by decide +kernel
theorem dX6_groupCell_4 : decode cX6_groupCell 4 = .ok (.iload_n 0, 1) := by decide +kernel
theorem dX6_groupCell_5 : decode cX6_groupCell 5 = .ok (.imul, 1) := by decide +kernel
theorem dX6_groupCell_6 : decode cX6_groupCell 6 = .ok (.iadd, 1) := by decide +kernel
theorem dX6_groupCell_7 : decode cX6_groupCell 7 = .ok (.iload_n 1, 1) := by decide +kernel
theorem dX6_groupCell_8 : decode cX6_groupCell 8 = .ok (.iadd, 1) := by decide +kernel
theorem dX6_groupCell_9 : decode cX6_groupCell 9 = .ok (.ireturn, 1) := by decide +kernel
theorem dX6_part_0 : decode cX6_part 0 = .ok (.sipush 303, 3) := by decide +kernel
theorem dX6_part_3 : decode cX6_part 3 = .ok (.bipush 14, 2) := by decide +kernel
theorem dX6_part_5 : decode cX6_part 5 = .ok (.iload_n 0, 1) := by decide +kernel
theorem dX6_part_6 : decode cX6_part 6 = .ok (.imul, 1) := by decide +kernel
theorem dX6_part_7 : decode cX6_part 7 = .ok (.iadd, 1) := by decide +kernel
theorem dX6_part_8 : decode cX6_part 8 = .ok (.iload_n 1, 1) := by decide +kernel
theorem dX6_part_9 : decode cX6_part 9 = .ok (.iadd, 1) := by decide +kernel
theorem dX6_part_10 : decode cX6_part 10 = .ok (.ireturn, 1) := by decide +kernel
theorem dX6_living_0 : decode cX6_living 0 = .ok (.iload_n 1, 1) := by decide +kernel
theorem dX6_living_1 : decode cX6_living 1 = .ok (.i2l, 1) := by decide +kernel
theorem dX6_living_2 : decode cX6_living 2 = .ok (.lconst 0, 1) := by decide +kernel
theorem dX6_living_3 : decode cX6_living 3 = .ok (.ldc2_w 39, 3) := by decide +kernel
theorem dX6_living_6 : decode cX6_living 6 = .ok (.invokestatic 35, 3) := by decide +kernel
theorem dX6_living_9 : decode cX6_living 9 = .ok (.ifCond .eq 15, 3) := by decide +kernel
theorem dX6_living_12 : decode cX6_living 12 = .ok (.iload_n 2, 1) := by decide +kernel
theorem dX6_living_13 : decode cX6_living 13 = .ok (.i2l, 1) := by decide +kernel
theorem dX6_living_14 : decode cX6_living 14 = .ok (.lconst 0, 1) := by decide +kernel
theorem dX6_living_15 : decode cX6_living 15 = .ok (.ldc2_w 29, 3) := by decide +kernel
theorem dX6_living_18 : decode cX6_living 18 = .ok (.invokestatic 35, 3) := by decide +kernel
theorem dX6_living_21 : decode cX6_living 21 = .ok (.ifCond .ne 7, 3) := by decide +kernel
theorem dX6_living_24 : decode cX6_living 24 = .ok (.ldc2_w 41, 3) := by decide +kernel
theorem dX6_living_27 : decode cX6_living 27 = .ok (.lreturn, 1) := by decide +kernel
theorem dX6_living_28 : decode cX6_living 28 = .ok (.iload_n 1, 1) := by decide +kernel
theorem dX6_living_29 : decode cX6_living 29 = .ok (.ifCond .le 19, 3) := by decide +kernel
theorem dX6_living_32 : decode cX6_living 32 = .ok (.iload_n 2, 1) := by decide +kernel
theorem dX6_living_33 : decode cX6_living 33 = .ok (.i2l, 1) := by decide +kernel
theorem dX6_living_34 : decode cX6_living 34 = .ok (.aload_n 0, 1) := by decide +kernel
theorem dX6_living_35 : decode cX6_living 35 = .ok (.getfield 7, 3) := by decide +kernel
theorem dX6_living_38 : decode cX6_living 38 = .ok (.iconst 0, 1) := by decide +kernel
theorem dX6_living_39 : decode cX6_living 39 = .ok (.iload_n 1, 1) := by decide +kernel
theorem dX6_living_40 : decode cX6_living 40 = .ok (.iadd, 1) := by decide +kernel
theorem dX6_living_41 : decode cX6_living 41 = .ok (.iconst 1, 1) := by decide +kernel
theorem dX6_living_42 : decode cX6_living 42 = .ok (.isub, 1) := by decide +kernel
theorem dX6_living_43 : decode cX6_living 43 = .ok (.laload, 1) := by decide +kernel
theorem dX6_living_44 : decode cX6_living 44 = .ok (.lcmp, 1) := by decide +kernel
theorem dX6_living_45 : decode cX6_living 45 = .ok (.ifCond .gt 25, 3) := by decide +kernel
theorem dX6_living_48 : decode cX6_living 48 = .ok (.iload_n 1, 1) := by decide +kernel
theorem dX6_living_49 : decode cX6_living 49 = .ok (.bipush 110, 2) := by decide +kernel
theorem dX6_living_51 : decode cX6_living 51 = .ok (.if_icmp .ge 23, 3) := by decide +kernel
theorem dX6_living_54 : decode cX6_living 54 = .ok (.iload_n 2, 1) := by decide +kernel
theorem dX6_living_55 : decode cX6_living 55 = .ok (.i2l, 1) := by decide +kernel
theorem dX6_living_56 : decode cX6_living 56 = .ok (.aload_n 0, 1) := by decide +kernel
theorem dX6_living_57 : decode cX6_living 57 = .ok (.getfield 7, 3) := by decide +kernel
theorem dX6_living_60 : decode cX6_living 60 = .ok (.iconst 0, 1) := by decide +kernel
theorem dX6_living_61 : decode cX6_living 61 = .ok (.iload_n 1, 1) := by decide +kernel
theorem dX6_living_62 : decode cX6_living 62 = .ok (.iadd, 1) := by decide +kernel
theorem dX6_living_63 : decode cX6_living 63 = .ok (.iconst 1, 1) := by decide +kernel
theorem dX6_living_64 : decode cX6_living 64 = .ok (.iadd, 1) := by decide +kernel
theorem dX6_living_65 : decode cX6_living 65 = .ok (.laload, 1) := by decide +kernel
theorem dX6_living_66 : decode cX6_living 66 = .ok (.lcmp, 1) := by decide +kernel
theorem dX6_living_67 : decode cX6_living 67 = .ok (.ifCond .ge 7, 3) := by decide +kernel
theorem dX6_living_70 : decode cX6_living 70 = .ok (.ldc2_w 41, 3) := by decide +kernel
theorem dX6_living_73 : decode cX6_living 73 = .ok (.lreturn, 1) := by decide +kernel
theorem dX6_living_74 : decode cX6_living 74 = .ok (.aload_n 0, 1) := by decide +kernel
theorem dX6_living_75 : decode cX6_living 75 = .ok (.getfield 7, 3) := by decide +kernel
theorem dX6_living_78 : decode cX6_living 78 = .ok (.iconst 0, 1) := by decide +kernel
theorem dX6_living_79 : decode cX6_living 79 = .ok (.iload_n 1, 1) := by decide +kernel
theorem dX6_living_80 : decode cX6_living 80 = .ok (.iadd, 1) := by decide +kernel
theorem dX6_living_81 : decode cX6_living 81 = .ok (.laload, 1) := by decide +kernel
theorem dX6_living_82 : decode cX6_living 82 = .ok (.lstore_n 3, 1) := by decide +kernel
theorem dX6_living_83 : decode cX6_living 83 = .ok (.aload_n 0, 1) := by decide +kernel
theorem dX6_living_84 : decode cX6_living 84 = .ok (.getfield 7, 3) := by decide +kernel
theorem dX6_living_87 : decode cX6_living 87 = .ok (.iconst 0, 1) := by decide +kernel
theorem dX6_living_88 : decode cX6_living 88 = .ok (.iload_n 1, 1) := by decide +kernel
theorem dX6_living_89 : decode cX6_living 89 = .ok (.iadd, 1) := by decide +kernel
theorem dX6_living_90 : decode cX6_living 90 = .ok (.iload_n 2, 1) := by decide +kernel
theorem dX6_living_91 : decode cX6_living 91 = .ok (.i2l, 1) := by decide +kernel
theorem dX6_living_92 : decode cX6_living 92 = .ok (.lastore, 1) := by decide +kernel
theorem dX6_living_93 : decode cX6_living 93 = .ok (.lload_n 3, 1) := by decide +kernel
theorem dX6_living_94 : decode cX6_living 94 = .ok (.lreturn, 1) := by decide +kernel
theorem dX6_foretell_0 : decode cX6_foretell 0 = .ok (.iload_n 1, 1) := by decide +kernel
theorem dX6_foretell_1 : decode cX6_foretell 1 = .ok (.i2l, 1) := by decide +kernel
theorem dX6_foretell_2 : decode cX6_foretell 2 = .ok (.lconst 0, 1) := by decide +kernel
theorem dX6_foretell_3 : decode cX6_foretell 3 = .ok (.ldc2_w 39, 3) := by decide +kernel
theorem dX6_foretell_6 : decode cX6_foretell 6 = .ok (.invokestatic 35, 3) := by decide +kernel
theorem dX6_foretell_9 : decode cX6_foretell 9 = .ok (.ifCond .eq 7, 3) := by decide +kernel
theorem dX6_foretell_12 : decode cX6_foretell 12 = .ok (.iload_n 2, 1) := by decide +kernel
theorem dX6_foretell_13 : decode cX6_foretell 13 = .ok (.ifCond .ge 7, 3) := by decide +kernel
theorem dX6_foretell_16 : decode cX6_foretell 16 = .ok (.ldc2_w 41, 3) := by decide +kernel
theorem dX6_foretell_19 : decode cX6_foretell 19 = .ok (.lreturn, 1) := by decide +kernel
theorem dX6_foretell_20 : decode cX6_foretell 20 = .ok (.aload_n 0, 1) := by decide +kernel
theorem dX6_foretell_21 : decode cX6_foretell 21 = .ok (.getfield 7, 3) := by decide +kernel
theorem dX6_foretell_24 : decode cX6_foretell 24 = .ok (.iconst 0, 1) := by decide +kernel
theorem dX6_foretell_25 : decode cX6_foretell 25 = .ok (.iload_n 1, 1) := by decide +kernel
theorem dX6_foretell_26 : decode cX6_foretell 26 = .ok (.iadd, 1) := by decide +kernel
theorem dX6_foretell_27 : decode cX6_foretell 27 = .ok (.laload, 1) := by decide +kernel
theorem dX6_foretell_28 : decode cX6_foretell 28 = .ok (.lstore_n 3, 1) := by decide +kernel
theorem dX6_foretell_29 : decode cX6_foretell 29 = .ok (.lload_n 3, 1) := by decide +kernel
theorem dX6_foretell_30 : decode cX6_foretell 30 = .ok (.lconst 0, 1) := by decide +kernel
theorem dX6_foretell_31 : decode cX6_foretell 31 = .ok (.lcmp, 1) := by decide +kernel
theorem dX6_foretell_32 : decode cX6_foretell 32 = .ok (.ifCond .eq 11, 3) := by decide +kernel
theorem dX6_foretell_35 : decode cX6_foretell 35 = .ok (.iload_n 2, 1) := by decide +kernel
theorem dX6_foretell_36 : decode cX6_foretell 36 = .ok (.bipush 110, 2) := by decide +kernel
theorem dX6_foretell_38 : decode cX6_foretell 38 = .ok (.iload_n 1, 1) := by decide +kernel
theorem dX6_foretell_39 : decode cX6_foretell 39 = .ok (.isub, 1) := by decide +kernel
theorem dX6_foretell_40 : decode cX6_foretell 40 = .ok (.if_icmp .le 7, 3) := by decide +kernel
theorem dX6_foretell_43 : decode cX6_foretell 43 = .ok (.lconst 0, 1) := by decide +kernel
theorem dX6_foretell_44 : decode cX6_foretell 44 = .ok (.goto 19, 3) := by decide +kernel
theorem dX6_foretell_47 : decode cX6_foretell 47 = .ok (.ldc2_w 43, 3) := by decide +kernel
theorem dX6_foretell_50 : decode cX6_foretell 50 = .ok (.aload_n 0, 1) := by decide +kernel
theorem dX6_foretell_51 : decode cX6_foretell 51 = .ok (.getfield 7, 3) := by decide +kernel
theorem dX6_foretell_54 : decode cX6_foretell 54 = .ok (.iconst 0, 1) := by decide +kernel
theorem dX6_foretell_55 : decode cX6_foretell 55 = .ok (.iload_n 1, 1) := by decide +kernel
theorem dX6_foretell_56 : decode cX6_foretell 56 = .ok (.iadd, 1) := by decide +kernel
theorem dX6_foretell_57 : decode cX6_foretell 57 = .ok (.iload_n 2, 1) := by decide +kernel
theorem dX6_foretell_58 : decode cX6_foretell 58 = .ok (.iadd, 1) := by decide +kernel
theorem dX6_foretell_59 : decode cX6_foretell 59 = .ok (.laload, 1) := by decide +kernel
theorem dX6_foretell_60 : decode cX6_foretell 60 = .ok (.lmul, 1) := by decide +kernel
theorem dX6_foretell_61 : decode cX6_foretell 61 = .ok (.lload_n 3, 1) := by decide +kernel
theorem dX6_foretell_62 : decode cX6_foretell 62 = .ok (.ldiv, 1) := by decide +kernel
theorem dX6_foretell_63 : decode cX6_foretell 63 = .ok (.lreturn, 1) := by decide +kernel
theorem dX6_later_0 : decode cX6_later 0 = .ok (.lconst 0, 1) := by decide +kernel
theorem dX6_later_1 : decode cX6_later 1 = .ok (.lstore_n 2, 1) := by decide +kernel
theorem dX6_later_2 : decode cX6_later 2 = .ok (.iload_n 1, 1) := by decide +kernel
theorem dX6_later_3 : decode cX6_later 3 = .ok (.iconst 1, 1) := by decide +kernel
theorem dX6_later_4 : decode cX6_later 4 = .ok (.iadd, 1) := by decide +kernel
theorem dX6_later_5 : decode cX6_later 5 = .ok (.istore 4, 2) := by decide +kernel
theorem dX6_later_7 : decode cX6_later 7 = .ok (.iload 4, 2) := by decide +kernel
theorem dX6_later_9 : decode cX6_later 9 = .ok (.bipush 110, 2) := by decide +kernel
theorem dX6_later_11 : decode cX6_later 11 = .ok (.if_icmp .gt 21, 3) := by decide +kernel
theorem dX6_later_14 : decode cX6_later 14 = .ok (.lload_n 2, 1) := by decide +kernel
theorem dX6_later_15 : decode cX6_later 15 = .ok (.aload_n 0, 1) := by decide +kernel
theorem dX6_later_16 : decode cX6_later 16 = .ok (.getfield 7, 3) := by decide +kernel
theorem dX6_later_19 : decode cX6_later 19 = .ok (.iconst 0, 1) := by decide +kernel
theorem dX6_later_20 : decode cX6_later 20 = .ok (.iload 4, 2) := by decide +kernel
theorem dX6_later_22 : decode cX6_later 22 = .ok (.iadd, 1) := by decide +kernel
theorem dX6_later_23 : decode cX6_later 23 = .ok (.laload, 1) := by decide +kernel
theorem dX6_later_24 : decode cX6_later 24 = .ok (.ladd, 1) := by decide +kernel
theorem dX6_later_25 : decode cX6_later 25 = .ok (.lstore_n 2, 1) := by decide +kernel
theorem dX6_later_26 : decode cX6_later 26 = .ok (.iinc 4 1, 3) := by decide +kernel
theorem dX6_later_29 : decode cX6_later 29 = .ok (.goto (-22), 3) := by decide +kernel
theorem dX6_later_32 : decode cX6_later 32 = .ok (.lload_n 2, 1) := by decide +kernel
theorem dX6_later_33 : decode cX6_later 33 = .ok (.lreturn, 1) := by decide +kernel
theorem dX6_mean_0 : decode cX6_mean 0 = .ok (.iload_n 1, 1) := by decide +kernel
theorem dX6_mean_1 : decode cX6_mean 1 = .ok (.i2l, 1) := by decide +kernel
theorem dX6_mean_2 : decode cX6_mean 2 = .ok (.lconst 0, 1) := by decide +kernel
theorem dX6_mean_3 : decode cX6_mean 3 = .ok (.ldc2_w 39, 3) := by decide +kernel
theorem dX6_mean_6 : decode cX6_mean 6 = .ok (.invokestatic 35, 3) := by decide +kernel
theorem dX6_mean_9 : decode cX6_mean 9 = .ok (.ifCond .ne 7, 3) := by decide +kernel
theorem dX6_mean_12 : decode cX6_mean 12 = .ok (.ldc2_w 41, 3) := by decide +kernel
theorem dX6_mean_15 : decode cX6_mean 15 = .ok (.lreturn, 1) := by decide +kernel
theorem dX6_mean_16 : decode cX6_mean 16 = .ok (.aload_n 0, 1) := by decide +kernel
theorem dX6_mean_17 : decode cX6_mean 17 = .ok (.getfield 7, 3) := by decide +kernel
theorem dX6_mean_20 : decode cX6_mean 20 = .ok (.iconst 0, 1) := by decide +kernel
theorem dX6_mean_21 : decode cX6_mean 21 = .ok (.iload_n 1, 1) := by decide +kernel
theorem dX6_mean_22 : decode cX6_mean 22 = .ok (.iadd, 1) := by decide +kernel
theorem dX6_mean_23 : decode cX6_mean 23 = .ok (.laload, 1) := by decide +kernel
theorem dX6_mean_24 : decode cX6_mean 24 = .ok (.lconst 0, 1) := by decide +kernel
theorem dX6_mean_25 : decode cX6_mean 25 = .ok (.lcmp, 1) := by decide +kernel
theorem dX6_mean_26 : decode cX6_mean 26 = .ok (.ifCond .ne 7, 3) := by decide +kernel
theorem dX6_mean_29 : decode cX6_mean 29 = .ok (.lconst 0, 1) := by decide +kernel
theorem dX6_mean_30 : decode cX6_mean 30 = .ok (.goto 21, 3) := by decide +kernel
theorem dX6_mean_33 : decode cX6_mean 33 = .ok (.ldc2_w 45, 3) := by decide +kernel
theorem dX6_mean_36 : decode cX6_mean 36 = .ok (.aload_n 0, 1) := by decide +kernel
theorem dX6_mean_37 : decode cX6_mean 37 = .ok (.iload_n 1, 1) := by decide +kernel
theorem dX6_mean_38 : decode cX6_mean 38 = .ok (.invokevirtual 47, 3) := by decide +kernel
theorem dX6_mean_41 : decode cX6_mean 41 = .ok (.lmul, 1) := by decide +kernel
theorem dX6_mean_42 : decode cX6_mean 42 = .ok (.aload_n 0, 1) := by decide +kernel
theorem dX6_mean_43 : decode cX6_mean 43 = .ok (.getfield 7, 3) := by decide +kernel
theorem dX6_mean_46 : decode cX6_mean 46 = .ok (.iconst 0, 1) := by decide +kernel
theorem dX6_mean_47 : decode cX6_mean 47 = .ok (.iload_n 1, 1) := by decide +kernel
theorem dX6_mean_48 : decode cX6_mean 48 = .ok (.iadd, 1) := by decide +kernel
theorem dX6_mean_49 : decode cX6_mean 49 = .ok (.laload, 1) := by decide +kernel
theorem dX6_mean_50 : decode cX6_mean 50 = .ok (.ldiv, 1) := by decide +kernel
theorem dX6_mean_51 : decode cX6_mean 51 = .ok (.lreturn, 1) := by decide +kernel
theorem dX6_dearer_0 : decode cX6_dearer 0 = .ok (.aload_n 0, 1) := by decide +kernel
theorem dX6_dearer_1 : decode cX6_dearer 1 = .ok (.iload_n 1, 1) := by decide +kernel
theorem dX6_dearer_2 : decode cX6_dearer 2 = .ok (.invokevirtual 51, 3) := by decide +kernel
theorem dX6_dearer_5 : decode cX6_dearer 5 = .ok (.ifCond .eq 11, 3) := by decide +kernel
theorem dX6_dearer_8 : decode cX6_dearer 8 = .ok (.aload_n 0, 1) := by decide +kernel
theorem dX6_dearer_9 : decode cX6_dearer 9 = .ok (.iload_n 2, 1) := by decide +kernel
theorem dX6_dearer_10 : decode cX6_dearer 10 = .ok (.invokevirtual 51, 3) := by decide +kernel
theorem dX6_dearer_13 : decode cX6_dearer 13 = .ok (.ifCond .ne 7, 3) := by decide +kernel
theorem dX6_dearer_16 : decode cX6_dearer 16 = .ok (.ldc2_w 41, 3) := by decide +kernel
theorem dX6_dearer_19 : decode cX6_dearer 19 = .ok (.lreturn, 1) := by decide +kernel
theorem dX6_dearer_20 : decode cX6_dearer 20 = .ok (.aload_n 0, 1) := by decide +kernel
theorem dX6_dearer_21 : decode cX6_dearer 21 = .ok (.getfield 7, 3) := by decide +kernel
theorem dX6_dearer_24 : decode cX6_dearer 24 = .ok (.iload_n 1, 1) := by decide +kernel
theorem dX6_dearer_25 : decode cX6_dearer 25 = .ok (.iconst 0, 1) := by decide +kernel
theorem dX6_dearer_26 : decode cX6_dearer 26 = .ok (.invokestatic 55, 3) := by decide +kernel
theorem dX6_dearer_29 : decode cX6_dearer 29 = .ok (.laload, 1) := by decide +kernel
theorem dX6_dearer_30 : decode cX6_dearer 30 = .ok (.l2i, 1) := by decide +kernel
theorem dX6_dearer_31 : decode cX6_dearer 31 = .ok (.istore_n 3, 1) := by decide +kernel
theorem dX6_dearer_32 : decode cX6_dearer 32 = .ok (.aload_n 0, 1) := by decide +kernel
theorem dX6_dearer_33 : decode cX6_dearer 33 = .ok (.getfield 7, 3) := by decide +kernel
theorem dX6_dearer_36 : decode cX6_dearer 36 = .ok (.iload_n 2, 1) := by decide +kernel
theorem dX6_dearer_37 : decode cX6_dearer 37 = .ok (.iconst 0, 1) := by decide +kernel
theorem dX6_dearer_38 : decode cX6_dearer 38 = .ok (.invokestatic 55, 3) := by decide +kernel
theorem dX6_dearer_41 : decode cX6_dearer 41 = .ok (.laload, 1) := by decide +kernel
theorem dX6_dearer_42 : decode cX6_dearer 42 = .ok (.l2i, 1) := by decide +kernel
theorem dX6_dearer_43 : decode cX6_dearer 43 = .ok (.istore 4, 2) := by decide +kernel
theorem dX6_dearer_45 : decode cX6_dearer 45 = .ok (.aload_n 0, 1) := by decide +kernel
theorem dX6_dearer_46 : decode cX6_dearer 46 = .ok (.iload_n 3, 1) := by decide +kernel
theorem dX6_dearer_47 : decode cX6_dearer 47 = .ok (.invokevirtual 47, 3) := by decide +kernel
theorem dX6_dearer_50 : decode cX6_dearer 50 = .ok (.lstore 5, 2) := by decide +kernel
theorem dX6_dearer_52 : decode cX6_dearer 52 = .ok (.aload_n 0, 1) := by decide +kernel
theorem dX6_dearer_53 : decode cX6_dearer 53 = .ok (.iload 4, 2) := by decide +kernel
theorem dX6_dearer_55 : decode cX6_dearer 55 = .ok (.invokevirtual 47, 3) := by decide +kernel
theorem dX6_dearer_58 : decode cX6_dearer 58 = .ok (.lstore 7, 2) := by decide +kernel
theorem dX6_dearer_60 : decode cX6_dearer 60 = .ok (.lload 5, 2) := by decide +kernel
theorem dX6_dearer_62 : decode cX6_dearer 62 = .ok (.lconst 0, 1) := by decide +kernel
theorem dX6_dearer_63 : decode cX6_dearer 63 = .ok (.lcmp, 1) := by decide +kernel
theorem dX6_dearer_64 : decode cX6_dearer 64 = .ok (.ifCond .eq 10, 3) := by decide +kernel
theorem dX6_dearer_67 : decode cX6_dearer 67 = .ok (.lload 7, 2) := by decide +kernel
theorem dX6_dearer_69 : decode cX6_dearer 69 = .ok (.lconst 0, 1) := by decide +kernel
theorem dX6_dearer_70 : decode cX6_dearer 70 = .ok (.lcmp, 1) := by decide +kernel
theorem dX6_dearer_71 : decode cX6_dearer 71 = .ok (.ifCond .ne 30, 3) := by decide +kernel
theorem dX6_dearer_74 : decode cX6_dearer 74 = .ok (.lload 5, 2) := by decide +kernel
theorem dX6_dearer_76 : decode cX6_dearer 76 = .ok (.lload 7, 2) := by decide +kernel
theorem dX6_dearer_78 : decode cX6_dearer 78 = .ok (.lcmp, 1) := by decide +kernel
theorem dX6_dearer_79 : decode cX6_dearer 79 = .ok (.ifCond .ne 7, 3) := by decide +kernel
theorem dX6_dearer_82 : decode cX6_dearer 82 = .ok (.lconst 0, 1) := by decide +kernel
theorem dX6_dearer_83 : decode cX6_dearer 83 = .ok (.goto 17, 3) := by decide +kernel
theorem dX6_dearer_86 : decode cX6_dearer 86 = .ok (.lload 5, 2) := by decide +kernel
theorem dX6_dearer_88 : decode cX6_dearer 88 = .ok (.lconst 0, 1) := by decide +kernel
theorem dX6_dearer_89 : decode cX6_dearer 89 = .ok (.lcmp, 1) := by decide +kernel
theorem dX6_dearer_90 : decode cX6_dearer 90 = .ok (.ifCond .ne 7, 3) := by decide +kernel
theorem dX6_dearer_93 : decode cX6_dearer 93 = .ok (.lconst 1, 1) := by decide +kernel
theorem dX6_dearer_94 : decode cX6_dearer 94 = .ok (.goto 6, 3) := by decide +kernel
theorem dX6_dearer_97 : decode cX6_dearer 97 = .ok (.ldc2_w 59, 3) := by decide +kernel
theorem dX6_dearer_100 : decode cX6_dearer 100 = .ok (.lreturn, 1) := by decide +kernel
theorem dX6_dearer_101 : decode cX6_dearer 101 = .ok (.aload_n 0, 1) := by decide +kernel
theorem dX6_dearer_102 : decode cX6_dearer 102 = .ok (.getfield 7, 3) := by decide +kernel
theorem dX6_dearer_105 : decode cX6_dearer 105 = .ok (.iload_n 1, 1) := by decide +kernel
theorem dX6_dearer_106 : decode cX6_dearer 106 = .ok (.iconst 2, 1) := by decide +kernel
theorem dX6_dearer_107 : decode cX6_dearer 107 = .ok (.invokestatic 55, 3) := by decide +kernel
theorem dX6_dearer_110 : decode cX6_dearer 110 = .ok (.laload, 1) := by decide +kernel
theorem dX6_dearer_111 : decode cX6_dearer 111 = .ok (.aload_n 0, 1) := by decide +kernel
theorem dX6_dearer_112 : decode cX6_dearer 112 = .ok (.getfield 7, 3) := by decide +kernel
theorem dX6_dearer_115 : decode cX6_dearer 115 = .ok (.iconst 0, 1) := by decide +kernel
theorem dX6_dearer_116 : decode cX6_dearer 116 = .ok (.iload_n 3, 1) := by decide +kernel
theorem dX6_dearer_117 : decode cX6_dearer 117 = .ok (.iadd, 1) := by decide +kernel
theorem dX6_dearer_118 : decode cX6_dearer 118 = .ok (.laload, 1) := by decide +kernel
theorem dX6_dearer_119 : decode cX6_dearer 119 = .ok (.lmul, 1) := by decide +kernel
theorem dX6_dearer_120 : decode cX6_dearer 120 = .ok (.lload 7, 2) := by decide +kernel
theorem dX6_dearer_122 : decode cX6_dearer 122 = .ok (.lmul, 1) := by decide +kernel
theorem dX6_dearer_123 : decode cX6_dearer 123 = .ok (.lstore 9, 2) := by decide +kernel
theorem dX6_dearer_125 : decode cX6_dearer 125 = .ok (.aload_n 0, 1) := by decide +kernel
theorem dX6_dearer_126 : decode cX6_dearer 126 = .ok (.getfield 7, 3) := by decide +kernel
theorem dX6_dearer_129 : decode cX6_dearer 129 = .ok (.iload_n 2, 1) := by decide +kernel
theorem dX6_dearer_130 : decode cX6_dearer 130 = .ok (.iconst 2, 1) := by decide +kernel
theorem dX6_dearer_131 : decode cX6_dearer 131 = .ok (.invokestatic 55, 3) := by decide +kernel
theorem dX6_dearer_134 : decode cX6_dearer 134 = .ok (.laload, 1) := by decide +kernel
theorem dX6_dearer_135 : decode cX6_dearer 135 = .ok (.aload_n 0, 1) := by decide +kernel
theorem dX6_dearer_136 : decode cX6_dearer 136 = .ok (.getfield 7, 3) := by decide +kernel
theorem dX6_dearer_139 : decode cX6_dearer 139 = .ok (.iconst 0, 1) := by decide +kernel
theorem dX6_dearer_140 : decode cX6_dearer 140 = .ok (.iload 4, 2) := by decide +kernel
theorem dX6_dearer_142 : decode cX6_dearer 142 = .ok (.iadd, 1) := by decide +kernel
theorem dX6_dearer_143 : decode cX6_dearer 143 = .ok (.laload, 1) := by decide +kernel
theorem dX6_dearer_144 : decode cX6_dearer 144 = .ok (.lmul, 1) := by decide +kernel
theorem dX6_dearer_145 : decode cX6_dearer 145 = .ok (.lload 5, 2) := by decide +kernel
theorem dX6_dearer_147 : decode cX6_dearer 147 = .ok (.lmul, 1) := by decide +kernel
theorem dX6_dearer_148 : decode cX6_dearer 148 = .ok (.lstore 11, 2) := by decide +kernel
theorem dX6_dearer_150 : decode cX6_dearer 150 = .ok (.lload 9, 2) := by decide +kernel
theorem dX6_dearer_152 : decode cX6_dearer 152 = .ok (.lload 11, 2) := by decide +kernel
theorem dX6_dearer_154 : decode cX6_dearer 154 = .ok (.lcmp, 1) := by decide +kernel
theorem dX6_dearer_155 : decode cX6_dearer 155 = .ok (.ifCond .le 7, 3) := by decide +kernel
theorem dX6_dearer_158 : decode cX6_dearer 158 = .ok (.lconst 1, 1) := by decide +kernel
theorem dX6_dearer_159 : decode cX6_dearer 159 = .ok (.goto 18, 3) := by decide +kernel
theorem dX6_dearer_162 : decode cX6_dearer 162 = .ok (.lload 9, 2) := by decide +kernel
theorem dX6_dearer_164 : decode cX6_dearer 164 = .ok (.lload 11, 2) := by decide +kernel
theorem dX6_dearer_166 : decode cX6_dearer 166 = .ok (.lcmp, 1) := by decide +kernel
theorem dX6_dearer_167 : decode cX6_dearer 167 = .ok (.ifCond .ge 9, 3) := by decide +kernel
theorem dX6_dearer_170 : decode cX6_dearer 170 = .ok (.ldc2_w 59, 3) := by decide +kernel
theorem dX6_dearer_173 : decode cX6_dearer 173 = .ok (.goto 4, 3) := by decide +kernel
theorem dX6_dearer_176 : decode cX6_dearer 176 = .ok (.lconst 0, 1) := by decide +kernel
theorem dX6_dearer_177 : decode cX6_dearer 177 = .ok (.lreturn, 1) := by decide +kernel
theorem dX6_member_0 : decode cX6_member 0 = .ok (.iload_n 1, 1) := by decide +kernel
theorem dX6_member_1 : decode cX6_member 1 = .ok (.i2l, 1) := by decide +kernel
theorem dX6_member_2 : decode cX6_member 2 = .ok (.aload_n 0, 1) := by decide +kernel
theorem dX6_member_3 : decode cX6_member 3 = .ok (.getfield 7, 3) := by decide +kernel
theorem dX6_member_6 : decode cX6_member 6 = .ok (.sipush 5663, 3) := by decide +kernel
theorem dX6_member_9 : decode cX6_member 9 = .ok (.laload, 1) := by decide +kernel
theorem dX6_member_10 : decode cX6_member 10 = .ok (.lcmp, 1) := by decide +kernel
theorem dX6_member_11 : decode cX6_member 11 = .ok (.ifCond .gt 36, 3) := by decide +kernel
theorem dX6_member_14 : decode cX6_member 14 = .ok (.iload_n 1, 1) := by decide +kernel
theorem dX6_member_15 : decode cX6_member 15 = .ok (.i2l, 1) := by decide +kernel
theorem dX6_member_16 : decode cX6_member 16 = .ok (.aload_n 0, 1) := by decide +kernel
theorem dX6_member_17 : decode cX6_member 17 = .ok (.getfield 7, 3) := by decide +kernel
theorem dX6_member_20 : decode cX6_member 20 = .ok (.sipush 5663, 3) := by decide +kernel
theorem dX6_member_23 : decode cX6_member 23 = .ok (.laload, 1) := by decide +kernel
theorem dX6_member_24 : decode cX6_member 24 = .ok (.ldc2_w 39, 3) := by decide +kernel
theorem dX6_member_27 : decode cX6_member 27 = .ok (.lsub, 1) := by decide +kernel
theorem dX6_member_28 : decode cX6_member 28 = .ok (.lcmp, 1) := by decide +kernel
theorem dX6_member_29 : decode cX6_member 29 = .ok (.ifCond .lt 18, 3) := by decide +kernel
theorem dX6_member_32 : decode cX6_member 32 = .ok (.aload_n 0, 1) := by decide +kernel
theorem dX6_member_33 : decode cX6_member 33 = .ok (.getfield 7, 3) := by decide +kernel
theorem dX6_member_36 : decode cX6_member 36 = .ok (.sipush 5668, 3) := by decide +kernel
theorem dX6_member_39 : decode cX6_member 39 = .ok (.laload, 1) := by decide +kernel
theorem dX6_member_40 : decode cX6_member 40 = .ok (.ldc2_w 61, 3) := by decide +kernel
theorem dX6_member_43 : decode cX6_member 43 = .ok (.lcmp, 1) := by decide +kernel
theorem dX6_member_44 : decode cX6_member 44 = .ok (.ifCond .ne 7, 3) := by decide +kernel
theorem dX6_member_47 : decode cX6_member 47 = .ok (.ldc2_w 41, 3) := by decide +kernel
theorem dX6_member_50 : decode cX6_member 50 = .ok (.lreturn, 1) := by decide +kernel
theorem dX6_member_51 : decode cX6_member 51 = .ok (.aload_n 0, 1) := by decide +kernel
theorem dX6_member_52 : decode cX6_member 52 = .ok (.getfield 7, 3) := by decide +kernel
theorem dX6_member_55 : decode cX6_member 55 = .ok (.sipush 5668, 3) := by decide +kernel
theorem dX6_member_58 : decode cX6_member 58 = .ok (.laload, 1) := by decide +kernel
theorem dX6_member_59 : decode cX6_member 59 = .ok (.l2i, 1) := by decide +kernel
theorem dX6_member_60 : decode cX6_member 60 = .ok (.istore_n 2, 1) := by decide +kernel
theorem dX6_member_61 : decode cX6_member 61 = .ok (.iconst 0, 1) := by decide +kernel
theorem dX6_member_62 : decode cX6_member 62 = .ok (.istore_n 3, 1) := by decide +kernel
theorem dX6_member_63 : decode cX6_member 63 = .ok (.iload_n 3, 1) := by decide +kernel
theorem dX6_member_64 : decode cX6_member 64 = .ok (.bipush 7, 2) := by decide +kernel
theorem dX6_member_66 : decode cX6_member 66 = .ok (.if_icmp .ge 20, 3) := by decide +kernel
theorem dX6_member_69 : decode cX6_member 69 = .ok (.aload_n 0, 1) := by decide +kernel
theorem dX6_member_70 : decode cX6_member 70 = .ok (.getfield 7, 3) := by decide +kernel
theorem dX6_member_73 : decode cX6_member 73 = .ok (.iload_n 2, 1) := by decide +kernel
theorem dX6_member_74 : decode cX6_member 74 = .ok (.iload_n 3, 1) := by decide +kernel
theorem dX6_member_75 : decode cX6_member 75 = .ok (.invokestatic 63, 3) := by decide +kernel
theorem dX6_member_78 : decode cX6_member 78 = .ok (.lconst 0, 1) := by decide +kernel
theorem dX6_member_79 : decode cX6_member 79 = .ok (.lastore, 1) := by decide +kernel
theorem dX6_member_80 : decode cX6_member 80 = .ok (.iinc 3 1, 3) := by decide +kernel
theorem dX6_member_83 : decode cX6_member 83 = .ok (.goto (-20), 3) := by decide +kernel
theorem dX6_member_86 : decode cX6_member 86 = .ok (.aload_n 0, 1) := by decide +kernel
theorem dX6_member_87 : decode cX6_member 87 = .ok (.getfield 7, 3) := by decide +kernel
theorem dX6_member_90 : decode cX6_member 90 = .ok (.iload_n 2, 1) := by decide +kernel
theorem dX6_member_91 : decode cX6_member 91 = .ok (.iconst 0, 1) := by decide +kernel
theorem dX6_member_92 : decode cX6_member 92 = .ok (.invokestatic 63, 3) := by decide +kernel
theorem dX6_member_95 : decode cX6_member 95 = .ok (.iload_n 1, 1) := by decide +kernel
theorem dX6_member_96 : decode cX6_member 96 = .ok (.i2l, 1) := by decide +kernel
theorem dX6_member_97 : decode cX6_member 97 = .ok (.lastore, 1) := by decide +kernel
theorem dX6_member_98 : decode cX6_member 98 = .ok (.aload_n 0, 1) := by decide +kernel
theorem dX6_member_99 : decode cX6_member 99 = .ok (.getfield 7, 3) := by decide +kernel
theorem dX6_member_102 : decode cX6_member 102 = .ok (.iload_n 2, 1) := by decide +kernel
theorem dX6_member_103 : decode cX6_member 103 = .ok (.iconst 3, 1) := by decide +kernel
theorem dX6_member_104 : decode cX6_member 104 = .ok (.invokestatic 63, 3) := by decide +kernel
theorem dX6_member_107 : decode cX6_member 107 = .ok (.ldc2_w 59, 3) := by decide +kernel
theorem dX6_member_110 : decode cX6_member 110 = .ok (.lastore, 1) := by decide +kernel
theorem dX6_member_111 : decode cX6_member 111 = .ok (.aload_n 0, 1) := by decide +kernel
theorem dX6_member_112 : decode cX6_member 112 = .ok (.getfield 7, 3) := by decide +kernel
theorem dX6_member_115 : decode cX6_member 115 = .ok (.sipush 5668, 3) := by decide +kernel
theorem dX6_member_118 : decode cX6_member 118 = .ok (.dup2, 1) := by decide +kernel
theorem dX6_member_119 : decode cX6_member 119 = .ok (.laload, 1) := by decide +kernel
theorem dX6_member_120 : decode cX6_member 120 = .ok (.lconst 1, 1) := by decide +kernel
theorem dX6_member_121 : decode cX6_member 121 = .ok (.ladd, 1) := by decide +kernel
theorem dX6_member_122 : decode cX6_member 122 = .ok (.lastore, 1) := by decide +kernel
theorem dX6_member_123 : decode cX6_member 123 = .ok (.iload_n 2, 1) := by decide +kernel
theorem dX6_member_124 : decode cX6_member 124 = .ok (.i2l, 1) := by decide +kernel
theorem dX6_member_125 : decode cX6_member 125 = .ok (.lreturn, 1) := by decide +kernel
theorem dX6_heir_0 : decode cX6_heir 0 = .ok (.aload_n 0, 1) := by decide +kernel
theorem dX6_heir_1 : decode cX6_heir 1 = .ok (.iload_n 1, 1) := by decide +kernel
theorem dX6_heir_2 : decode cX6_heir 2 = .ok (.invokevirtual 66, 3) := by decide +kernel
theorem dX6_heir_5 : decode cX6_heir 5 = .ok (.ifCond .eq 21, 3) := by decide +kernel
theorem dX6_heir_8 : decode cX6_heir 8 = .ok (.iload_n 2, 1) := by decide +kernel
theorem dX6_heir_9 : decode cX6_heir 9 = .ok (.iconst (-1), 1) := by decide +kernel
theorem dX6_heir_10 : decode cX6_heir 10 = .ok (.if_icmp .eq 20, 3) := by decide +kernel
theorem dX6_heir_13 : decode cX6_heir 13 = .ok (.aload_n 0, 1) := by decide +kernel
theorem dX6_heir_14 : decode cX6_heir 14 = .ok (.iload_n 2, 1) := by decide +kernel
theorem dX6_heir_15 : decode cX6_heir 15 = .ok (.invokevirtual 66, 3) := by decide +kernel
theorem dX6_heir_18 : decode cX6_heir 18 = .ok (.ifCond .eq 8, 3) := by decide +kernel
theorem dX6_heir_21 : decode cX6_heir 21 = .ok (.iload_n 2, 1) := by decide +kernel
theorem dX6_heir_22 : decode cX6_heir 22 = .ok (.iload_n 1, 1) := by decide +kernel
theorem dX6_heir_23 : decode cX6_heir 23 = .ok (.if_icmp .ne 7, 3) := by decide +kernel
theorem dX6_heir_26 : decode cX6_heir 26 = .ok (.ldc2_w 41, 3) := by decide +kernel
theorem dX6_heir_29 : decode cX6_heir 29 = .ok (.lreturn, 1) := by decide +kernel
theorem dX6_heir_30 : decode cX6_heir 30 = .ok (.aload_n 0, 1) := by decide +kernel
theorem dX6_heir_31 : decode cX6_heir 31 = .ok (.getfield 7, 3) := by decide +kernel
theorem dX6_heir_34 : decode cX6_heir 34 = .ok (.iload_n 1, 1) := by decide +kernel
theorem dX6_heir_35 : decode cX6_heir 35 = .ok (.iconst 3, 1) := by decide +kernel
theorem dX6_heir_36 : decode cX6_heir 36 = .ok (.invokestatic 63, 3) := by decide +kernel
theorem dX6_heir_39 : decode cX6_heir 39 = .ok (.laload, 1) := by decide +kernel
theorem dX6_heir_40 : decode cX6_heir 40 = .ok (.lstore_n 3, 1) := by decide +kernel
theorem dX6_heir_41 : decode cX6_heir 41 = .ok (.aload_n 0, 1) := by decide +kernel
theorem dX6_heir_42 : decode cX6_heir 42 = .ok (.getfield 7, 3) := by decide +kernel
theorem dX6_heir_45 : decode cX6_heir 45 = .ok (.iload_n 1, 1) := by decide +kernel
theorem dX6_heir_46 : decode cX6_heir 46 = .ok (.iconst 3, 1) := by decide +kernel
theorem dX6_heir_47 : decode cX6_heir 47 = .ok (.invokestatic 63, 3) := by decide +kernel
theorem dX6_heir_50 : decode cX6_heir 50 = .ok (.iload_n 2, 1) := by decide +kernel
theorem dX6_heir_51 : decode cX6_heir 51 = .ok (.i2l, 1) := by decide +kernel
theorem dX6_heir_52 : decode cX6_heir 52 = .ok (.lastore, 1) := by decide +kernel
theorem dX6_heir_53 : decode cX6_heir 53 = .ok (.lload_n 3, 1) := by decide +kernel
theorem dX6_heir_54 : decode cX6_heir 54 = .ok (.lreturn, 1) := by decide +kernel
theorem dX6_group_0 : decode cX6_group 0 = .ok (.iload_n 1, 1) := by decide +kernel
theorem dX6_group_1 : decode cX6_group 1 = .ok (.i2l, 1) := by decide +kernel
theorem dX6_group_2 : decode cX6_group 2 = .ok (.lconst 0, 1) := by decide +kernel
theorem dX6_group_3 : decode cX6_group 3 = .ok (.ldc2_w 39, 3) := by decide +kernel
theorem dX6_group_6 : decode cX6_group 6 = .ok (.invokestatic 35, 3) := by decide +kernel
theorem dX6_group_9 : decode cX6_group 9 = .ok (.ifCond .eq 47, 3) := by decide +kernel
theorem dX6_group_12 : decode cX6_group 12 = .ok (.iload_n 2, 1) := by decide +kernel
theorem dX6_group_13 : decode cX6_group 13 = .ok (.i2l, 1) := by decide +kernel
theorem dX6_group_14 : decode cX6_group 14 = .ok (.lconst 0, 1) := by decide +kernel
theorem dX6_group_15 : decode cX6_group 15 = .ok (.ldc2_w 39, 3) := by decide +kernel
theorem dX6_group_18 : decode cX6_group 18 = .ok (.invokestatic 35, 3) := by decide +kernel
theorem dX6_group_21 : decode cX6_group 21 = .ok (.ifCond .eq 35, 3) := by decide +kernel
theorem dX6_group_24 : decode cX6_group 24 = .ok (.iload_n 1, 1) := by decide +kernel
theorem dX6_group_25 : decode cX6_group 25 = .ok (.iload_n 2, 1) := by decide +kernel
theorem dX6_group_26 : decode cX6_group 26 = .ok (.if_icmp .gt 30, 3) := by decide +kernel
theorem dX6_group_29 : decode cX6_group 29 = .ok (.iload_n 3, 1) := by decide +kernel
theorem dX6_group_30 : decode cX6_group 30 = .ok (.i2l, 1) := by decide +kernel
theorem dX6_group_31 : decode cX6_group 31 = .ok (.lconst 1, 1) := by decide +kernel
theorem dX6_group_32 : decode cX6_group 32 = .ok (.ldc2_w 69, 3) := by decide +kernel
theorem dX6_group_35 : decode cX6_group 35 = .ok (.invokestatic 35, 3) := by decide +kernel
theorem dX6_group_38 : decode cX6_group 38 = .ok (.ifCond .eq 18, 3) := by decide +kernel
theorem dX6_group_41 : decode cX6_group 41 = .ok (.aload_n 0, 1) := by decide +kernel
theorem dX6_group_42 : decode cX6_group 42 = .ok (.getfield 7, 3) := by decide +kernel
theorem dX6_group_45 : decode cX6_group 45 = .ok (.sipush 5669, 3) := by decide +kernel
theorem dX6_group_48 : decode cX6_group 48 = .ok (.laload, 1) := by decide +kernel
theorem dX6_group_49 : decode cX6_group 49 = .ok (.ldc2_w 71, 3) := by decide +kernel
theorem dX6_group_52 : decode cX6_group 52 = .ok (.lcmp, 1) := by decide +kernel
theorem dX6_group_53 : decode cX6_group 53 = .ok (.ifCond .ne 7, 3) := by decide +kernel
theorem dX6_group_56 : decode cX6_group 56 = .ok (.ldc2_w 41, 3) := by decide +kernel
theorem dX6_group_59 : decode cX6_group 59 = .ok (.lreturn, 1) := by decide +kernel
theorem dX6_group_60 : decode cX6_group 60 = .ok (.aload_n 0, 1) := by decide +kernel
theorem dX6_group_61 : decode cX6_group 61 = .ok (.getfield 7, 3) := by decide +kernel
theorem dX6_group_64 : decode cX6_group 64 = .ok (.sipush 5669, 3) := by decide +kernel
theorem dX6_group_67 : decode cX6_group 67 = .ok (.laload, 1) := by decide +kernel
theorem dX6_group_68 : decode cX6_group 68 = .ok (.l2i, 1) := by decide +kernel
theorem dX6_group_69 : decode cX6_group 69 = .ok (.istore 4, 2) := by decide +kernel
theorem dX6_group_71 : decode cX6_group 71 = .ok (.aload_n 0, 1) := by decide +kernel
theorem dX6_group_72 : decode cX6_group 72 = .ok (.getfield 7, 3) := by decide +kernel
theorem dX6_group_75 : decode cX6_group 75 = .ok (.iload 4, 2) := by decide +kernel
theorem dX6_group_77 : decode cX6_group 77 = .ok (.iconst 0, 1) := by decide +kernel
theorem dX6_group_78 : decode cX6_group 78 = .ok (.invokestatic 55, 3) := by decide +kernel
theorem dX6_group_81 : decode cX6_group 81 = .ok (.iload_n 1, 1) := by decide +kernel
theorem dX6_group_82 : decode cX6_group 82 = .ok (.i2l, 1) := by decide +kernel
theorem dX6_group_83 : decode cX6_group 83 = .ok (.lastore, 1) := by decide +kernel
theorem dX6_group_84 : decode cX6_group 84 = .ok (.aload_n 0, 1) := by decide +kernel
theorem dX6_group_85 : decode cX6_group 85 = .ok (.getfield 7, 3) := by decide +kernel
theorem dX6_group_88 : decode cX6_group 88 = .ok (.iload 4, 2) := by decide +kernel
theorem dX6_group_90 : decode cX6_group 90 = .ok (.iconst 1, 1) := by decide +kernel
theorem dX6_group_91 : decode cX6_group 91 = .ok (.invokestatic 55, 3) := by decide +kernel
theorem dX6_group_94 : decode cX6_group 94 = .ok (.iload_n 2, 1) := by decide +kernel
theorem dX6_group_95 : decode cX6_group 95 = .ok (.i2l, 1) := by decide +kernel
theorem dX6_group_96 : decode cX6_group 96 = .ok (.lastore, 1) := by decide +kernel
theorem dX6_group_97 : decode cX6_group 97 = .ok (.aload_n 0, 1) := by decide +kernel
theorem dX6_group_98 : decode cX6_group 98 = .ok (.getfield 7, 3) := by decide +kernel
theorem dX6_group_101 : decode cX6_group 101 = .ok (.iload 4, 2) := by decide +kernel
theorem dX6_group_103 : decode cX6_group 103 = .ok (.iconst 2, 1) := by decide +kernel
theorem dX6_group_104 : decode cX6_group 104 = .ok (.invokestatic 55, 3) := by decide +kernel
theorem dX6_group_107 : decode cX6_group 107 = .ok (.iload_n 3, 1) := by decide +kernel
theorem dX6_group_108 : decode cX6_group 108 = .ok (.i2l, 1) := by decide +kernel
theorem dX6_group_109 : decode cX6_group 109 = .ok (.lastore, 1) := by decide +kernel
theorem dX6_group_110 : decode cX6_group 110 = .ok (.aload_n 0, 1) := by decide +kernel
theorem dX6_group_111 : decode cX6_group 111 = .ok (.getfield 7, 3) := by decide +kernel
theorem dX6_group_114 : decode cX6_group 114 = .ok (.iload 4, 2) := by decide +kernel
theorem dX6_group_116 : decode cX6_group 116 = .ok (.iconst 3, 1) := by decide +kernel
theorem dX6_group_117 : decode cX6_group 117 = .ok (.invokestatic 55, 3) := by decide +kernel
theorem dX6_group_120 : decode cX6_group 120 = .ok (.lconst 0, 1) := by decide +kernel
theorem dX6_group_121 : decode cX6_group 121 = .ok (.lastore, 1) := by decide +kernel
theorem dX6_group_122 : decode cX6_group 122 = .ok (.aload_n 0, 1) := by decide +kernel
theorem dX6_group_123 : decode cX6_group 123 = .ok (.getfield 7, 3) := by decide +kernel
theorem dX6_group_126 : decode cX6_group 126 = .ok (.sipush 5669, 3) := by decide +kernel
theorem dX6_group_129 : decode cX6_group 129 = .ok (.dup2, 1) := by decide +kernel
theorem dX6_group_130 : decode cX6_group 130 = .ok (.laload, 1) := by decide +kernel
theorem dX6_group_131 : decode cX6_group 131 = .ok (.lconst 1, 1) := by decide +kernel
theorem dX6_group_132 : decode cX6_group 132 = .ok (.ladd, 1) := by decide +kernel
theorem dX6_group_133 : decode cX6_group 133 = .ok (.lastore, 1) := by decide +kernel
theorem dX6_group_134 : decode cX6_group 134 = .ok (.iload 4, 2) := by decide +kernel
theorem dX6_group_136 : decode cX6_group 136 = .ok (.i2l, 1) := by decide +kernel
theorem dX6_group_137 : decode cX6_group 137 = .ok (.lreturn, 1) := by decide +kernel
theorem dX6_set_0 : decode cX6_set 0 = .ok (.iload_n 1, 1) := by decide +kernel
theorem dX6_set_1 : decode cX6_set 1 = .ok (.ifCond .ne 15, 3) := by decide +kernel
theorem dX6_set_4 : decode cX6_set 4 = .ok (.iload_n 2, 1) := by decide +kernel
theorem dX6_set_5 : decode cX6_set 5 = .ok (.i2l, 1) := by decide +kernel
theorem dX6_set_6 : decode cX6_set 6 = .ok (.lconst 1, 1) := by decide +kernel
theorem dX6_set_7 : decode cX6_set 7 = .ok (.ldc2_w 73, 3) := by decide +kernel
theorem dX6_set_10 : decode cX6_set 10 = .ok (.invokestatic 35, 3) := by decide +kernel
theorem dX6_set_13 : decode cX6_set 13 = .ok (.ifCond .ne 20, 3) := by decide +kernel
theorem dX6_set_16 : decode cX6_set 16 = .ok (.iload_n 1, 1) := by decide +kernel
theorem dX6_set_17 : decode cX6_set 17 = .ok (.iconst 1, 1) := by decide +kernel
theorem dX6_set_18 : decode cX6_set 18 = .ok (.if_icmp .ne 48, 3) := by decide +kernel
theorem dX6_set_21 : decode cX6_set 21 = .ok (.iload_n 2, 1) := by decide +kernel
theorem dX6_set_22 : decode cX6_set 22 = .ok (.i2l, 1) := by decide +kernel
theorem dX6_set_23 : decode cX6_set 23 = .ok (.lconst 0, 1) := by decide +kernel
theorem dX6_set_24 : decode cX6_set 24 = .ok (.ldc2_w 45, 3) := by decide +kernel
theorem dX6_set_27 : decode cX6_set 27 = .ok (.invokestatic 35, 3) := by decide +kernel
theorem dX6_set_30 : decode cX6_set 30 = .ok (.ifCond .eq 36, 3) := by decide +kernel
theorem dX6_set_33 : decode cX6_set 33 = .ok (.iload_n 1, 1) := by decide +kernel
theorem dX6_set_34 : decode cX6_set 34 = .ok (.ifCond .ne 9, 3) := by decide +kernel
theorem dX6_set_37 : decode cX6_set 37 = .ok (.sipush 5666, 3) := by decide +kernel
theorem dX6_set_40 : decode cX6_set 40 = .ok (.goto 6, 3) := by decide +kernel
theorem dX6_set_43 : decode cX6_set 43 = .ok (.sipush 5667, 3) := by decide +kernel
theorem dX6_set_46 : decode cX6_set 46 = .ok (.istore_n 3, 1) := by decide +kernel
theorem dX6_set_47 : decode cX6_set 47 = .ok (.aload_n 0, 1) := by decide +kernel
theorem dX6_set_48 : decode cX6_set 48 = .ok (.getfield 7, 3) := by decide +kernel
theorem dX6_set_51 : decode cX6_set 51 = .ok (.iload_n 3, 1) := by decide +kernel
theorem dX6_set_52 : decode cX6_set 52 = .ok (.laload, 1) := by decide +kernel
theorem dX6_set_53 : decode cX6_set 53 = .ok (.lstore 4, 2) := by decide +kernel
theorem dX6_set_55 : decode cX6_set 55 = .ok (.aload_n 0, 1) := by decide +kernel
theorem dX6_set_56 : decode cX6_set 56 = .ok (.getfield 7, 3) := by decide +kernel
theorem dX6_set_59 : decode cX6_set 59 = .ok (.iload_n 3, 1) := by decide +kernel
theorem dX6_set_60 : decode cX6_set 60 = .ok (.iload_n 2, 1) := by decide +kernel
theorem dX6_set_61 : decode cX6_set 61 = .ok (.i2l, 1) := by decide +kernel
theorem dX6_set_62 : decode cX6_set 62 = .ok (.lastore, 1) := by decide +kernel
theorem dX6_set_63 : decode cX6_set 63 = .ok (.lload 4, 2) := by decide +kernel
theorem dX6_set_65 : decode cX6_set 65 = .ok (.lreturn, 1) := by decide +kernel
theorem dX6_set_66 : decode cX6_set 66 = .ok (.ldc2_w 41, 3) := by decide +kernel
theorem dX6_set_69 : decode cX6_set 69 = .ok (.lreturn, 1) := by decide +kernel
theorem dX6_isDead_0 : decode cX6_isDead 0 = .ok (.aload_n 0, 1) := by decide +kernel
theorem dX6_isDead_1 : decode cX6_isDead 1 = .ok (.getfield 7, 3) := by decide +kernel
theorem dX6_isDead_4 : decode cX6_isDead 4 = .ok (.lload_n 1, 1) := by decide +kernel
theorem dX6_isDead_5 : decode cX6_isDead 5 = .ok (.l2i, 1) := by decide +kernel
theorem dX6_isDead_6 : decode cX6_isDead 6 = .ok (.iconst 5, 1) := by decide +kernel
theorem dX6_isDead_7 : decode cX6_isDead 7 = .ok (.invokestatic 63, 3) := by decide +kernel
theorem dX6_isDead_10 : decode cX6_isDead 10 = .ok (.laload, 1) := by decide +kernel
theorem dX6_isDead_11 : decode cX6_isDead 11 = .ok (.lconst 1, 1) := by decide +kernel
theorem dX6_isDead_12 : decode cX6_isDead 12 = .ok (.lcmp, 1) := by decide +kernel
theorem dX6_isDead_13 : decode cX6_isDead 13 = .ok (.ifCond .ne 7, 3) := by decide +kernel
theorem dX6_isDead_16 : decode cX6_isDead 16 = .ok (.iconst 1, 1) := by decide +kernel
theorem dX6_isDead_17 : decode cX6_isDead 17 = .ok (.goto 4, 3) := by decide +kernel
theorem dX6_isDead_20 : decode cX6_isDead 20 = .ok (.iconst 0, 1) := by decide +kernel
theorem dX6_isDead_21 : decode cX6_isDead 21 = .ok (.ireturn, 1) := by decide +kernel
theorem dX6_classFor_0 : decode cX6_classFor 0 = .ok (.iconst 0, 1) := by decide +kernel
theorem dX6_classFor_1 : decode cX6_classFor 1 = .ok (.istore_n 3, 1) := by decide +kernel
theorem dX6_classFor_2 : decode cX6_classFor 2 = .ok (.iload_n 3, 1) := by decide +kernel
theorem dX6_classFor_3 : decode cX6_classFor 3 = .ok (.i2l, 1) := by decide +kernel
theorem dX6_classFor_4 : decode cX6_classFor 4 = .ok (.aload_n 0, 1) := by decide +kernel
theorem dX6_classFor_5 : decode cX6_classFor 5 = .ok (.getfield 7, 3) := by decide +kernel
theorem dX6_classFor_8 : decode cX6_classFor 8 = .ok (.sipush 5669, 3) := by decide +kernel
theorem dX6_classFor_11 : decode cX6_classFor 11 = .ok (.laload, 1) := by decide +kernel
theorem dX6_classFor_12 : decode cX6_classFor 12 = .ok (.lcmp, 1) := by decide +kernel
theorem dX6_classFor_13 : decode cX6_classFor 13 = .ok (.ifCond .ge 38, 3) := by decide +kernel
theorem dX6_classFor_16 : decode cX6_classFor 16 = .ok (.lload_n 1, 1) := by decide +kernel
theorem dX6_classFor_17 : decode cX6_classFor 17 = .ok (.aload_n 0, 1) := by decide +kernel
theorem dX6_classFor_18 : decode cX6_classFor 18 = .ok (.getfield 7, 3) := by decide +kernel
theorem dX6_classFor_21 : decode cX6_classFor 21 = .ok (.iload_n 3, 1) := by decide +kernel
theorem dX6_classFor_22 : decode cX6_classFor 22 = .ok (.iconst 0, 1) := by decide +kernel
theorem dX6_classFor_23 : decode cX6_classFor 23 = .ok (.invokestatic 55, 3) := by decide +kernel
theorem dX6_classFor_26 : decode cX6_classFor 26 = .ok (.laload, 1) := by decide +kernel
theorem dX6_classFor_27 : decode cX6_classFor 27 = .ok (.aload_n 0, 1) := by decide +kernel
theorem dX6_classFor_28 : decode cX6_classFor 28 = .ok (.getfield 7, 3) := by decide +kernel
theorem dX6_classFor_31 : decode cX6_classFor 31 = .ok (.iload_n 3, 1) := by decide +kernel
theorem dX6_classFor_32 : decode cX6_classFor 32 = .ok (.iconst 1, 1) := by decide +kernel
theorem dX6_classFor_33 : decode cX6_classFor 33 = .ok (.invokestatic 55, 3) := by decide +kernel
theorem dX6_classFor_36 : decode cX6_classFor 36 = .ok (.laload, 1) := by decide +kernel
theorem dX6_classFor_37 : decode cX6_classFor 37 = .ok (.invokestatic 35, 3) := by decide +kernel
theorem dX6_classFor_40 : decode cX6_classFor 40 = .ok (.ifCond .eq 5, 3) := by decide +kernel
theorem dX6_classFor_43 : decode cX6_classFor 43 = .ok (.iload_n 3, 1) := by decide +kernel
theorem dX6_classFor_44 : decode cX6_classFor 44 = .ok (.ireturn, 1) := by decide +kernel
theorem dX6_classFor_45 : decode cX6_classFor 45 = .ok (.iinc 3 1, 3) := by decide +kernel
theorem dX6_classFor_48 : decode cX6_classFor 48 = .ok (.goto (-46), 3) := by decide +kernel
theorem dX6_classFor_51 : decode cX6_classFor 51 = .ok (.iconst (-1), 1) := by decide +kernel
theorem dX6_classFor_52 : decode cX6_classFor 52 = .ok (.ireturn, 1) := by decide +kernel
theorem dX6_buy_0 : decode cX6_buy 0 = .ok (.aload_n 0, 1) := by decide +kernel
theorem dX6_buy_1 : decode cX6_buy 1 = .ok (.iload_n 1, 1) := by decide +kernel
theorem dX6_buy_2 : decode cX6_buy 2 = .ok (.invokevirtual 66, 3) := by decide +kernel
theorem dX6_buy_5 : decode cX6_buy 5 = .ok (.ifCond .eq 46, 3) := by decide +kernel
theorem dX6_buy_8 : decode cX6_buy 8 = .ok (.aload_n 0, 1) := by decide +kernel
theorem dX6_buy_9 : decode cX6_buy 9 = .ok (.iload_n 2, 1) := by decide +kernel
theorem dX6_buy_10 : decode cX6_buy 10 = .ok (.invokevirtual 66, 3) := by decide +kernel
theorem dX6_buy_13 : decode cX6_buy 13 = .ok (.ifCond .eq 38, 3) := by decide +kernel
theorem dX6_buy_16 : decode cX6_buy 16 = .ok (.aload_n 0, 1) := by decide +kernel
theorem dX6_buy_17 : decode cX6_buy 17 = .ok (.iload_n 2, 1) := by decide +kernel
theorem dX6_buy_18 : decode cX6_buy 18 = .ok (.i2l, 1) := by decide +kernel
theorem dX6_buy_19 : decode cX6_buy 19 = .ok (.invokevirtual 75, 3) := by decide +kernel
theorem dX6_buy_22 : decode cX6_buy 22 = .ok (.ifCond .ne 29, 3) := by decide +kernel
theorem dX6_buy_25 : decode cX6_buy 25 = .ok (.iload 5, 2) := by decide +kernel
theorem dX6_buy_27 : decode cX6_buy 27 = .ok (.i2l, 1) := by decide +kernel
theorem dX6_buy_28 : decode cX6_buy 28 = .ok (.lconst 0, 1) := by decide +kernel
theorem dX6_buy_29 : decode cX6_buy 29 = .ok (.ldc2_w 79, 3) := by decide +kernel
theorem dX6_buy_32 : decode cX6_buy 32 = .ok (.invokestatic 35, 3) := by decide +kernel
theorem dX6_buy_35 : decode cX6_buy 35 = .ok (.ifCond .eq 16, 3) := by decide +kernel
theorem dX6_buy_38 : decode cX6_buy 38 = .ok (.iload 4, 2) := by decide +kernel
theorem dX6_buy_40 : decode cX6_buy 40 = .ok (.i2l, 1) := by decide +kernel
theorem dX6_buy_41 : decode cX6_buy 41 = .ok (.lconst 1, 1) := by decide +kernel
theorem dX6_buy_42 : decode cX6_buy 42 = .ok (.ldc2_w 45, 3) := by decide +kernel
theorem dX6_buy_45 : decode cX6_buy 45 = .ok (.invokestatic 35, 3) := by decide +kernel
theorem dX6_buy_48 : decode cX6_buy 48 = .ok (.ifCond .ne 7, 3) := by decide +kernel
theorem dX6_buy_51 : decode cX6_buy 51 = .ok (.ldc2_w 41, 3) := by decide +kernel
theorem dX6_buy_54 : decode cX6_buy 54 = .ok (.lreturn, 1) := by decide +kernel
theorem dX6_buy_55 : decode cX6_buy 55 = .ok (.iload 5, 2) := by decide +kernel
theorem dX6_buy_57 : decode cX6_buy 57 = .ok (.iconst 1, 1) := by decide +kernel
theorem dX6_buy_58 : decode cX6_buy 58 = .ok (.if_icmp .ne 25, 3) := by decide +kernel
theorem dX6_buy_61 : decode cX6_buy 61 = .ok (.aload_n 0, 1) := by decide +kernel
theorem dX6_buy_62 : decode cX6_buy 62 = .ok (.iload_n 3, 1) := by decide +kernel
theorem dX6_buy_63 : decode cX6_buy 63 = .ok (.invokevirtual 66, 3) := by decide +kernel
theorem dX6_buy_66 : decode cX6_buy 66 = .ok (.ifCond .eq 36, 3) := by decide +kernel
theorem dX6_buy_69 : decode cX6_buy 69 = .ok (.iload_n 3, 1) := by decide +kernel
theorem dX6_buy_70 : decode cX6_buy 70 = .ok (.iload_n 2, 1) := by decide +kernel
theorem dX6_buy_71 : decode cX6_buy 71 = .ok (.if_icmp .eq 31, 3) := by decide +kernel
theorem dX6_buy_74 : decode cX6_buy 74 = .ok (.aload_n 0, 1) := by decide +kernel
theorem dX6_buy_75 : decode cX6_buy 75 = .ok (.iload_n 3, 1) := by decide +kernel
theorem dX6_buy_76 : decode cX6_buy 76 = .ok (.i2l, 1) := by decide +kernel
theorem dX6_buy_77 : decode cX6_buy 77 = .ok (.invokevirtual 75, 3) := by decide +kernel
theorem dX6_buy_80 : decode cX6_buy 80 = .ok (.ifCond .ne 22, 3) := by decide +kernel
theorem dX6_buy_83 : decode cX6_buy 83 = .ok (.iload 5, 2) := by decide +kernel
theorem dX6_buy_85 : decode cX6_buy 85 = .ok (.iconst 1, 1) := by decide +kernel
theorem dX6_buy_86 : decode cX6_buy 86 = .ok (.if_icmp .le 20, 3) := by decide +kernel
theorem dX6_buy_89 : decode cX6_buy 89 = .ok (.iload 6, 2) := by decide +kernel
theorem dX6_buy_91 : decode cX6_buy 91 = .ok (.i2l, 1) := by decide +kernel
theorem dX6_buy_92 : decode cX6_buy 92 = .ok (.lconst 1, 1) := by decide +kernel
theorem dX6_buy_93 : decode cX6_buy 93 = .ok (.ldc2_w 81, 3) := by decide +kernel
theorem dX6_buy_96 : decode cX6_buy 96 = .ok (.invokestatic 35, 3) := by decide +kernel
theorem dX6_buy_99 : decode cX6_buy 99 = .ok (.ifCond .ne 7, 3) := by decide +kernel
theorem dX6_buy_102 : decode cX6_buy 102 = .ok (.ldc2_w 41, 3) := by decide +kernel
theorem dX6_buy_105 : decode cX6_buy 105 = .ok (.lreturn, 1) := by decide +kernel
theorem dX6_buy_106 : decode cX6_buy 106 = .ok (.aload_n 0, 1) := by decide +kernel
theorem dX6_buy_107 : decode cX6_buy 107 = .ok (.getfield 7, 3) := by decide +kernel
theorem dX6_buy_110 : decode cX6_buy 110 = .ok (.iload_n 2, 1) := by decide +kernel
theorem dX6_buy_111 : decode cX6_buy 111 = .ok (.iconst 0, 1) := by decide +kernel
theorem dX6_buy_112 : decode cX6_buy 112 = .ok (.invokestatic 63, 3) := by decide +kernel
theorem dX6_buy_115 : decode cX6_buy 115 = .ok (.laload, 1) := by decide +kernel
theorem dX6_buy_116 : decode cX6_buy 116 = .ok (.lstore 7, 2) := by decide +kernel
theorem dX6_buy_118 : decode cX6_buy 118 = .ok (.iload 5, 2) := by decide +kernel
theorem dX6_buy_120 : decode cX6_buy 120 = .ok (.iconst 1, 1) := by decide +kernel
theorem dX6_buy_121 : decode cX6_buy 121 = .ok (.if_icmp .ne 31, 3) := by decide +kernel
theorem dX6_buy_124 : decode cX6_buy 124 = .ok (.aload_n 0, 1) := by decide +kernel
theorem dX6_buy_125 : decode cX6_buy 125 = .ok (.getfield 7, 3) := by decide +kernel
theorem dX6_buy_128 : decode cX6_buy 128 = .ok (.iload_n 3, 1) := by decide +kernel
theorem dX6_buy_129 : decode cX6_buy 129 = .ok (.iconst 0, 1) := by decide +kernel
theorem dX6_buy_130 : decode cX6_buy 130 = .ok (.invokestatic 63, 3) := by decide +kernel
theorem dX6_buy_133 : decode cX6_buy 133 = .ok (.laload, 1) := by decide +kernel
theorem dX6_buy_134 : decode cX6_buy 134 = .ok (.lload 7, 2) := by decide +kernel
theorem dX6_buy_136 : decode cX6_buy 136 = .ok (.lcmp, 1) := by decide +kernel
theorem dX6_buy_137 : decode cX6_buy 137 = .ok (.ifCond .le 15, 3) := by decide +kernel
theorem dX6_buy_140 : decode cX6_buy 140 = .ok (.aload_n 0, 1) := by decide +kernel
theorem dX6_buy_141 : decode cX6_buy 141 = .ok (.getfield 7, 3) := by decide +kernel
theorem dX6_buy_144 : decode cX6_buy 144 = .ok (.iload_n 3, 1) := by decide +kernel
theorem dX6_buy_145 : decode cX6_buy 145 = .ok (.iconst 0, 1) := by decide +kernel
theorem dX6_buy_146 : decode cX6_buy 146 = .ok (.invokestatic 63, 3) := by decide +kernel
theorem dX6_buy_149 : decode cX6_buy 149 = .ok (.laload, 1) := by decide +kernel
theorem dX6_buy_150 : decode cX6_buy 150 = .ok (.lstore 7, 2) := by decide +kernel
theorem dX6_buy_152 : decode cX6_buy 152 = .ok (.aload_n 0, 1) := by decide +kernel
theorem dX6_buy_153 : decode cX6_buy 153 = .ok (.aload_n 0, 1) := by decide +kernel
theorem dX6_buy_154 : decode cX6_buy 154 = .ok (.getfield 7, 3) := by decide +kernel
theorem dX6_buy_157 : decode cX6_buy 157 = .ok (.sipush 5663, 3) := by decide +kernel
theorem dX6_buy_160 : decode cX6_buy 160 = .ok (.laload, 1) := by decide +kernel
theorem dX6_buy_161 : decode cX6_buy 161 = .ok (.lload 7, 2) := by decide +kernel
theorem dX6_buy_163 : decode cX6_buy 163 = .ok (.lsub, 1) := by decide +kernel
theorem dX6_buy_164 : decode cX6_buy 164 = .ok (.invokevirtual 83, 3) := by decide +kernel
theorem dX6_buy_167 : decode cX6_buy 167 = .ok (.istore 9, 2) := by decide +kernel
theorem dX6_buy_169 : decode cX6_buy 169 = .ok (.iload 9, 2) := by decide +kernel
theorem dX6_buy_171 : decode cX6_buy 171 = .ok (.ifCond .lt 18, 3) := by decide +kernel
theorem dX6_buy_174 : decode cX6_buy 174 = .ok (.aload_n 0, 1) := by decide +kernel
theorem dX6_buy_175 : decode cX6_buy 175 = .ok (.getfield 7, 3) := by decide +kernel
theorem dX6_buy_178 : decode cX6_buy 178 = .ok (.sipush 5670, 3) := by decide +kernel
theorem dX6_buy_181 : decode cX6_buy 181 = .ok (.laload, 1) := by decide +kernel
theorem dX6_buy_182 : decode cX6_buy 182 = .ok (.ldc2_w 87, 3) := by decide +kernel
theorem dX6_buy_185 : decode cX6_buy 185 = .ok (.lcmp, 1) := by decide +kernel
theorem dX6_buy_186 : decode cX6_buy 186 = .ok (.ifCond .ne 7, 3) := by decide +kernel
theorem dX6_buy_189 : decode cX6_buy 189 = .ok (.ldc2_w 41, 3) := by decide +kernel
theorem dX6_buy_192 : decode cX6_buy 192 = .ok (.lreturn, 1) := by decide +kernel
theorem dX6_buy_193 : decode cX6_buy 193 = .ok (.aload_n 0, 1) := by decide +kernel
theorem dX6_buy_194 : decode cX6_buy 194 = .ok (.getfield 7, 3) := by decide +kernel
theorem dX6_buy_197 : decode cX6_buy 197 = .ok (.sipush 5670, 3) := by decide +kernel
theorem dX6_buy_200 : decode cX6_buy 200 = .ok (.laload, 1) := by decide +kernel
theorem dX6_buy_201 : decode cX6_buy 201 = .ok (.l2i, 1) := by decide +kernel
theorem dX6_buy_202 : decode cX6_buy 202 = .ok (.istore 10, 2) := by decide +kernel
theorem dX6_buy_204 : decode cX6_buy 204 = .ok (.iconst 0, 1) := by decide +kernel
theorem dX6_buy_205 : decode cX6_buy 205 = .ok (.istore 11, 2) := by decide +kernel
theorem dX6_buy_207 : decode cX6_buy 207 = .ok (.iload 11, 2) := by decide +kernel
theorem dX6_buy_209 : decode cX6_buy 209 = .ok (.bipush 14, 2) := by decide +kernel
theorem dX6_buy_211 : decode cX6_buy 211 = .ok (.if_icmp .ge 22, 3) := by decide +kernel
theorem dX6_buy_214 : decode cX6_buy 214 = .ok (.aload_n 0, 1) := by decide +kernel
theorem dX6_buy_215 : decode cX6_buy 215 = .ok (.getfield 7, 3) := by decide +kernel
theorem dX6_buy_218 : decode cX6_buy 218 = .ok (.iload 10, 2) := by decide +kernel
theorem dX6_buy_220 : decode cX6_buy 220 = .ok (.iload 11, 2) := by decide +kernel
theorem dX6_buy_222 : decode cX6_buy 222 = .ok (.invokestatic 89, 3) := by decide +kernel
theorem dX6_buy_225 : decode cX6_buy 225 = .ok (.lconst 0, 1) := by decide +kernel
theorem dX6_buy_226 : decode cX6_buy 226 = .ok (.lastore, 1) := by decide +kernel
theorem dX6_buy_227 : decode cX6_buy 227 = .ok (.iinc 11 1, 3) := by decide +kernel
theorem dX6_buy_230 : decode cX6_buy 230 = .ok (.goto (-23), 3) := by decide +kernel
theorem dX6_buy_233 : decode cX6_buy 233 = .ok (.iconst 0, 1) := by decide +kernel
theorem dX6_buy_234 : decode cX6_buy 234 = .ok (.istore 11, 2) := by decide +kernel
theorem dX6_buy_236 : decode cX6_buy 236 = .ok (.iload 11, 2) := by decide +kernel
theorem dX6_buy_238 : decode cX6_buy 238 = .ok (.bipush 60, 2) := by decide +kernel
theorem dX6_buy_240 : decode cX6_buy 240 = .ok (.if_icmp .ge 45, 3) := by decide +kernel
theorem dX6_buy_243 : decode cX6_buy 243 = .ok (.aload_n 0, 1) := by decide +kernel
theorem dX6_buy_244 : decode cX6_buy 244 = .ok (.getfield 7, 3) := by decide +kernel
theorem dX6_buy_247 : decode cX6_buy 247 = .ok (.sipush 863, 3) := by decide +kernel
theorem dX6_buy_250 : decode cX6_buy 250 = .ok (.bipush 60, 2) := by decide +kernel
theorem dX6_buy_252 : decode cX6_buy 252 = .ok (.iload 10, 2) := by decide +kernel
theorem dX6_buy_254 : decode cX6_buy 254 = .ok (.imul, 1) := by decide +kernel
theorem dX6_buy_255 : decode cX6_buy 255 = .ok (.iadd, 1) := by decide +kernel
theorem dX6_buy_256 : decode cX6_buy 256 = .ok (.iload 11, 2) := by decide +kernel
theorem dX6_buy_258 : decode cX6_buy 258 = .ok (.iadd, 1) := by decide +kernel
theorem dX6_buy_259 : decode cX6_buy 259 = .ok (.lconst 0, 1) := by decide +kernel
theorem dX6_buy_260 : decode cX6_buy 260 = .ok (.lastore, 1) := by decide +kernel
theorem dX6_buy_261 : decode cX6_buy 261 = .ok (.aload_n 0, 1) := by decide +kernel
theorem dX6_buy_262 : decode cX6_buy 262 = .ok (.getfield 7, 3) := by decide +kernel
theorem dX6_buy_265 : decode cX6_buy 265 = .ok (.sipush 3263, 3) := by decide +kernel
theorem dX6_buy_268 : decode cX6_buy 268 = .ok (.bipush 60, 2) := by decide +kernel
theorem dX6_buy_270 : decode cX6_buy 270 = .ok (.iload 10, 2) := by decide +kernel
theorem dX6_buy_272 : decode cX6_buy 272 = .ok (.imul, 1) := by decide +kernel
theorem dX6_buy_273 : decode cX6_buy 273 = .ok (.iadd, 1) := by decide +kernel
theorem dX6_buy_274 : decode cX6_buy 274 = .ok (.iload 11, 2) := by decide +kernel
theorem dX6_buy_276 : decode cX6_buy 276 = .ok (.iadd, 1) := by decide +kernel
theorem dX6_buy_277 : decode cX6_buy 277 = .ok (.lconst 0, 1) := by decide +kernel
theorem dX6_buy_278 : decode cX6_buy 278 = .ok (.lastore, 1) := by decide +kernel
theorem dX6_buy_279 : decode cX6_buy 279 = .ok (.iinc 11 1, 3) := by decide +kernel
theorem dX6_buy_282 : decode cX6_buy 282 = .ok (.goto (-46), 3) := by decide +kernel
theorem dX6_buy_285 : decode cX6_buy 285 = .ok (.iload 4, 2) := by decide +kernel
theorem dX6_buy_287 : decode cX6_buy 287 = .ok (.i2l, 1) := by decide +kernel
theorem dX6_buy_288 : decode cX6_buy 288 = .ok (.aload_n 0, 1) := by decide +kernel
theorem dX6_buy_289 : decode cX6_buy 289 = .ok (.getfield 7, 3) := by decide +kernel
theorem dX6_buy_292 : decode cX6_buy 292 = .ok (.iload 9, 2) := by decide +kernel
theorem dX6_buy_294 : decode cX6_buy 294 = .ok (.iconst 2, 1) := by decide +kernel
theorem dX6_buy_295 : decode cX6_buy 295 = .ok (.invokestatic 55, 3) := by decide +kernel
theorem dX6_buy_298 : decode cX6_buy 298 = .ok (.laload, 1) := by decide +kernel
theorem dX6_buy_299 : decode cX6_buy 299 = .ok (.lmul, 1) := by decide +kernel
theorem dX6_buy_300 : decode cX6_buy 300 = .ok (.lstore 11, 2) := by decide +kernel
theorem dX6_buy_302 : decode cX6_buy 302 = .ok (.aload_n 0, 1) := by decide +kernel
theorem dX6_buy_303 : decode cX6_buy 303 = .ok (.getfield 7, 3) := by decide +kernel
theorem dX6_buy_306 : decode cX6_buy 306 = .ok (.iload 10, 2) := by decide +kernel
theorem dX6_buy_308 : decode cX6_buy 308 = .ok (.iconst 0, 1) := by decide +kernel
theorem dX6_buy_309 : decode cX6_buy 309 = .ok (.invokestatic 89, 3) := by decide +kernel
theorem dX6_buy_312 : decode cX6_buy 312 = .ok (.iload_n 1, 1) := by decide +kernel
theorem dX6_buy_313 : decode cX6_buy 313 = .ok (.i2l, 1) := by decide +kernel
theorem dX6_buy_314 : decode cX6_buy 314 = .ok (.lastore, 1) := by decide +kernel
theorem dX6_buy_315 : decode cX6_buy 315 = .ok (.aload_n 0, 1) := by decide +kernel
theorem dX6_buy_316 : decode cX6_buy 316 = .ok (.getfield 7, 3) := by decide +kernel
theorem dX6_buy_319 : decode cX6_buy 319 = .ok (.iload 10, 2) := by decide +kernel
theorem dX6_buy_321 : decode cX6_buy 321 = .ok (.iconst 1, 1) := by decide +kernel
theorem dX6_buy_322 : decode cX6_buy 322 = .ok (.invokestatic 89, 3) := by decide +kernel
theorem dX6_buy_325 : decode cX6_buy 325 = .ok (.iload_n 2, 1) := by decide +kernel
theorem dX6_buy_326 : decode cX6_buy 326 = .ok (.i2l, 1) := by decide +kernel
theorem dX6_buy_327 : decode cX6_buy 327 = .ok (.lastore, 1) := by decide +kernel
theorem dX6_buy_328 : decode cX6_buy 328 = .ok (.aload_n 0, 1) := by decide +kernel
theorem dX6_buy_329 : decode cX6_buy 329 = .ok (.getfield 7, 3) := by decide +kernel
theorem dX6_buy_332 : decode cX6_buy 332 = .ok (.iload 10, 2) := by decide +kernel
theorem dX6_buy_334 : decode cX6_buy 334 = .ok (.iconst 2, 1) := by decide +kernel
theorem dX6_buy_335 : decode cX6_buy 335 = .ok (.invokestatic 89, 3) := by decide +kernel
theorem dX6_buy_338 : decode cX6_buy 338 = .ok (.iload 5, 2) := by decide +kernel
theorem dX6_buy_340 : decode cX6_buy 340 = .ok (.iconst 1, 1) := by decide +kernel
theorem dX6_buy_341 : decode cX6_buy 341 = .ok (.if_icmp .ne 8, 3) := by decide +kernel
theorem dX6_buy_344 : decode cX6_buy 344 = .ok (.iload_n 3, 1) := by decide +kernel
theorem dX6_buy_345 : decode cX6_buy 345 = .ok (.i2l, 1) := by decide +kernel
theorem dX6_buy_346 : decode cX6_buy 346 = .ok (.goto 6, 3) := by decide +kernel
theorem dX6_buy_349 : decode cX6_buy 349 = .ok (.ldc2_w 59, 3) := by decide +kernel
theorem dX6_buy_352 : decode cX6_buy 352 = .ok (.lastore, 1) := by decide +kernel
theorem dX6_buy_353 : decode cX6_buy 353 = .ok (.aload_n 0, 1) := by decide +kernel
theorem dX6_buy_354 : decode cX6_buy 354 = .ok (.getfield 7, 3) := by decide +kernel
theorem dX6_buy_357 : decode cX6_buy 357 = .ok (.iload 10, 2) := by decide +kernel
theorem dX6_buy_359 : decode cX6_buy 359 = .ok (.iconst 3, 1) := by decide +kernel
theorem dX6_buy_360 : decode cX6_buy 360 = .ok (.invokestatic 89, 3) := by decide +kernel
theorem dX6_buy_363 : decode cX6_buy 363 = .ok (.iload 4, 2) := by decide +kernel
theorem dX6_buy_365 : decode cX6_buy 365 = .ok (.i2l, 1) := by decide +kernel
theorem dX6_buy_366 : decode cX6_buy 366 = .ok (.lastore, 1) := by decide +kernel
theorem dX6_buy_367 : decode cX6_buy 367 = .ok (.aload_n 0, 1) := by decide +kernel
theorem dX6_buy_368 : decode cX6_buy 368 = .ok (.getfield 7, 3) := by decide +kernel
theorem dX6_buy_371 : decode cX6_buy 371 = .ok (.iload 10, 2) := by decide +kernel
theorem dX6_buy_373 : decode cX6_buy 373 = .ok (.iconst 4, 1) := by decide +kernel
theorem dX6_buy_374 : decode cX6_buy 374 = .ok (.invokestatic 89, 3) := by decide +kernel
theorem dX6_buy_377 : decode cX6_buy 377 = .ok (.iload 9, 2) := by decide +kernel
theorem dX6_buy_379 : decode cX6_buy 379 = .ok (.i2l, 1) := by decide +kernel
theorem dX6_buy_380 : decode cX6_buy 380 = .ok (.lastore, 1) := by decide +kernel
theorem dX6_buy_381 : decode cX6_buy 381 = .ok (.aload_n 0, 1) := by decide +kernel
theorem dX6_buy_382 : decode cX6_buy 382 = .ok (.getfield 7, 3) := by decide +kernel
theorem dX6_buy_385 : decode cX6_buy 385 = .ok (.iload 10, 2) := by decide +kernel
theorem dX6_buy_387 : decode cX6_buy 387 = .ok (.iconst 5, 1) := by decide +kernel
theorem dX6_buy_388 : decode cX6_buy 388 = .ok (.invokestatic 89, 3) := by decide +kernel
theorem dX6_buy_391 : decode cX6_buy 391 = .ok (.iload 5, 2) := by decide +kernel
theorem dX6_buy_393 : decode cX6_buy 393 = .ok (.i2l, 1) := by decide +kernel
theorem dX6_buy_394 : decode cX6_buy 394 = .ok (.lastore, 1) := by decide +kernel
theorem dX6_buy_395 : decode cX6_buy 395 = .ok (.aload_n 0, 1) := by decide +kernel
theorem dX6_buy_396 : decode cX6_buy 396 = .ok (.getfield 7, 3) := by decide +kernel
theorem dX6_buy_399 : decode cX6_buy 399 = .ok (.iload 10, 2) := by decide +kernel
theorem dX6_buy_401 : decode cX6_buy 401 = .ok (.bipush 6, 2) := by decide +kernel
theorem dX6_buy_403 : decode cX6_buy 403 = .ok (.invokestatic 89, 3) := by decide +kernel
theorem dX6_buy_406 : decode cX6_buy 406 = .ok (.lload 11, 2) := by decide +kernel
theorem dX6_buy_408 : decode cX6_buy 408 = .ok (.lastore, 1) := by decide +kernel
theorem dX6_buy_409 : decode cX6_buy 409 = .ok (.aload_n 0, 1) := by decide +kernel
theorem dX6_buy_410 : decode cX6_buy 410 = .ok (.getfield 7, 3) := by decide +kernel
theorem dX6_buy_413 : decode cX6_buy 413 = .ok (.iload 10, 2) := by decide +kernel
theorem dX6_buy_415 : decode cX6_buy 415 = .ok (.bipush 8, 2) := by decide +kernel
theorem dX6_buy_417 : decode cX6_buy 417 = .ok (.invokestatic 89, 3) := by decide +kernel
theorem dX6_buy_420 : decode cX6_buy 420 = .ok (.aload_n 0, 1) := by decide +kernel
theorem dX6_buy_421 : decode cX6_buy 421 = .ok (.getfield 7, 3) := by decide +kernel
theorem dX6_buy_424 : decode cX6_buy 424 = .ok (.sipush 5663, 3) := by decide +kernel
theorem dX6_buy_427 : decode cX6_buy 427 = .ok (.laload, 1) := by decide +kernel
theorem dX6_buy_428 : decode cX6_buy 428 = .ok (.lastore, 1) := by decide +kernel
theorem dX6_buy_429 : decode cX6_buy 429 = .ok (.aload_n 0, 1) := by decide +kernel
theorem dX6_buy_430 : decode cX6_buy 430 = .ok (.getfield 7, 3) := by decide +kernel
theorem dX6_buy_433 : decode cX6_buy 433 = .ok (.iload 10, 2) := by decide +kernel
theorem dX6_buy_435 : decode cX6_buy 435 = .ok (.bipush 9, 2) := by decide +kernel
theorem dX6_buy_437 : decode cX6_buy 437 = .ok (.invokestatic 89, 3) := by decide +kernel
theorem dX6_buy_440 : decode cX6_buy 440 = .ok (.iload 5, 2) := by decide +kernel
theorem dX6_buy_442 : decode cX6_buy 442 = .ok (.iconst 1, 1) := by decide +kernel
theorem dX6_buy_443 : decode cX6_buy 443 = .ok (.if_icmp .le 9, 3) := by decide +kernel
theorem dX6_buy_446 : decode cX6_buy 446 = .ok (.iload 6, 2) := by decide +kernel
theorem dX6_buy_448 : decode cX6_buy 448 = .ok (.i2l, 1) := by decide +kernel
theorem dX6_buy_449 : decode cX6_buy 449 = .ok (.goto 4, 3) := by decide +kernel
theorem dX6_buy_452 : decode cX6_buy 452 = .ok (.lconst 0, 1) := by decide +kernel
theorem dX6_buy_453 : decode cX6_buy 453 = .ok (.lastore, 1) := by decide +kernel
theorem dX6_buy_454 : decode cX6_buy 454 = .ok (.aload_n 0, 1) := by decide +kernel
theorem dX6_buy_455 : decode cX6_buy 455 = .ok (.getfield 7, 3) := by decide +kernel
theorem dX6_buy_458 : decode cX6_buy 458 = .ok (.iload 9, 2) := by decide +kernel
theorem dX6_buy_460 : decode cX6_buy 460 = .ok (.iconst 3, 1) := by decide +kernel
theorem dX6_buy_461 : decode cX6_buy 461 = .ok (.invokestatic 55, 3) := by decide +kernel
theorem dX6_buy_464 : decode cX6_buy 464 = .ok (.dup2, 1) := by decide +kernel
theorem dX6_buy_465 : decode cX6_buy 465 = .ok (.laload, 1) := by decide +kernel
theorem dX6_buy_466 : decode cX6_buy 466 = .ok (.lload 11, 2) := by decide +kernel
theorem dX6_buy_468 : decode cX6_buy 468 = .ok (.ladd, 1) := by decide +kernel
theorem dX6_buy_469 : decode cX6_buy 469 = .ok (.lastore, 1) := by decide +kernel
theorem dX6_buy_470 : decode cX6_buy 470 = .ok (.aload_n 0, 1) := by decide +kernel
theorem dX6_buy_471 : decode cX6_buy 471 = .ok (.getfield 7, 3) := by decide +kernel
theorem dX6_buy_474 : decode cX6_buy 474 = .ok (.sipush 5671, 3) := by decide +kernel
theorem dX6_buy_477 : decode cX6_buy 477 = .ok (.dup2, 1) := by decide +kernel
theorem dX6_buy_478 : decode cX6_buy 478 = .ok (.laload, 1) := by decide +kernel
theorem dX6_buy_479 : decode cX6_buy 479 = .ok (.lload 11, 2) := by decide +kernel
theorem dX6_buy_481 : decode cX6_buy 481 = .ok (.ladd, 1) := by decide +kernel
theorem dX6_buy_482 : decode cX6_buy 482 = .ok (.lastore, 1) := by decide +kernel
theorem dX6_buy_483 : decode cX6_buy 483 = .ok (.aload_n 0, 1) := by decide +kernel
theorem dX6_buy_484 : decode cX6_buy 484 = .ok (.getfield 7, 3) := by decide +kernel
theorem dX6_buy_487 : decode cX6_buy 487 = .ok (.sipush 5670, 3) := by decide +kernel
theorem dX6_buy_490 : decode cX6_buy 490 = .ok (.dup2, 1) := by decide +kernel
theorem dX6_buy_491 : decode cX6_buy 491 = .ok (.laload, 1) := by decide +kernel
theorem dX6_buy_492 : decode cX6_buy 492 = .ok (.lconst 1, 1) := by decide +kernel
theorem dX6_buy_493 : decode cX6_buy 493 = .ok (.ladd, 1) := by decide +kernel
theorem dX6_buy_494 : decode cX6_buy 494 = .ok (.lastore, 1) := by decide +kernel
theorem dX6_buy_495 : decode cX6_buy 495 = .ok (.iload 10, 2) := by decide +kernel
theorem dX6_buy_497 : decode cX6_buy 497 = .ok (.i2l, 1) := by decide +kernel
theorem dX6_buy_498 : decode cX6_buy 498 = .ok (.lreturn, 1) := by decide +kernel
theorem dX6_sell_0 : decode cX6_sell 0 = .ok (.aload_n 0, 1) := by decide +kernel
theorem dX6_sell_1 : decode cX6_sell 1 = .ok (.iload_n 1, 1) := by decide +kernel
theorem dX6_sell_2 : decode cX6_sell 2 = .ok (.invokevirtual 92, 3) := by decide +kernel
theorem dX6_sell_5 : decode cX6_sell 5 = .ok (.ifCond .eq 11, 3) := by decide +kernel
theorem dX6_sell_8 : decode cX6_sell 8 = .ok (.aload_n 0, 1) := by decide +kernel
theorem dX6_sell_9 : decode cX6_sell 9 = .ok (.iload_n 2, 1) := by decide +kernel
theorem dX6_sell_10 : decode cX6_sell 10 = .ok (.invokevirtual 66, 3) := by decide +kernel
theorem dX6_sell_13 : decode cX6_sell 13 = .ok (.ifCond .ne 7, 3) := by decide +kernel
theorem dX6_sell_16 : decode cX6_sell 16 = .ok (.ldc2_w 41, 3) := by decide +kernel
theorem dX6_sell_19 : decode cX6_sell 19 = .ok (.lreturn, 1) := by decide +kernel
theorem dX6_sell_20 : decode cX6_sell 20 = .ok (.aload_n 0, 1) := by decide +kernel
theorem dX6_sell_21 : decode cX6_sell 21 = .ok (.getfield 7, 3) := by decide +kernel
theorem dX6_sell_24 : decode cX6_sell 24 = .ok (.iload_n 1, 1) := by decide +kernel
theorem dX6_sell_25 : decode cX6_sell 25 = .ok (.iconst 0, 1) := by decide +kernel
theorem dX6_sell_26 : decode cX6_sell 26 = .ok (.invokestatic 89, 3) := by decide +kernel
theorem dX6_sell_29 : decode cX6_sell 29 = .ok (.laload, 1) := by decide +kernel
theorem dX6_sell_30 : decode cX6_sell 30 = .ok (.lstore_n 3, 1) := by decide +kernel
theorem dX6_sell_31 : decode cX6_sell 31 = .ok (.aload_n 0, 1) := by decide +kernel
theorem dX6_sell_32 : decode cX6_sell 32 = .ok (.getfield 7, 3) := by decide +kernel
theorem dX6_sell_35 : decode cX6_sell 35 = .ok (.iload_n 1, 1) := by decide +kernel
theorem dX6_sell_36 : decode cX6_sell 36 = .ok (.iconst 0, 1) := by decide +kernel
theorem dX6_sell_37 : decode cX6_sell 37 = .ok (.invokestatic 89, 3) := by decide +kernel
theorem dX6_sell_40 : decode cX6_sell 40 = .ok (.iload_n 2, 1) := by decide +kernel
theorem dX6_sell_41 : decode cX6_sell 41 = .ok (.i2l, 1) := by decide +kernel
theorem dX6_sell_42 : decode cX6_sell 42 = .ok (.lastore, 1) := by decide +kernel
theorem dX6_sell_43 : decode cX6_sell 43 = .ok (.lload_n 3, 1) := by decide +kernel
theorem dX6_sell_44 : decode cX6_sell 44 = .ok (.lreturn, 1) := by decide +kernel
theorem dX6_parts_0 : decode cX6_parts 0 = .ok (.aload_n 0, 1) := by decide +kernel
theorem dX6_parts_1 : decode cX6_parts 1 = .ok (.getfield 7, 3) := by decide +kernel
theorem dX6_parts_4 : decode cX6_parts 4 = .ok (.iload_n 1, 1) := by decide +kernel
theorem dX6_parts_5 : decode cX6_parts 5 = .ok (.laload, 1) := by decide +kernel
theorem dX6_parts_6 : decode cX6_parts 6 = .ok (.lload_n 3, 1) := by decide +kernel
theorem dX6_parts_7 : decode cX6_parts 7 = .ok (.lmul, 1) := by decide +kernel
theorem dX6_parts_8 : decode cX6_parts 8 = .ok (.lload 5, 2) := by decide +kernel
theorem dX6_parts_10 : decode cX6_parts 10 = .ok (.ldiv, 1) := by decide +kernel
theorem dX6_parts_11 : decode cX6_parts 11 = .ok (.lstore 7, 2) := by decide +kernel
theorem dX6_parts_13 : decode cX6_parts 13 = .ok (.aload_n 0, 1) := by decide +kernel
theorem dX6_parts_14 : decode cX6_parts 14 = .ok (.getfield 7, 3) := by decide +kernel
theorem dX6_parts_17 : decode cX6_parts 17 = .ok (.iload_n 2, 1) := by decide +kernel
theorem dX6_parts_18 : decode cX6_parts 18 = .ok (.lload 7, 2) := by decide +kernel
theorem dX6_parts_20 : decode cX6_parts 20 = .ok (.lastore, 1) := by decide +kernel
theorem dX6_parts_21 : decode cX6_parts 21 = .ok (.aload_n 0, 1) := by decide +kernel
theorem dX6_parts_22 : decode cX6_parts 22 = .ok (.getfield 7, 3) := by decide +kernel
theorem dX6_parts_25 : decode cX6_parts 25 = .ok (.iload_n 1, 1) := by decide +kernel
theorem dX6_parts_26 : decode cX6_parts 26 = .ok (.dup2, 1) := by decide +kernel
theorem dX6_parts_27 : decode cX6_parts 27 = .ok (.laload, 1) := by decide +kernel
theorem dX6_parts_28 : decode cX6_parts 28 = .ok (.lload 7, 2) := by decide +kernel
theorem dX6_parts_30 : decode cX6_parts 30 = .ok (.lsub, 1) := by decide +kernel
theorem dX6_parts_31 : decode cX6_parts 31 = .ok (.lastore, 1) := by decide +kernel
theorem dX6_parts_32 : decode cX6_parts 32 = .ok (.return_, 1) := by decide +kernel
theorem dX6_split_0 : decode cX6_split 0 = .ok (.aload_n 0, 1) := by decide +kernel
theorem dX6_split_1 : decode cX6_split 1 = .ok (.iload_n 1, 1) := by decide +kernel
theorem dX6_split_2 : decode cX6_split 2 = .ok (.invokevirtual 92, 3) := by decide +kernel
theorem dX6_split_5 : decode cX6_split 5 = .ok (.ifCond .eq 39, 3) := by decide +kernel
theorem dX6_split_8 : decode cX6_split 8 = .ok (.iload_n 2, 1) := by decide +kernel
theorem dX6_split_9 : decode cX6_split 9 = .ok (.i2l, 1) := by decide +kernel
theorem dX6_split_10 : decode cX6_split 10 = .ok (.lconst 1, 1) := by decide +kernel
theorem dX6_split_11 : decode cX6_split 11 = .ok (.aload_n 0, 1) := by decide +kernel
theorem dX6_split_12 : decode cX6_split 12 = .ok (.getfield 7, 3) := by decide +kernel
theorem dX6_split_15 : decode cX6_split 15 = .ok (.iload_n 1, 1) := by decide +kernel
theorem dX6_split_16 : decode cX6_split 16 = .ok (.iconst 3, 1) := by decide +kernel
theorem dX6_split_17 : decode cX6_split 17 = .ok (.invokestatic 89, 3) := by decide +kernel
theorem dX6_split_20 : decode cX6_split 20 = .ok (.laload, 1) := by decide +kernel
theorem dX6_split_21 : decode cX6_split 21 = .ok (.lconst 1, 1) := by decide +kernel
theorem dX6_split_22 : decode cX6_split 22 = .ok (.lsub, 1) := by decide +kernel
theorem dX6_split_23 : decode cX6_split 23 = .ok (.invokestatic 35, 3) := by decide +kernel
theorem dX6_split_26 : decode cX6_split 26 = .ok (.ifCond .eq 18, 3) := by decide +kernel
theorem dX6_split_29 : decode cX6_split 29 = .ok (.aload_n 0, 1) := by decide +kernel
theorem dX6_split_30 : decode cX6_split 30 = .ok (.getfield 7, 3) := by decide +kernel
theorem dX6_split_33 : decode cX6_split 33 = .ok (.sipush 5670, 3) := by decide +kernel
theorem dX6_split_36 : decode cX6_split 36 = .ok (.laload, 1) := by decide +kernel
theorem dX6_split_37 : decode cX6_split 37 = .ok (.ldc2_w 87, 3) := by decide +kernel
theorem dX6_split_40 : decode cX6_split 40 = .ok (.lcmp, 1) := by decide +kernel
theorem dX6_split_41 : decode cX6_split 41 = .ok (.ifCond .ne 7, 3) := by decide +kernel
theorem dX6_split_44 : decode cX6_split 44 = .ok (.ldc2_w 41, 3) := by decide +kernel
theorem dX6_split_47 : decode cX6_split 47 = .ok (.lreturn, 1) := by decide +kernel
theorem dX6_split_48 : decode cX6_split 48 = .ok (.aload_n 0, 1) := by decide +kernel
theorem dX6_split_49 : decode cX6_split 49 = .ok (.getfield 7, 3) := by decide +kernel
theorem dX6_split_52 : decode cX6_split 52 = .ok (.sipush 5670, 3) := by decide +kernel
theorem dX6_split_55 : decode cX6_split 55 = .ok (.laload, 1) := by decide +kernel
theorem dX6_split_56 : decode cX6_split 56 = .ok (.l2i, 1) := by decide +kernel
theorem dX6_split_57 : decode cX6_split 57 = .ok (.istore_n 3, 1) := by decide +kernel
theorem dX6_split_58 : decode cX6_split 58 = .ok (.aload_n 0, 1) := by decide +kernel
theorem dX6_split_59 : decode cX6_split 59 = .ok (.getfield 7, 3) := by decide +kernel
theorem dX6_split_62 : decode cX6_split 62 = .ok (.iload_n 1, 1) := by decide +kernel
theorem dX6_split_63 : decode cX6_split 63 = .ok (.iconst 3, 1) := by decide +kernel
theorem dX6_split_64 : decode cX6_split 64 = .ok (.invokestatic 89, 3) := by decide +kernel
theorem dX6_split_67 : decode cX6_split 67 = .ok (.laload, 1) := by decide +kernel
theorem dX6_split_68 : decode cX6_split 68 = .ok (.lstore 4, 2) := by decide +kernel
theorem dX6_split_70 : decode cX6_split 70 = .ok (.iconst 0, 1) := by decide +kernel
theorem dX6_split_71 : decode cX6_split 71 = .ok (.istore 6, 2) := by decide +kernel
theorem dX6_split_73 : decode cX6_split 73 = .ok (.iload 6, 2) := by decide +kernel
theorem dX6_split_75 : decode cX6_split 75 = .ok (.bipush 14, 2) := by decide +kernel
theorem dX6_split_77 : decode cX6_split 77 = .ok (.if_icmp .ge 31, 3) := by decide +kernel
theorem dX6_split_80 : decode cX6_split 80 = .ok (.aload_n 0, 1) := by decide +kernel
theorem dX6_split_81 : decode cX6_split 81 = .ok (.getfield 7, 3) := by decide +kernel
theorem dX6_split_84 : decode cX6_split 84 = .ok (.iload_n 3, 1) := by decide +kernel
theorem dX6_split_85 : decode cX6_split 85 = .ok (.iload 6, 2) := by decide +kernel
theorem dX6_split_87 : decode cX6_split 87 = .ok (.invokestatic 89, 3) := by decide +kernel
theorem dX6_split_90 : decode cX6_split 90 = .ok (.aload_n 0, 1) := by decide +kernel
theorem dX6_split_91 : decode cX6_split 91 = .ok (.getfield 7, 3) := by decide +kernel
theorem dX6_split_94 : decode cX6_split 94 = .ok (.iload_n 1, 1) := by decide +kernel
theorem dX6_split_95 : decode cX6_split 95 = .ok (.iload 6, 2) := by decide +kernel
theorem dX6_split_97 : decode cX6_split 97 = .ok (.invokestatic 89, 3) := by decide +kernel
theorem dX6_split_100 : decode cX6_split 100 = .ok (.laload, 1) := by decide +kernel
theorem dX6_split_101 : decode cX6_split 101 = .ok (.lastore, 1) := by decide +kernel
theorem dX6_split_102 : decode cX6_split 102 = .ok (.iinc 6 1, 3) := by decide +kernel
theorem dX6_split_105 : decode cX6_split 105 = .ok (.goto (-32), 3) := by decide +kernel
theorem dX6_split_108 : decode cX6_split 108 = .ok (.aload_n 0, 1) := by decide +kernel
theorem dX6_split_109 : decode cX6_split 109 = .ok (.iload_n 1, 1) := by decide +kernel
theorem dX6_split_110 : decode cX6_split 110 = .ok (.bipush 6, 2) := by decide +kernel
theorem dX6_split_112 : decode cX6_split 112 = .ok (.invokestatic 89, 3) := by decide +kernel
theorem dX6_split_115 : decode cX6_split 115 = .ok (.iload_n 3, 1) := by decide +kernel
theorem dX6_split_116 : decode cX6_split 116 = .ok (.bipush 6, 2) := by decide +kernel
theorem dX6_split_118 : decode cX6_split 118 = .ok (.invokestatic 89, 3) := by decide +kernel
theorem dX6_split_121 : decode cX6_split 121 = .ok (.iload_n 2, 1) := by decide +kernel
theorem dX6_split_122 : decode cX6_split 122 = .ok (.i2l, 1) := by decide +kernel
theorem dX6_split_123 : decode cX6_split 123 = .ok (.lload 4, 2) := by decide +kernel
theorem dX6_split_125 : decode cX6_split 125 = .ok (.invokevirtual 95, 3) := by decide +kernel
theorem dX6_split_128 : decode cX6_split 128 = .ok (.aload_n 0, 1) := by decide +kernel
theorem dX6_split_129 : decode cX6_split 129 = .ok (.iload_n 1, 1) := by decide +kernel
theorem dX6_split_130 : decode cX6_split 130 = .ok (.bipush 7, 2) := by decide +kernel
theorem dX6_split_132 : decode cX6_split 132 = .ok (.invokestatic 89, 3) := by decide +kernel
theorem dX6_split_135 : decode cX6_split 135 = .ok (.iload_n 3, 1) := by decide +kernel
theorem dX6_split_136 : decode cX6_split 136 = .ok (.bipush 7, 2) := by decide +kernel
theorem dX6_split_138 : decode cX6_split 138 = .ok (.invokestatic 89, 3) := by decide +kernel
theorem dX6_split_141 : decode cX6_split 141 = .ok (.iload_n 2, 1) := by decide +kernel
theorem dX6_split_142 : decode cX6_split 142 = .ok (.i2l, 1) := by decide +kernel
theorem dX6_split_143 : decode cX6_split 143 = .ok (.lload 4, 2) := by decide +kernel
theorem dX6_split_145 : decode cX6_split 145 = .ok (.invokevirtual 95, 3) := by decide +kernel
theorem dX6_split_148 : decode cX6_split 148 = .ok (.aload_n 0, 1) := by decide +kernel
theorem dX6_split_149 : decode cX6_split 149 = .ok (.iload_n 1, 1) := by decide +kernel
theorem dX6_split_150 : decode cX6_split 150 = .ok (.bipush 12, 2) := by decide +kernel
theorem dX6_split_152 : decode cX6_split 152 = .ok (.invokestatic 89, 3) := by decide +kernel
theorem dX6_split_155 : decode cX6_split 155 = .ok (.iload_n 3, 1) := by decide +kernel
theorem dX6_split_156 : decode cX6_split 156 = .ok (.bipush 12, 2) := by decide +kernel
theorem dX6_split_158 : decode cX6_split 158 = .ok (.invokestatic 89, 3) := by decide +kernel
theorem dX6_split_161 : decode cX6_split 161 = .ok (.iload_n 2, 1) := by decide +kernel
theorem dX6_split_162 : decode cX6_split 162 = .ok (.i2l, 1) := by decide +kernel
theorem dX6_split_163 : decode cX6_split 163 = .ok (.lload 4, 2) := by decide +kernel
theorem dX6_split_165 : decode cX6_split 165 = .ok (.invokevirtual 95, 3) := by decide +kernel
theorem dX6_split_168 : decode cX6_split 168 = .ok (.iconst 0, 1) := by decide +kernel
theorem dX6_split_169 : decode cX6_split 169 = .ok (.istore 6, 2) := by decide +kernel
theorem dX6_split_171 : decode cX6_split 171 = .ok (.iload 6, 2) := by decide +kernel
theorem dX6_split_173 : decode cX6_split 173 = .ok (.bipush 60, 2) := by decide +kernel
theorem dX6_split_175 : decode cX6_split 175 = .ok (.if_icmp .ge 69, 3) := by decide +kernel
theorem dX6_split_178 : decode cX6_split 178 = .ok (.aload_n 0, 1) := by decide +kernel
theorem dX6_split_179 : decode cX6_split 179 = .ok (.sipush 863, 3) := by decide +kernel
theorem dX6_split_182 : decode cX6_split 182 = .ok (.bipush 60, 2) := by decide +kernel
theorem dX6_split_184 : decode cX6_split 184 = .ok (.iload_n 1, 1) := by decide +kernel
theorem dX6_split_185 : decode cX6_split 185 = .ok (.imul, 1) := by decide +kernel
theorem dX6_split_186 : decode cX6_split 186 = .ok (.iadd, 1) := by decide +kernel
theorem dX6_split_187 : decode cX6_split 187 = .ok (.iload 6, 2) := by decide +kernel
theorem dX6_split_189 : decode cX6_split 189 = .ok (.iadd, 1) := by decide +kernel
theorem dX6_split_190 : decode cX6_split 190 = .ok (.sipush 863, 3) := by decide +kernel
theorem dX6_split_193 : decode cX6_split 193 = .ok (.bipush 60, 2) := by decide +kernel
theorem dX6_split_195 : decode cX6_split 195 = .ok (.iload_n 3, 1) := by decide +kernel
theorem dX6_split_196 : decode cX6_split 196 = .ok (.imul, 1) := by decide +kernel
theorem dX6_split_197 : decode cX6_split 197 = .ok (.iadd, 1) := by decide +kernel
theorem dX6_split_198 : decode cX6_split 198 = .ok (.iload 6, 2) := by decide +kernel
theorem dX6_split_200 : decode cX6_split 200 = .ok (.iadd, 1) := by decide +kernel
theorem dX6_split_201 : decode cX6_split 201 = .ok (.iload_n 2, 1) := by decide +kernel
theorem dX6_split_202 : decode cX6_split 202 = .ok (.i2l, 1) := by decide +kernel
theorem dX6_split_203 : decode cX6_split 203 = .ok (.lload 4, 2) := by decide +kernel
theorem dX6_split_205 : decode cX6_split 205 = .ok (.invokevirtual 95, 3) := by decide +kernel
theorem dX6_split_208 : decode cX6_split 208 = .ok (.aload_n 0, 1) := by decide +kernel
theorem dX6_split_209 : decode cX6_split 209 = .ok (.sipush 3263, 3) := by decide +kernel
theorem dX6_split_212 : decode cX6_split 212 = .ok (.bipush 60, 2) := by decide +kernel
theorem dX6_split_214 : decode cX6_split 214 = .ok (.iload_n 1, 1) := by decide +kernel
theorem dX6_split_215 : decode cX6_split 215 = .ok (.imul, 1) := by decide +kernel
theorem dX6_split_216 : decode cX6_split 216 = .ok (.iadd, 1) := by decide +kernel
theorem dX6_split_217 : decode cX6_split 217 = .ok (.iload 6, 2) := by decide +kernel
theorem dX6_split_219 : decode cX6_split 219 = .ok (.iadd, 1) := by decide +kernel
theorem dX6_split_220 : decode cX6_split 220 = .ok (.sipush 3263, 3) := by decide +kernel
theorem dX6_split_223 : decode cX6_split 223 = .ok (.bipush 60, 2) := by decide +kernel
theorem dX6_split_225 : decode cX6_split 225 = .ok (.iload_n 3, 1) := by decide +kernel
theorem dX6_split_226 : decode cX6_split 226 = .ok (.imul, 1) := by decide +kernel
theorem dX6_split_227 : decode cX6_split 227 = .ok (.iadd, 1) := by decide +kernel
theorem dX6_split_228 : decode cX6_split 228 = .ok (.iload 6, 2) := by decide +kernel
theorem dX6_split_230 : decode cX6_split 230 = .ok (.iadd, 1) := by decide +kernel
theorem dX6_split_231 : decode cX6_split 231 = .ok (.iload_n 2, 1) := by decide +kernel
theorem dX6_split_232 : decode cX6_split 232 = .ok (.i2l, 1) := by decide +kernel
theorem dX6_split_233 : decode cX6_split 233 = .ok (.lload 4, 2) := by decide +kernel
theorem dX6_split_235 : decode cX6_split 235 = .ok (.invokevirtual 95, 3) := by decide +kernel
theorem dX6_split_238 : decode cX6_split 238 = .ok (.iinc 6 1, 3) := by decide +kernel
theorem dX6_split_241 : decode cX6_split 241 = .ok (.goto (-70), 3) := by decide +kernel
theorem dX6_split_244 : decode cX6_split 244 = .ok (.aload_n 0, 1) := by decide +kernel
theorem dX6_split_245 : decode cX6_split 245 = .ok (.getfield 7, 3) := by decide +kernel
theorem dX6_split_248 : decode cX6_split 248 = .ok (.iload_n 3, 1) := by decide +kernel
theorem dX6_split_249 : decode cX6_split 249 = .ok (.iconst 3, 1) := by decide +kernel
theorem dX6_split_250 : decode cX6_split 250 = .ok (.invokestatic 89, 3) := by decide +kernel
theorem dX6_split_253 : decode cX6_split 253 = .ok (.iload_n 2, 1) := by decide +kernel
theorem dX6_split_254 : decode cX6_split 254 = .ok (.i2l, 1) := by decide +kernel
theorem dX6_split_255 : decode cX6_split 255 = .ok (.lastore, 1) := by decide +kernel
theorem dX6_split_256 : decode cX6_split 256 = .ok (.aload_n 0, 1) := by decide +kernel
theorem dX6_split_257 : decode cX6_split 257 = .ok (.getfield 7, 3) := by decide +kernel
theorem dX6_split_260 : decode cX6_split 260 = .ok (.iload_n 1, 1) := by decide +kernel
theorem dX6_split_261 : decode cX6_split 261 = .ok (.iconst 3, 1) := by decide +kernel
theorem dX6_split_262 : decode cX6_split 262 = .ok (.invokestatic 89, 3) := by decide +kernel
theorem dX6_split_265 : decode cX6_split 265 = .ok (.lload 4, 2) := by decide +kernel
theorem dX6_split_267 : decode cX6_split 267 = .ok (.iload_n 2, 1) := by decide +kernel
theorem dX6_split_268 : decode cX6_split 268 = .ok (.i2l, 1) := by decide +kernel
theorem dX6_split_269 : decode cX6_split 269 = .ok (.lsub, 1) := by decide +kernel
theorem dX6_split_270 : decode cX6_split 270 = .ok (.lastore, 1) := by decide +kernel
theorem dX6_split_271 : decode cX6_split 271 = .ok (.aload_n 0, 1) := by decide +kernel
theorem dX6_split_272 : decode cX6_split 272 = .ok (.getfield 7, 3) := by decide +kernel
theorem dX6_split_275 : decode cX6_split 275 = .ok (.sipush 5670, 3) := by decide +kernel
theorem dX6_split_278 : decode cX6_split 278 = .ok (.dup2, 1) := by decide +kernel
theorem dX6_split_279 : decode cX6_split 279 = .ok (.laload, 1) := by decide +kernel
theorem dX6_split_280 : decode cX6_split 280 = .ok (.lconst 1, 1) := by decide +kernel
theorem dX6_split_281 : decode cX6_split 281 = .ok (.ladd, 1) := by decide +kernel
theorem dX6_split_282 : decode cX6_split 282 = .ok (.lastore, 1) := by decide +kernel
theorem dX6_split_283 : decode cX6_split 283 = .ok (.iload_n 3, 1) := by decide +kernel
theorem dX6_split_284 : decode cX6_split 284 = .ok (.i2l, 1) := by decide +kernel
theorem dX6_split_285 : decode cX6_split 285 = .ok (.lreturn, 1) := by decide +kernel
theorem dX6_pledge_0 : decode cX6_pledge 0 = .ok (.aload_n 0, 1) := by decide +kernel
theorem dX6_pledge_1 : decode cX6_pledge 1 = .ok (.iload_n 1, 1) := by decide +kernel
theorem dX6_pledge_2 : decode cX6_pledge 2 = .ok (.invokevirtual 92, 3) := by decide +kernel
theorem dX6_pledge_5 : decode cX6_pledge 5 = .ok (.ifCond .eq 23, 3) := by decide +kernel
theorem dX6_pledge_8 : decode cX6_pledge 8 = .ok (.aload_n 0, 1) := by decide +kernel
theorem dX6_pledge_9 : decode cX6_pledge 9 = .ok (.iload_n 2, 1) := by decide +kernel
theorem dX6_pledge_10 : decode cX6_pledge 10 = .ok (.invokevirtual 66, 3) := by decide +kernel
theorem dX6_pledge_13 : decode cX6_pledge 13 = .ok (.ifCond .eq 15, 3) := by decide +kernel
theorem dX6_pledge_16 : decode cX6_pledge 16 = .ok (.iload_n 3, 1) := by decide +kernel
theorem dX6_pledge_17 : decode cX6_pledge 17 = .ok (.i2l, 1) := by decide +kernel
theorem dX6_pledge_18 : decode cX6_pledge 18 = .ok (.lconst 0, 1) := by decide +kernel
theorem dX6_pledge_19 : decode cX6_pledge 19 = .ok (.ldc2_w 99, 3) := by decide +kernel
theorem dX6_pledge_22 : decode cX6_pledge 22 = .ok (.invokestatic 35, 3) := by decide +kernel
theorem dX6_pledge_25 : decode cX6_pledge 25 = .ok (.ifCond .ne 7, 3) := by decide +kernel
theorem dX6_pledge_28 : decode cX6_pledge 28 = .ok (.ldc2_w 41, 3) := by decide +kernel
theorem dX6_pledge_31 : decode cX6_pledge 31 = .ok (.lreturn, 1) := by decide +kernel
theorem dX6_pledge_32 : decode cX6_pledge 32 = .ok (.aload_n 0, 1) := by decide +kernel
theorem dX6_pledge_33 : decode cX6_pledge 33 = .ok (.getfield 7, 3) := by decide +kernel
theorem dX6_pledge_36 : decode cX6_pledge 36 = .ok (.iload_n 1, 1) := by decide +kernel
theorem dX6_pledge_37 : decode cX6_pledge 37 = .ok (.bipush 12, 2) := by decide +kernel
theorem dX6_pledge_39 : decode cX6_pledge 39 = .ok (.invokestatic 89, 3) := by decide +kernel
theorem dX6_pledge_42 : decode cX6_pledge 42 = .ok (.laload, 1) := by decide +kernel
theorem dX6_pledge_43 : decode cX6_pledge 43 = .ok (.lstore 4, 2) := by decide +kernel
theorem dX6_pledge_45 : decode cX6_pledge 45 = .ok (.aload_n 0, 1) := by decide +kernel
theorem dX6_pledge_46 : decode cX6_pledge 46 = .ok (.getfield 7, 3) := by decide +kernel
theorem dX6_pledge_49 : decode cX6_pledge 49 = .ok (.iload_n 1, 1) := by decide +kernel
theorem dX6_pledge_50 : decode cX6_pledge 50 = .ok (.bipush 11, 2) := by decide +kernel
theorem dX6_pledge_52 : decode cX6_pledge 52 = .ok (.invokestatic 89, 3) := by decide +kernel
theorem dX6_pledge_55 : decode cX6_pledge 55 = .ok (.iload_n 2, 1) := by decide +kernel
theorem dX6_pledge_56 : decode cX6_pledge 56 = .ok (.i2l, 1) := by decide +kernel
theorem dX6_pledge_57 : decode cX6_pledge 57 = .ok (.lastore, 1) := by decide +kernel
theorem dX6_pledge_58 : decode cX6_pledge 58 = .ok (.aload_n 0, 1) := by decide +kernel
theorem dX6_pledge_59 : decode cX6_pledge 59 = .ok (.getfield 7, 3) := by decide +kernel
theorem dX6_pledge_62 : decode cX6_pledge 62 = .ok (.iload_n 1, 1) := by decide +kernel
theorem dX6_pledge_63 : decode cX6_pledge 63 = .ok (.bipush 12, 2) := by decide +kernel
theorem dX6_pledge_65 : decode cX6_pledge 65 = .ok (.invokestatic 89, 3) := by decide +kernel
theorem dX6_pledge_68 : decode cX6_pledge 68 = .ok (.iload_n 3, 1) := by decide +kernel
theorem dX6_pledge_69 : decode cX6_pledge 69 = .ok (.i2l, 1) := by decide +kernel
theorem dX6_pledge_70 : decode cX6_pledge 70 = .ok (.lastore, 1) := by decide +kernel
theorem dX6_pledge_71 : decode cX6_pledge 71 = .ok (.lload 4, 2) := by decide +kernel
theorem dX6_pledge_73 : decode cX6_pledge 73 = .ok (.lreturn, 1) := by decide +kernel
theorem dX6_hasLife_0 : decode cX6_hasLife 0 = .ok (.aload_n 0, 1) := by decide +kernel
theorem dX6_hasLife_1 : decode cX6_hasLife 1 = .ok (.getfield 7, 3) := by decide +kernel
theorem dX6_hasLife_4 : decode cX6_hasLife 4 = .ok (.iload_n 1, 1) := by decide +kernel
theorem dX6_hasLife_5 : decode cX6_hasLife 5 = .ok (.iconst 1, 1) := by decide +kernel
theorem dX6_hasLife_6 : decode cX6_hasLife 6 = .ok (.invokestatic 89, 3) := by decide +kernel
theorem dX6_hasLife_9 : decode cX6_hasLife 9 = .ok (.laload, 1) := by decide +kernel
theorem dX6_hasLife_10 : decode cX6_hasLife 10 = .ok (.iload_n 2, 1) := by decide +kernel
theorem dX6_hasLife_11 : decode cX6_hasLife 11 = .ok (.i2l, 1) := by decide +kernel
theorem dX6_hasLife_12 : decode cX6_hasLife 12 = .ok (.lcmp, 1) := by decide +kernel
theorem dX6_hasLife_13 : decode cX6_hasLife 13 = .ok (.ifCond .eq 19, 3) := by decide +kernel
theorem dX6_hasLife_16 : decode cX6_hasLife 16 = .ok (.aload_n 0, 1) := by decide +kernel
theorem dX6_hasLife_17 : decode cX6_hasLife 17 = .ok (.getfield 7, 3) := by decide +kernel
theorem dX6_hasLife_20 : decode cX6_hasLife 20 = .ok (.iload_n 1, 1) := by decide +kernel
theorem dX6_hasLife_21 : decode cX6_hasLife 21 = .ok (.iconst 2, 1) := by decide +kernel
theorem dX6_hasLife_22 : decode cX6_hasLife 22 = .ok (.invokestatic 89, 3) := by decide +kernel
theorem dX6_hasLife_25 : decode cX6_hasLife 25 = .ok (.laload, 1) := by decide +kernel
theorem dX6_hasLife_26 : decode cX6_hasLife 26 = .ok (.iload_n 2, 1) := by decide +kernel
theorem dX6_hasLife_27 : decode cX6_hasLife 27 = .ok (.i2l, 1) := by decide +kernel
theorem dX6_hasLife_28 : decode cX6_hasLife 28 = .ok (.lcmp, 1) := by decide +kernel
theorem dX6_hasLife_29 : decode cX6_hasLife 29 = .ok (.ifCond .ne 7, 3) := by decide +kernel
theorem dX6_hasLife_32 : decode cX6_hasLife 32 = .ok (.iconst 1, 1) := by decide +kernel
theorem dX6_hasLife_33 : decode cX6_hasLife 33 = .ok (.goto 4, 3) := by decide +kernel
theorem dX6_hasLife_36 : decode cX6_hasLife 36 = .ok (.iconst 0, 1) := by decide +kernel
theorem dX6_hasLife_37 : decode cX6_hasLife 37 = .ok (.ireturn, 1) := by decide +kernel
theorem dX6_areDead_0 : decode cX6_areDead 0 = .ok (.aload_n 0, 1) := by decide +kernel
theorem dX6_areDead_1 : decode cX6_areDead 1 = .ok (.getfield 7, 3) := by decide +kernel
theorem dX6_areDead_4 : decode cX6_areDead 4 = .ok (.iload_n 1, 1) := by decide +kernel
theorem dX6_areDead_5 : decode cX6_areDead 5 = .ok (.iconst 2, 1) := by decide +kernel
theorem dX6_areDead_6 : decode cX6_areDead 6 = .ok (.invokestatic 89, 3) := by decide +kernel
theorem dX6_areDead_9 : decode cX6_areDead 9 = .ok (.laload, 1) := by decide +kernel
theorem dX6_areDead_10 : decode cX6_areDead 10 = .ok (.lstore_n 2, 1) := by decide +kernel
theorem dX6_areDead_11 : decode cX6_areDead 11 = .ok (.aload_n 0, 1) := by decide +kernel
theorem dX6_areDead_12 : decode cX6_areDead 12 = .ok (.aload_n 0, 1) := by decide +kernel
theorem dX6_areDead_13 : decode cX6_areDead 13 = .ok (.getfield 7, 3) := by decide +kernel
theorem dX6_areDead_16 : decode cX6_areDead 16 = .ok (.iload_n 1, 1) := by decide +kernel
theorem dX6_areDead_17 : decode cX6_areDead 17 = .ok (.iconst 1, 1) := by decide +kernel
theorem dX6_areDead_18 : decode cX6_areDead 18 = .ok (.invokestatic 89, 3) := by decide +kernel
theorem dX6_areDead_21 : decode cX6_areDead 21 = .ok (.laload, 1) := by decide +kernel
theorem dX6_areDead_22 : decode cX6_areDead 22 = .ok (.invokevirtual 75, 3) := by decide +kernel
theorem dX6_areDead_25 : decode cX6_areDead 25 = .ok (.ifCond .eq 21, 3) := by decide +kernel
theorem dX6_areDead_28 : decode cX6_areDead 28 = .ok (.lload_n 2, 1) := by decide +kernel
theorem dX6_areDead_29 : decode cX6_areDead 29 = .ok (.lconst 0, 1) := by decide +kernel
theorem dX6_areDead_30 : decode cX6_areDead 30 = .ok (.lcmp, 1) := by decide +kernel
theorem dX6_areDead_31 : decode cX6_areDead 31 = .ok (.ifCond .lt 11, 3) := by decide +kernel
theorem dX6_areDead_34 : decode cX6_areDead 34 = .ok (.aload_n 0, 1) := by decide +kernel
theorem dX6_areDead_35 : decode cX6_areDead 35 = .ok (.lload_n 2, 1) := by decide +kernel
theorem dX6_areDead_36 : decode cX6_areDead 36 = .ok (.invokevirtual 75, 3) := by decide +kernel
theorem dX6_areDead_39 : decode cX6_areDead 39 = .ok (.ifCond .eq 7, 3) := by decide +kernel
theorem dX6_areDead_42 : decode cX6_areDead 42 = .ok (.iconst 1, 1) := by decide +kernel
theorem dX6_areDead_43 : decode cX6_areDead 43 = .ok (.goto 4, 3) := by decide +kernel
theorem dX6_areDead_46 : decode cX6_areDead 46 = .ok (.iconst 0, 1) := by decide +kernel
theorem dX6_areDead_47 : decode cX6_areDead 47 = .ok (.ireturn, 1) := by decide +kernel
theorem dX6_isSure_0 : decode cX6_isSure 0 = .ok (.aload_n 0, 1) := by decide +kernel
theorem dX6_isSure_1 : decode cX6_isSure 1 = .ok (.getfield 7, 3) := by decide +kernel
theorem dX6_isSure_4 : decode cX6_isSure 4 = .ok (.iload_n 1, 1) := by decide +kernel
theorem dX6_isSure_5 : decode cX6_isSure 5 = .ok (.iconst 5, 1) := by decide +kernel
theorem dX6_isSure_6 : decode cX6_isSure 6 = .ok (.invokestatic 89, 3) := by decide +kernel
theorem dX6_isSure_9 : decode cX6_isSure 9 = .ok (.laload, 1) := by decide +kernel
theorem dX6_isSure_10 : decode cX6_isSure 10 = .ok (.lconst 1, 1) := by decide +kernel
theorem dX6_isSure_11 : decode cX6_isSure 11 = .ok (.lcmp, 1) := by decide +kernel
theorem dX6_isSure_12 : decode cX6_isSure 12 = .ok (.ifCond .le 35, 3) := by decide +kernel
theorem dX6_isSure_15 : decode cX6_isSure 15 = .ok (.lload_n 2, 1) := by decide +kernel
theorem dX6_isSure_16 : decode cX6_isSure 16 = .ok (.aload_n 0, 1) := by decide +kernel
theorem dX6_isSure_17 : decode cX6_isSure 17 = .ok (.getfield 7, 3) := by decide +kernel
theorem dX6_isSure_20 : decode cX6_isSure 20 = .ok (.iload_n 1, 1) := by decide +kernel
theorem dX6_isSure_21 : decode cX6_isSure 21 = .ok (.bipush 8, 2) := by decide +kernel
theorem dX6_isSure_23 : decode cX6_isSure 23 = .ok (.invokestatic 89, 3) := by decide +kernel
theorem dX6_isSure_26 : decode cX6_isSure 26 = .ok (.laload, 1) := by decide +kernel
theorem dX6_isSure_27 : decode cX6_isSure 27 = .ok (.aload_n 0, 1) := by decide +kernel
theorem dX6_isSure_28 : decode cX6_isSure 28 = .ok (.getfield 7, 3) := by decide +kernel
theorem dX6_isSure_31 : decode cX6_isSure 31 = .ok (.iload_n 1, 1) := by decide +kernel
theorem dX6_isSure_32 : decode cX6_isSure 32 = .ok (.bipush 9, 2) := by decide +kernel
theorem dX6_isSure_34 : decode cX6_isSure 34 = .ok (.invokestatic 89, 3) := by decide +kernel
theorem dX6_isSure_37 : decode cX6_isSure 37 = .ok (.laload, 1) := by decide +kernel
theorem dX6_isSure_38 : decode cX6_isSure 38 = .ok (.ladd, 1) := by decide +kernel
theorem dX6_isSure_39 : decode cX6_isSure 39 = .ok (.lcmp, 1) := by decide +kernel
theorem dX6_isSure_40 : decode cX6_isSure 40 = .ok (.ifCond .ge 7, 3) := by decide +kernel
theorem dX6_isSure_43 : decode cX6_isSure 43 = .ok (.iconst 1, 1) := by decide +kernel
theorem dX6_isSure_44 : decode cX6_isSure 44 = .ok (.goto 4, 3) := by decide +kernel
theorem dX6_isSure_47 : decode cX6_isSure 47 = .ok (.iconst 0, 1) := by decide +kernel
theorem dX6_isSure_48 : decode cX6_isSure 48 = .ok (.ireturn, 1) := by decide +kernel
theorem dX6_stands_0 : decode cX6_stands 0 = .ok (.iconst 0, 1) := by decide +kernel
theorem dX6_stands_1 : decode cX6_stands 1 = .ok (.istore_n 2, 1) := by decide +kernel
theorem dX6_stands_2 : decode cX6_stands 2 = .ok (.iconst 0, 1) := by decide +kernel
theorem dX6_stands_3 : decode cX6_stands 3 = .ok (.istore_n 3, 1) := by decide +kernel
theorem dX6_stands_4 : decode cX6_stands 4 = .ok (.iload_n 3, 1) := by decide +kernel
theorem dX6_stands_5 : decode cX6_stands 5 = .ok (.i2l, 1) := by decide +kernel
theorem dX6_stands_6 : decode cX6_stands 6 = .ok (.aload_n 0, 1) := by decide +kernel
theorem dX6_stands_7 : decode cX6_stands 7 = .ok (.getfield 7, 3) := by decide +kernel
theorem dX6_stands_10 : decode cX6_stands 10 = .ok (.sipush 5668, 3) := by decide +kernel
theorem dX6_stands_13 : decode cX6_stands 13 = .ok (.laload, 1) := by decide +kernel
theorem dX6_stands_14 : decode cX6_stands 14 = .ok (.lcmp, 1) := by decide +kernel
theorem dX6_stands_15 : decode cX6_stands 15 = .ok (.ifCond .ge 43, 3) := by decide +kernel
theorem dX6_stands_18 : decode cX6_stands 18 = .ok (.iload_n 2, 1) := by decide +kernel
theorem dX6_stands_19 : decode cX6_stands 19 = .ok (.ifCond .ne 27, 3) := by decide +kernel
theorem dX6_stands_22 : decode cX6_stands 22 = .ok (.aload_n 0, 1) := by decide +kernel
theorem dX6_stands_23 : decode cX6_stands 23 = .ok (.iload_n 1, 1) := by decide +kernel
theorem dX6_stands_24 : decode cX6_stands 24 = .ok (.iload_n 3, 1) := by decide +kernel
theorem dX6_stands_25 : decode cX6_stands 25 = .ok (.invokevirtual 101, 3) := by decide +kernel
theorem dX6_stands_28 : decode cX6_stands 28 = .ok (.ifCond .eq 22, 3) := by decide +kernel
theorem dX6_stands_31 : decode cX6_stands 31 = .ok (.aload_n 0, 1) := by decide +kernel
theorem dX6_stands_32 : decode cX6_stands 32 = .ok (.getfield 7, 3) := by decide +kernel
theorem dX6_stands_35 : decode cX6_stands 35 = .ok (.iload_n 3, 1) := by decide +kernel
theorem dX6_stands_36 : decode cX6_stands 36 = .ok (.iconst 4, 1) := by decide +kernel
theorem dX6_stands_37 : decode cX6_stands 37 = .ok (.invokestatic 63, 3) := by decide +kernel
theorem dX6_stands_40 : decode cX6_stands 40 = .ok (.laload, 1) := by decide +kernel
theorem dX6_stands_41 : decode cX6_stands 41 = .ok (.lconst 1, 1) := by decide +kernel
theorem dX6_stands_42 : decode cX6_stands 42 = .ok (.lcmp, 1) := by decide +kernel
theorem dX6_stands_43 : decode cX6_stands 43 = .ok (.ifCond .ne 7, 3) := by decide +kernel
theorem dX6_stands_46 : decode cX6_stands 46 = .ok (.iconst 1, 1) := by decide +kernel
theorem dX6_stands_47 : decode cX6_stands 47 = .ok (.goto 4, 3) := by decide +kernel
theorem dX6_stands_50 : decode cX6_stands 50 = .ok (.iconst 0, 1) := by decide +kernel
theorem dX6_stands_51 : decode cX6_stands 51 = .ok (.istore_n 2, 1) := by decide +kernel
theorem dX6_stands_52 : decode cX6_stands 52 = .ok (.iinc 3 1, 3) := by decide +kernel
theorem dX6_stands_55 : decode cX6_stands 55 = .ok (.goto (-51), 3) := by decide +kernel
theorem dX6_stands_58 : decode cX6_stands 58 = .ok (.iload_n 2, 1) := by decide +kernel
theorem dX6_stands_59 : decode cX6_stands 59 = .ok (.ifCond .ne 19, 3) := by decide +kernel
theorem dX6_stands_62 : decode cX6_stands 62 = .ok (.aload_n 0, 1) := by decide +kernel
theorem dX6_stands_63 : decode cX6_stands 63 = .ok (.iload_n 1, 1) := by decide +kernel
theorem dX6_stands_64 : decode cX6_stands 64 = .ok (.aload_n 0, 1) := by decide +kernel
theorem dX6_stands_65 : decode cX6_stands 65 = .ok (.getfield 7, 3) := by decide +kernel
theorem dX6_stands_68 : decode cX6_stands 68 = .ok (.sipush 5663, 3) := by decide +kernel
theorem dX6_stands_71 : decode cX6_stands 71 = .ok (.laload, 1) := by decide +kernel
theorem dX6_stands_72 : decode cX6_stands 72 = .ok (.invokevirtual 105, 3) := by decide +kernel
theorem dX6_stands_75 : decode cX6_stands 75 = .ok (.ifCond .eq 5, 3) := by decide +kernel
theorem dX6_stands_78 : decode cX6_stands 78 = .ok (.iconst 0, 1) := by decide +kernel
theorem dX6_stands_79 : decode cX6_stands 79 = .ok (.ireturn, 1) := by decide +kernel
theorem dX6_stands_80 : decode cX6_stands 80 = .ok (.aload_n 0, 1) := by decide +kernel
theorem dX6_stands_81 : decode cX6_stands 81 = .ok (.iload_n 1, 1) := by decide +kernel
theorem dX6_stands_82 : decode cX6_stands 82 = .ok (.invokevirtual 109, 3) := by decide +kernel
theorem dX6_stands_85 : decode cX6_stands 85 = .ok (.ifCond .eq 5, 3) := by decide +kernel
theorem dX6_stands_88 : decode cX6_stands 88 = .ok (.iconst 3, 1) := by decide +kernel
theorem dX6_stands_89 : decode cX6_stands 89 = .ok (.ireturn, 1) := by decide +kernel
theorem dX6_stands_90 : decode cX6_stands 90 = .ok (.aload_n 0, 1) := by decide +kernel
theorem dX6_stands_91 : decode cX6_stands 91 = .ok (.getfield 7, 3) := by decide +kernel
theorem dX6_stands_94 : decode cX6_stands 94 = .ok (.iload_n 1, 1) := by decide +kernel
theorem dX6_stands_95 : decode cX6_stands 95 = .ok (.bipush 10, 2) := by decide +kernel
theorem dX6_stands_97 : decode cX6_stands 97 = .ok (.invokestatic 89, 3) := by decide +kernel
theorem dX6_stands_100 : decode cX6_stands 100 = .ok (.laload, 1) := by decide +kernel
theorem dX6_stands_101 : decode cX6_stands 101 = .ok (.aload_n 0, 1) := by decide +kernel
theorem dX6_stands_102 : decode cX6_stands 102 = .ok (.getfield 7, 3) := by decide +kernel
theorem dX6_stands_105 : decode cX6_stands 105 = .ok (.sipush 5666, 3) := by decide +kernel
theorem dX6_stands_108 : decode cX6_stands 108 = .ok (.laload, 1) := by decide +kernel
theorem dX6_stands_109 : decode cX6_stands 109 = .ok (.lcmp, 1) := by decide +kernel
theorem dX6_stands_110 : decode cX6_stands 110 = .ok (.ifCond .ge 7, 3) := by decide +kernel
theorem dX6_stands_113 : decode cX6_stands 113 = .ok (.iconst 1, 1) := by decide +kernel
theorem dX6_stands_114 : decode cX6_stands 114 = .ok (.goto 4, 3) := by decide +kernel
theorem dX6_stands_117 : decode cX6_stands 117 = .ok (.iconst 2, 1) := by decide +kernel
theorem dX6_stands_118 : decode cX6_stands 118 = .ok (.ireturn, 1) := by decide +kernel
theorem dX6_heldBy_0 : decode cX6_heldBy 0 = .ok (.lconst 0, 1) := by decide +kernel
theorem dX6_heldBy_1 : decode cX6_heldBy 1 = .ok (.lstore_n 2, 1) := by decide +kernel
theorem dX6_heldBy_2 : decode cX6_heldBy 2 = .ok (.iconst 0, 1) := by decide +kernel
theorem dX6_heldBy_3 : decode cX6_heldBy 3 = .ok (.istore 4, 2) := by decide +kernel
theorem dX6_heldBy_5 : decode cX6_heldBy 5 = .ok (.iload 4, 2) := by decide +kernel
theorem dX6_heldBy_7 : decode cX6_heldBy 7 = .ok (.bipush 60, 2) := by decide +kernel
theorem dX6_heldBy_9 : decode cX6_heldBy 9 = .ok (.if_icmp .ge 28, 3) := by decide +kernel
theorem dX6_heldBy_12 : decode cX6_heldBy 12 = .ok (.lload_n 2, 1) := by decide +kernel
theorem dX6_heldBy_13 : decode cX6_heldBy 13 = .ok (.aload_n 0, 1) := by decide +kernel
theorem dX6_heldBy_14 : decode cX6_heldBy 14 = .ok (.getfield 7, 3) := by decide +kernel
theorem dX6_heldBy_17 : decode cX6_heldBy 17 = .ok (.sipush 3263, 3) := by decide +kernel
theorem dX6_heldBy_20 : decode cX6_heldBy 20 = .ok (.bipush 60, 2) := by decide +kernel
theorem dX6_heldBy_22 : decode cX6_heldBy 22 = .ok (.iload_n 1, 1) := by decide +kernel
theorem dX6_heldBy_23 : decode cX6_heldBy 23 = .ok (.imul, 1) := by decide +kernel
theorem dX6_heldBy_24 : decode cX6_heldBy 24 = .ok (.iadd, 1) := by decide +kernel
theorem dX6_heldBy_25 : decode cX6_heldBy 25 = .ok (.iload 4, 2) := by decide +kernel
theorem dX6_heldBy_27 : decode cX6_heldBy 27 = .ok (.iadd, 1) := by decide +kernel
theorem dX6_heldBy_28 : decode cX6_heldBy 28 = .ok (.laload, 1) := by decide +kernel
theorem dX6_heldBy_29 : decode cX6_heldBy 29 = .ok (.ladd, 1) := by decide +kernel
theorem dX6_heldBy_30 : decode cX6_heldBy 30 = .ok (.lstore_n 2, 1) := by decide +kernel
theorem dX6_heldBy_31 : decode cX6_heldBy 31 = .ok (.iinc 4 1, 3) := by decide +kernel
theorem dX6_heldBy_34 : decode cX6_heldBy 34 = .ok (.goto (-29), 3) := by decide +kernel
theorem dX6_heldBy_37 : decode cX6_heldBy 37 = .ok (.lload_n 2, 1) := by decide +kernel
theorem dX6_heldBy_38 : decode cX6_heldBy 38 = .ok (.lreturn, 1) := by decide +kernel
theorem dX6_share_0 : decode cX6_share 0 = .ok (.aload_n 0, 1) := by decide +kernel
theorem dX6_share_1 : decode cX6_share 1 = .ok (.iload_n 1, 1) := by decide +kernel
theorem dX6_share_2 : decode cX6_share 2 = .ok (.invokevirtual 92, 3) := by decide +kernel
theorem dX6_share_5 : decode cX6_share 5 = .ok (.ifCond .eq 15, 3) := by decide +kernel
theorem dX6_share_8 : decode cX6_share 8 = .ok (.iload_n 2, 1) := by decide +kernel
theorem dX6_share_9 : decode cX6_share 9 = .ok (.i2l, 1) := by decide +kernel
theorem dX6_share_10 : decode cX6_share 10 = .ok (.lconst 0, 1) := by decide +kernel
theorem dX6_share_11 : decode cX6_share 11 = .ok (.ldc2_w 112, 3) := by decide +kernel
theorem dX6_share_14 : decode cX6_share 14 = .ok (.invokestatic 35, 3) := by decide +kernel
theorem dX6_share_17 : decode cX6_share 17 = .ok (.ifCond .ne 7, 3) := by decide +kernel
theorem dX6_share_20 : decode cX6_share 20 = .ok (.ldc2_w 41, 3) := by decide +kernel
theorem dX6_share_23 : decode cX6_share 23 = .ok (.lreturn, 1) := by decide +kernel
theorem dX6_share_24 : decode cX6_share 24 = .ok (.iload_n 2, 1) := by decide +kernel
theorem dX6_share_25 : decode cX6_share 25 = .ok (.tableswitch 84 8 12 #[35, 41, 53, 65, 72], 35) := by decide +kernel
theorem dX6_share_60 : decode cX6_share 60 = .ok (.aload_n 0, 1) := by decide +kernel
theorem dX6_share_61 : decode cX6_share 61 = .ok (.iload_n 1, 1) := by decide +kernel
theorem dX6_share_62 : decode cX6_share 62 = .ok (.invokevirtual 114, 3) := by decide +kernel
theorem dX6_share_65 : decode cX6_share 65 = .ok (.lreturn, 1) := by decide +kernel
theorem dX6_share_66 : decode cX6_share 66 = .ok (.aload_n 0, 1) := by decide +kernel
theorem dX6_share_67 : decode cX6_share 67 = .ok (.getfield 7, 3) := by decide +kernel
theorem dX6_share_70 : decode cX6_share 70 = .ok (.iload_n 1, 1) := by decide +kernel
theorem dX6_share_71 : decode cX6_share 71 = .ok (.bipush 8, 2) := by decide +kernel
theorem dX6_share_73 : decode cX6_share 73 = .ok (.invokestatic 89, 3) := by decide +kernel
theorem dX6_share_76 : decode cX6_share 76 = .ok (.laload, 1) := by decide +kernel
theorem dX6_share_77 : decode cX6_share 77 = .ok (.lreturn, 1) := by decide +kernel
theorem dX6_share_78 : decode cX6_share 78 = .ok (.aload_n 0, 1) := by decide +kernel
theorem dX6_share_79 : decode cX6_share 79 = .ok (.getfield 7, 3) := by decide +kernel
theorem dX6_share_82 : decode cX6_share 82 = .ok (.iload_n 1, 1) := by decide +kernel
theorem dX6_share_83 : decode cX6_share 83 = .ok (.bipush 10, 2) := by decide +kernel
theorem dX6_share_85 : decode cX6_share 85 = .ok (.invokestatic 89, 3) := by decide +kernel
theorem dX6_share_88 : decode cX6_share 88 = .ok (.laload, 1) := by decide +kernel
theorem dX6_share_89 : decode cX6_share 89 = .ok (.lreturn, 1) := by decide +kernel
theorem dX6_share_90 : decode cX6_share 90 = .ok (.aload_n 0, 1) := by decide +kernel
theorem dX6_share_91 : decode cX6_share 91 = .ok (.iload_n 1, 1) := by decide +kernel
theorem dX6_share_92 : decode cX6_share 92 = .ok (.invokevirtual 117, 3) := by decide +kernel
theorem dX6_share_95 : decode cX6_share 95 = .ok (.i2l, 1) := by decide +kernel
theorem dX6_share_96 : decode cX6_share 96 = .ok (.lreturn, 1) := by decide +kernel
theorem dX6_share_97 : decode cX6_share 97 = .ok (.aload_n 0, 1) := by decide +kernel
theorem dX6_share_98 : decode cX6_share 98 = .ok (.getfield 7, 3) := by decide +kernel
theorem dX6_share_101 : decode cX6_share 101 = .ok (.iload_n 1, 1) := by decide +kernel
theorem dX6_share_102 : decode cX6_share 102 = .ok (.bipush 12, 2) := by decide +kernel
theorem dX6_share_104 : decode cX6_share 104 = .ok (.invokestatic 89, 3) := by decide +kernel
theorem dX6_share_107 : decode cX6_share 107 = .ok (.laload, 1) := by decide +kernel
theorem dX6_share_108 : decode cX6_share 108 = .ok (.lreturn, 1) := by decide +kernel
theorem dX6_share_109 : decode cX6_share 109 = .ok (.aload_n 0, 1) := by decide +kernel
theorem dX6_share_110 : decode cX6_share 110 = .ok (.getfield 7, 3) := by decide +kernel
theorem dX6_share_113 : decode cX6_share 113 = .ok (.iload_n 1, 1) := by decide +kernel
theorem dX6_share_114 : decode cX6_share 114 = .ok (.iload_n 2, 1) := by decide +kernel
theorem dX6_share_115 : decode cX6_share 115 = .ok (.invokestatic 89, 3) := by decide +kernel
theorem dX6_share_118 : decode cX6_share 118 = .ok (.laload, 1) := by decide +kernel
theorem dX6_share_119 : decode cX6_share 119 = .ok (.lreturn, 1) := by decide +kernel
theorem dX6_drew_0 : decode cX6_drew 0 = .ok (.aload_n 0, 1) := by decide +kernel
theorem dX6_drew_1 : decode cX6_drew 1 = .ok (.iload_n 1, 1) := by decide +kernel
theorem dX6_drew_2 : decode cX6_drew 2 = .ok (.invokevirtual 92, 3) := by decide +kernel
theorem dX6_drew_5 : decode cX6_drew 5 = .ok (.ifCond .eq 40, 3) := by decide +kernel
theorem dX6_drew_8 : decode cX6_drew 8 = .ok (.iload_n 2, 1) := by decide +kernel
theorem dX6_drew_9 : decode cX6_drew 9 = .ok (.i2l, 1) := by decide +kernel
theorem dX6_drew_10 : decode cX6_drew 10 = .ok (.lconst 0, 1) := by decide +kernel
theorem dX6_drew_11 : decode cX6_drew 11 = .ok (.aload_n 0, 1) := by decide +kernel
theorem dX6_drew_12 : decode cX6_drew 12 = .ok (.getfield 7, 3) := by decide +kernel
theorem dX6_drew_15 : decode cX6_drew 15 = .ok (.sipush 5663, 3) := by decide +kernel
theorem dX6_drew_18 : decode cX6_drew 18 = .ok (.laload, 1) := by decide +kernel
theorem dX6_drew_19 : decode cX6_drew 19 = .ok (.lconst 1, 1) := by decide +kernel
theorem dX6_drew_20 : decode cX6_drew 20 = .ok (.lsub, 1) := by decide +kernel
theorem dX6_drew_21 : decode cX6_drew 21 = .ok (.invokestatic 35, 3) := by decide +kernel
theorem dX6_drew_24 : decode cX6_drew 24 = .ok (.ifCond .eq 21, 3) := by decide +kernel
theorem dX6_drew_27 : decode cX6_drew 27 = .ok (.aload_n 0, 1) := by decide +kernel
theorem dX6_drew_28 : decode cX6_drew 28 = .ok (.getfield 7, 3) := by decide +kernel
theorem dX6_drew_31 : decode cX6_drew 31 = .ok (.sipush 863, 3) := by decide +kernel
theorem dX6_drew_34 : decode cX6_drew 34 = .ok (.bipush 60, 2) := by decide +kernel
theorem dX6_drew_36 : decode cX6_drew 36 = .ok (.iload_n 1, 1) := by decide +kernel
theorem dX6_drew_37 : decode cX6_drew 37 = .ok (.imul, 1) := by decide +kernel
theorem dX6_drew_38 : decode cX6_drew 38 = .ok (.iadd, 1) := by decide +kernel
theorem dX6_drew_39 : decode cX6_drew 39 = .ok (.iload_n 2, 1) := by decide +kernel
theorem dX6_drew_40 : decode cX6_drew 40 = .ok (.iadd, 1) := by decide +kernel
theorem dX6_drew_41 : decode cX6_drew 41 = .ok (.laload, 1) := by decide +kernel
theorem dX6_drew_42 : decode cX6_drew 42 = .ok (.goto 6, 3) := by decide +kernel
theorem dX6_drew_45 : decode cX6_drew 45 = .ok (.ldc2_w 41, 3) := by decide +kernel
theorem dX6_drew_48 : decode cX6_drew 48 = .ok (.lreturn, 1) := by decide +kernel
theorem dX6_pays_0 : decode cX6_pays 0 = .ok (.lload_n 2, 1) := by decide +kernel
theorem dX6_pays_1 : decode cX6_pays 1 = .ok (.aload_n 0, 1) := by decide +kernel
theorem dX6_pays_2 : decode cX6_pays 2 = .ok (.getfield 7, 3) := by decide +kernel
theorem dX6_pays_5 : decode cX6_pays 5 = .ok (.sipush 5667, 3) := by decide +kernel
theorem dX6_pays_8 : decode cX6_pays 8 = .ok (.laload, 1) := by decide +kernel
theorem dX6_pays_9 : decode cX6_pays 9 = .ok (.lmul, 1) := by decide +kernel
theorem dX6_pays_10 : decode cX6_pays 10 = .ok (.ldc2_w 45, 3) := by decide +kernel
theorem dX6_pays_13 : decode cX6_pays 13 = .ok (.ldiv, 1) := by decide +kernel
theorem dX6_pays_14 : decode cX6_pays 14 = .ok (.lstore 4, 2) := by decide +kernel
theorem dX6_pays_16 : decode cX6_pays 16 = .ok (.aload_n 0, 1) := by decide +kernel
theorem dX6_pays_17 : decode cX6_pays 17 = .ok (.getfield 7, 3) := by decide +kernel
theorem dX6_pays_20 : decode cX6_pays 20 = .ok (.sipush 5665, 3) := by decide +kernel
theorem dX6_pays_23 : decode cX6_pays 23 = .ok (.dup2, 1) := by decide +kernel
theorem dX6_pays_24 : decode cX6_pays 24 = .ok (.laload, 1) := by decide +kernel
theorem dX6_pays_25 : decode cX6_pays 25 = .ok (.lload 4, 2) := by decide +kernel
theorem dX6_pays_27 : decode cX6_pays 27 = .ok (.ladd, 1) := by decide +kernel
theorem dX6_pays_28 : decode cX6_pays 28 = .ok (.lastore, 1) := by decide +kernel
theorem dX6_pays_29 : decode cX6_pays 29 = .ok (.lload_n 2, 1) := by decide +kernel
theorem dX6_pays_30 : decode cX6_pays 30 = .ok (.lload 4, 2) := by decide +kernel
theorem dX6_pays_32 : decode cX6_pays 32 = .ok (.lsub, 1) := by decide +kernel
theorem dX6_pays_33 : decode cX6_pays 33 = .ok (.lstore 6, 2) := by decide +kernel
theorem dX6_pays_35 : decode cX6_pays 35 = .ok (.aload_n 0, 1) := by decide +kernel
theorem dX6_pays_36 : decode cX6_pays 36 = .ok (.getfield 7, 3) := by decide +kernel
theorem dX6_pays_39 : decode cX6_pays 39 = .ok (.iload_n 1, 1) := by decide +kernel
theorem dX6_pays_40 : decode cX6_pays 40 = .ok (.iconst 0, 1) := by decide +kernel
theorem dX6_pays_41 : decode cX6_pays 41 = .ok (.invokestatic 89, 3) := by decide +kernel
theorem dX6_pays_44 : decode cX6_pays 44 = .ok (.laload, 1) := by decide +kernel
theorem dX6_pays_45 : decode cX6_pays 45 = .ok (.l2i, 1) := by decide +kernel
theorem dX6_pays_46 : decode cX6_pays 46 = .ok (.iconst 2, 1) := by decide +kernel
theorem dX6_pays_47 : decode cX6_pays 47 = .ok (.invokestatic 63, 3) := by decide +kernel
theorem dX6_pays_50 : decode cX6_pays 50 = .ok (.istore 8, 2) := by decide +kernel
theorem dX6_pays_52 : decode cX6_pays 52 = .ok (.aload_n 0, 1) := by decide +kernel
theorem dX6_pays_53 : decode cX6_pays 53 = .ok (.getfield 7, 3) := by decide +kernel
theorem dX6_pays_56 : decode cX6_pays 56 = .ok (.iload 8, 2) := by decide +kernel
theorem dX6_pays_58 : decode cX6_pays 58 = .ok (.laload, 1) := by decide +kernel
theorem dX6_pays_59 : decode cX6_pays 59 = .ok (.lload 6, 2) := by decide +kernel
theorem dX6_pays_61 : decode cX6_pays 61 = .ok (.lcmp, 1) := by decide +kernel
theorem dX6_pays_62 : decode cX6_pays 62 = .ok (.ifCond .ge 13, 3) := by decide +kernel
theorem dX6_pays_65 : decode cX6_pays 65 = .ok (.aload_n 0, 1) := by decide +kernel
theorem dX6_pays_66 : decode cX6_pays 66 = .ok (.getfield 7, 3) := by decide +kernel
end
section
theorem dX6_pays_69 : decode cX6_pays 69 = .ok (.iload 8, 2) := by decide +kernel
theorem dX6_pays_71 : decode cX6_pays 71 = .ok (.laload, 1) := by decide +kernel
theorem dX6_pays_72 : decode cX6_pays 72 = .ok (.goto 5, 3) := by decide +kernel
theorem dX6_pays_75 : decode cX6_pays 75 = .ok (.lload 6, 2) := by decide +kernel
theorem dX6_pays_77 : decode cX6_pays 77 = .ok (.lstore 9, 2) := by decide +kernel
theorem dX6_pays_79 : decode cX6_pays 79 = .ok (.aload_n 0, 1) := by decide +kernel
theorem dX6_pays_80 : decode cX6_pays 80 = .ok (.getfield 7, 3) := by decide +kernel
theorem dX6_pays_83 : decode cX6_pays 83 = .ok (.iload 8, 2) := by decide +kernel
theorem dX6_pays_85 : decode cX6_pays 85 = .ok (.dup2, 1) := by decide +kernel
theorem dX6_pays_86 : decode cX6_pays 86 = .ok (.laload, 1) := by decide +kernel
theorem dX6_pays_87 : decode cX6_pays 87 = .ok (.lload 9, 2) := by decide +kernel
theorem dX6_pays_89 : decode cX6_pays 89 = .ok (.lsub, 1) := by decide +kernel
theorem dX6_pays_90 : decode cX6_pays 90 = .ok (.lastore, 1) := by decide +kernel
theorem dX6_pays_91 : decode cX6_pays 91 = .ok (.aload_n 0, 1) := by decide +kernel
theorem dX6_pays_92 : decode cX6_pays 92 = .ok (.getfield 7, 3) := by decide +kernel
theorem dX6_pays_95 : decode cX6_pays 95 = .ok (.sipush 5664, 3) := by decide +kernel
theorem dX6_pays_98 : decode cX6_pays 98 = .ok (.dup2, 1) := by decide +kernel
theorem dX6_pays_99 : decode cX6_pays 99 = .ok (.laload, 1) := by decide +kernel
theorem dX6_pays_100 : decode cX6_pays 100 = .ok (.lload 9, 2) := by decide +kernel
theorem dX6_pays_102 : decode cX6_pays 102 = .ok (.ladd, 1) := by decide +kernel
theorem dX6_pays_103 : decode cX6_pays 103 = .ok (.lastore, 1) := by decide +kernel
theorem dX6_pays_104 : decode cX6_pays 104 = .ok (.lload 6, 2) := by decide +kernel
theorem dX6_pays_106 : decode cX6_pays 106 = .ok (.lload 9, 2) := by decide +kernel
theorem dX6_pays_108 : decode cX6_pays 108 = .ok (.lsub, 1) := by decide +kernel
theorem dX6_pays_109 : decode cX6_pays 109 = .ok (.lstore 6, 2) := by decide +kernel
theorem dX6_pays_111 : decode cX6_pays 111 = .ok (.aload_n 0, 1) := by decide +kernel
theorem dX6_pays_112 : decode cX6_pays 112 = .ok (.getfield 7, 3) := by decide +kernel
theorem dX6_pays_115 : decode cX6_pays 115 = .ok (.iload_n 1, 1) := by decide +kernel
theorem dX6_pays_116 : decode cX6_pays 116 = .ok (.bipush 12, 2) := by decide +kernel
theorem dX6_pays_118 : decode cX6_pays 118 = .ok (.invokestatic 89, 3) := by decide +kernel
theorem dX6_pays_121 : decode cX6_pays 121 = .ok (.laload, 1) := by decide +kernel
theorem dX6_pays_122 : decode cX6_pays 122 = .ok (.lload 6, 2) := by decide +kernel
theorem dX6_pays_124 : decode cX6_pays 124 = .ok (.lcmp, 1) := by decide +kernel
theorem dX6_pays_125 : decode cX6_pays 125 = .ok (.ifCond .ge 17, 3) := by decide +kernel
theorem dX6_pays_128 : decode cX6_pays 128 = .ok (.aload_n 0, 1) := by decide +kernel
theorem dX6_pays_129 : decode cX6_pays 129 = .ok (.getfield 7, 3) := by decide +kernel
theorem dX6_pays_132 : decode cX6_pays 132 = .ok (.iload_n 1, 1) := by decide +kernel
theorem dX6_pays_133 : decode cX6_pays 133 = .ok (.bipush 12, 2) := by decide +kernel
theorem dX6_pays_135 : decode cX6_pays 135 = .ok (.invokestatic 89, 3) := by decide +kernel
theorem dX6_pays_138 : decode cX6_pays 138 = .ok (.laload, 1) := by decide +kernel
theorem dX6_pays_139 : decode cX6_pays 139 = .ok (.goto 5, 3) := by decide +kernel
theorem dX6_pays_142 : decode cX6_pays 142 = .ok (.lload 6, 2) := by decide +kernel
theorem dX6_pays_144 : decode cX6_pays 144 = .ok (.lstore 11, 2) := by decide +kernel
theorem dX6_pays_146 : decode cX6_pays 146 = .ok (.aload_n 0, 1) := by decide +kernel
theorem dX6_pays_147 : decode cX6_pays 147 = .ok (.getfield 7, 3) := by decide +kernel
theorem dX6_pays_150 : decode cX6_pays 150 = .ok (.iload_n 1, 1) := by decide +kernel
theorem dX6_pays_151 : decode cX6_pays 151 = .ok (.bipush 12, 2) := by decide +kernel
theorem dX6_pays_153 : decode cX6_pays 153 = .ok (.invokestatic 89, 3) := by decide +kernel
theorem dX6_pays_156 : decode cX6_pays 156 = .ok (.dup2, 1) := by decide +kernel
theorem dX6_pays_157 : decode cX6_pays 157 = .ok (.laload, 1) := by decide +kernel
theorem dX6_pays_158 : decode cX6_pays 158 = .ok (.lload 11, 2) := by decide +kernel
theorem dX6_pays_160 : decode cX6_pays 160 = .ok (.lsub, 1) := by decide +kernel
theorem dX6_pays_161 : decode cX6_pays 161 = .ok (.lastore, 1) := by decide +kernel
theorem dX6_pays_162 : decode cX6_pays 162 = .ok (.aload_n 0, 1) := by decide +kernel
theorem dX6_pays_163 : decode cX6_pays 163 = .ok (.getfield 7, 3) := by decide +kernel
theorem dX6_pays_166 : decode cX6_pays 166 = .ok (.aload_n 0, 1) := by decide +kernel
theorem dX6_pays_167 : decode cX6_pays 167 = .ok (.getfield 7, 3) := by decide +kernel
theorem dX6_pays_170 : decode cX6_pays 170 = .ok (.iload_n 1, 1) := by decide +kernel
theorem dX6_pays_171 : decode cX6_pays 171 = .ok (.bipush 11, 2) := by decide +kernel
theorem dX6_pays_173 : decode cX6_pays 173 = .ok (.invokestatic 89, 3) := by decide +kernel
theorem dX6_pays_176 : decode cX6_pays 176 = .ok (.laload, 1) := by decide +kernel
theorem dX6_pays_177 : decode cX6_pays 177 = .ok (.l2i, 1) := by decide +kernel
theorem dX6_pays_178 : decode cX6_pays 178 = .ok (.iconst 1, 1) := by decide +kernel
theorem dX6_pays_179 : decode cX6_pays 179 = .ok (.invokestatic 63, 3) := by decide +kernel
theorem dX6_pays_182 : decode cX6_pays 182 = .ok (.dup2, 1) := by decide +kernel
theorem dX6_pays_183 : decode cX6_pays 183 = .ok (.laload, 1) := by decide +kernel
theorem dX6_pays_184 : decode cX6_pays 184 = .ok (.lload 11, 2) := by decide +kernel
theorem dX6_pays_186 : decode cX6_pays 186 = .ok (.ladd, 1) := by decide +kernel
theorem dX6_pays_187 : decode cX6_pays 187 = .ok (.lastore, 1) := by decide +kernel
theorem dX6_pays_188 : decode cX6_pays 188 = .ok (.lload 6, 2) := by decide +kernel
theorem dX6_pays_190 : decode cX6_pays 190 = .ok (.lload 11, 2) := by decide +kernel
theorem dX6_pays_192 : decode cX6_pays 192 = .ok (.lsub, 1) := by decide +kernel
theorem dX6_pays_193 : decode cX6_pays 193 = .ok (.lstore 6, 2) := by decide +kernel
theorem dX6_pays_195 : decode cX6_pays 195 = .ok (.aload_n 0, 1) := by decide +kernel
theorem dX6_pays_196 : decode cX6_pays 196 = .ok (.getfield 7, 3) := by decide +kernel
theorem dX6_pays_199 : decode cX6_pays 199 = .ok (.aload_n 0, 1) := by decide +kernel
theorem dX6_pays_200 : decode cX6_pays 200 = .ok (.getfield 7, 3) := by decide +kernel
theorem dX6_pays_203 : decode cX6_pays 203 = .ok (.iload_n 1, 1) := by decide +kernel
theorem dX6_pays_204 : decode cX6_pays 204 = .ok (.iconst 0, 1) := by decide +kernel
theorem dX6_pays_205 : decode cX6_pays 205 = .ok (.invokestatic 89, 3) := by decide +kernel
theorem dX6_pays_208 : decode cX6_pays 208 = .ok (.laload, 1) := by decide +kernel
theorem dX6_pays_209 : decode cX6_pays 209 = .ok (.l2i, 1) := by decide +kernel
theorem dX6_pays_210 : decode cX6_pays 210 = .ok (.iconst 1, 1) := by decide +kernel
theorem dX6_pays_211 : decode cX6_pays 211 = .ok (.invokestatic 63, 3) := by decide +kernel
theorem dX6_pays_214 : decode cX6_pays 214 = .ok (.dup2, 1) := by decide +kernel
theorem dX6_pays_215 : decode cX6_pays 215 = .ok (.laload, 1) := by decide +kernel
theorem dX6_pays_216 : decode cX6_pays 216 = .ok (.lload 6, 2) := by decide +kernel
theorem dX6_pays_218 : decode cX6_pays 218 = .ok (.ladd, 1) := by decide +kernel
theorem dX6_pays_219 : decode cX6_pays 219 = .ok (.lastore, 1) := by decide +kernel
theorem dX6_pays_220 : decode cX6_pays 220 = .ok (.aload_n 0, 1) := by decide +kernel
theorem dX6_pays_221 : decode cX6_pays 221 = .ok (.getfield 7, 3) := by decide +kernel
theorem dX6_pays_224 : decode cX6_pays 224 = .ok (.iload_n 1, 1) := by decide +kernel
theorem dX6_pays_225 : decode cX6_pays 225 = .ok (.bipush 7, 2) := by decide +kernel
theorem dX6_pays_227 : decode cX6_pays 227 = .ok (.invokestatic 89, 3) := by decide +kernel
theorem dX6_pays_230 : decode cX6_pays 230 = .ok (.dup2, 1) := by decide +kernel
theorem dX6_pays_231 : decode cX6_pays 231 = .ok (.laload, 1) := by decide +kernel
theorem dX6_pays_232 : decode cX6_pays 232 = .ok (.lload_n 2, 1) := by decide +kernel
theorem dX6_pays_233 : decode cX6_pays 233 = .ok (.ladd, 1) := by decide +kernel
theorem dX6_pays_234 : decode cX6_pays 234 = .ok (.lastore, 1) := by decide +kernel
theorem dX6_pays_235 : decode cX6_pays 235 = .ok (.return_, 1) := by decide +kernel
theorem dX6_proof_0 : decode cX6_proof 0 = .ok (.aload_n 0, 1) := by decide +kernel
theorem dX6_proof_1 : decode cX6_proof 1 = .ok (.iload_n 1, 1) := by decide +kernel
theorem dX6_proof_2 : decode cX6_proof 2 = .ok (.invokevirtual 66, 3) := by decide +kernel
theorem dX6_proof_5 : decode cX6_proof 5 = .ok (.ifCond .eq 27, 3) := by decide +kernel
theorem dX6_proof_8 : decode cX6_proof 8 = .ok (.aload_n 0, 1) := by decide +kernel
theorem dX6_proof_9 : decode cX6_proof 9 = .ok (.iload_n 1, 1) := by decide +kernel
theorem dX6_proof_10 : decode cX6_proof 10 = .ok (.i2l, 1) := by decide +kernel
theorem dX6_proof_11 : decode cX6_proof 11 = .ok (.invokevirtual 75, 3) := by decide +kernel
theorem dX6_proof_14 : decode cX6_proof 14 = .ok (.ifCond .ne 18, 3) := by decide +kernel
theorem dX6_proof_17 : decode cX6_proof 17 = .ok (.aload_n 0, 1) := by decide +kernel
theorem dX6_proof_18 : decode cX6_proof 18 = .ok (.getfield 7, 3) := by decide +kernel
theorem dX6_proof_21 : decode cX6_proof 21 = .ok (.iload_n 1, 1) := by decide +kernel
theorem dX6_proof_22 : decode cX6_proof 22 = .ok (.iconst 4, 1) := by decide +kernel
theorem dX6_proof_23 : decode cX6_proof 23 = .ok (.invokestatic 63, 3) := by decide +kernel
theorem dX6_proof_26 : decode cX6_proof 26 = .ok (.laload, 1) := by decide +kernel
theorem dX6_proof_27 : decode cX6_proof 27 = .ok (.lconst 1, 1) := by decide +kernel
theorem dX6_proof_28 : decode cX6_proof 28 = .ok (.lcmp, 1) := by decide +kernel
theorem dX6_proof_29 : decode cX6_proof 29 = .ok (.ifCond .ne 7, 3) := by decide +kernel
theorem dX6_proof_32 : decode cX6_proof 32 = .ok (.ldc2_w 41, 3) := by decide +kernel
theorem dX6_proof_35 : decode cX6_proof 35 = .ok (.lreturn, 1) := by decide +kernel
theorem dX6_proof_36 : decode cX6_proof 36 = .ok (.aload_n 0, 1) := by decide +kernel
theorem dX6_proof_37 : decode cX6_proof 37 = .ok (.getfield 7, 3) := by decide +kernel
theorem dX6_proof_40 : decode cX6_proof 40 = .ok (.iload_n 1, 1) := by decide +kernel
theorem dX6_proof_41 : decode cX6_proof 41 = .ok (.iconst 4, 1) := by decide +kernel
theorem dX6_proof_42 : decode cX6_proof 42 = .ok (.invokestatic 63, 3) := by decide +kernel
theorem dX6_proof_45 : decode cX6_proof 45 = .ok (.lconst 1, 1) := by decide +kernel
theorem dX6_proof_46 : decode cX6_proof 46 = .ok (.lastore, 1) := by decide +kernel
theorem dX6_proof_47 : decode cX6_proof 47 = .ok (.lconst 0, 1) := by decide +kernel
theorem dX6_proof_48 : decode cX6_proof 48 = .ok (.lstore_n 2, 1) := by decide +kernel
theorem dX6_proof_49 : decode cX6_proof 49 = .ok (.iconst 0, 1) := by decide +kernel
theorem dX6_proof_50 : decode cX6_proof 50 = .ok (.istore 4, 2) := by decide +kernel
theorem dX6_proof_52 : decode cX6_proof 52 = .ok (.iload 4, 2) := by decide +kernel
theorem dX6_proof_54 : decode cX6_proof 54 = .ok (.i2l, 1) := by decide +kernel
theorem dX6_proof_55 : decode cX6_proof 55 = .ok (.aload_n 0, 1) := by decide +kernel
theorem dX6_proof_56 : decode cX6_proof 56 = .ok (.getfield 7, 3) := by decide +kernel
theorem dX6_proof_59 : decode cX6_proof 59 = .ok (.sipush 5670, 3) := by decide +kernel
theorem dX6_proof_62 : decode cX6_proof 62 = .ok (.laload, 1) := by decide +kernel
theorem dX6_proof_63 : decode cX6_proof 63 = .ok (.lcmp, 1) := by decide +kernel
theorem dX6_proof_64 : decode cX6_proof 64 = .ok (.ifCond .ge 90, 3) := by decide +kernel
theorem dX6_proof_67 : decode cX6_proof 67 = .ok (.aload_n 0, 1) := by decide +kernel
theorem dX6_proof_68 : decode cX6_proof 68 = .ok (.iload 4, 2) := by decide +kernel
theorem dX6_proof_70 : decode cX6_proof 70 = .ok (.iload_n 1, 1) := by decide +kernel
theorem dX6_proof_71 : decode cX6_proof 71 = .ok (.invokevirtual 101, 3) := by decide +kernel
theorem dX6_proof_74 : decode cX6_proof 74 = .ok (.ifCond .ne 6, 3) := by decide +kernel
theorem dX6_proof_77 : decode cX6_proof 77 = .ok (.goto 71, 3) := by decide +kernel
theorem dX6_proof_80 : decode cX6_proof 80 = .ok (.aload_n 0, 1) := by decide +kernel
theorem dX6_proof_81 : decode cX6_proof 81 = .ok (.iload 4, 2) := by decide +kernel
theorem dX6_proof_83 : decode cX6_proof 83 = .ok (.invokevirtual 114, 3) := by decide +kernel
theorem dX6_proof_86 : decode cX6_proof 86 = .ok (.lstore 5, 2) := by decide +kernel
theorem dX6_proof_88 : decode cX6_proof 88 = .ok (.iconst 0, 1) := by decide +kernel
theorem dX6_proof_89 : decode cX6_proof 89 = .ok (.istore 7, 2) := by decide +kernel
theorem dX6_proof_91 : decode cX6_proof 91 = .ok (.iload 7, 2) := by decide +kernel
theorem dX6_proof_93 : decode cX6_proof 93 = .ok (.bipush 60, 2) := by decide +kernel
theorem dX6_proof_95 : decode cX6_proof 95 = .ok (.if_icmp .ge 27, 3) := by decide +kernel
theorem dX6_proof_98 : decode cX6_proof 98 = .ok (.aload_n 0, 1) := by decide +kernel
theorem dX6_proof_99 : decode cX6_proof 99 = .ok (.getfield 7, 3) := by decide +kernel
theorem dX6_proof_102 : decode cX6_proof 102 = .ok (.sipush 3263, 3) := by decide +kernel
theorem dX6_proof_105 : decode cX6_proof 105 = .ok (.bipush 60, 2) := by decide +kernel
theorem dX6_proof_107 : decode cX6_proof 107 = .ok (.iload 4, 2) := by decide +kernel
theorem dX6_proof_109 : decode cX6_proof 109 = .ok (.imul, 1) := by decide +kernel
theorem dX6_proof_110 : decode cX6_proof 110 = .ok (.iadd, 1) := by decide +kernel
theorem dX6_proof_111 : decode cX6_proof 111 = .ok (.iload 7, 2) := by decide +kernel
theorem dX6_proof_113 : decode cX6_proof 113 = .ok (.iadd, 1) := by decide +kernel
theorem dX6_proof_114 : decode cX6_proof 114 = .ok (.lconst 0, 1) := by decide +kernel
theorem dX6_proof_115 : decode cX6_proof 115 = .ok (.lastore, 1) := by decide +kernel
theorem dX6_proof_116 : decode cX6_proof 116 = .ok (.iinc 7 1, 3) := by decide +kernel
theorem dX6_proof_119 : decode cX6_proof 119 = .ok (.goto (-28), 3) := by decide +kernel
theorem dX6_proof_122 : decode cX6_proof 122 = .ok (.aload_n 0, 1) := by decide +kernel
theorem dX6_proof_123 : decode cX6_proof 123 = .ok (.iload 4, 2) := by decide +kernel
theorem dX6_proof_125 : decode cX6_proof 125 = .ok (.lload 5, 2) := by decide +kernel
theorem dX6_proof_127 : decode cX6_proof 127 = .ok (.invokevirtual 121, 3) := by decide +kernel
theorem dX6_proof_130 : decode cX6_proof 130 = .ok (.aload_n 0, 1) := by decide +kernel
theorem dX6_proof_131 : decode cX6_proof 131 = .ok (.getfield 7, 3) := by decide +kernel
theorem dX6_proof_134 : decode cX6_proof 134 = .ok (.iload 4, 2) := by decide +kernel
theorem dX6_proof_136 : decode cX6_proof 136 = .ok (.bipush 10, 2) := by decide +kernel
theorem dX6_proof_138 : decode cX6_proof 138 = .ok (.invokestatic 89, 3) := by decide +kernel
theorem dX6_proof_141 : decode cX6_proof 141 = .ok (.lconst 0, 1) := by decide +kernel
theorem dX6_proof_142 : decode cX6_proof 142 = .ok (.lastore, 1) := by decide +kernel
theorem dX6_proof_143 : decode cX6_proof 143 = .ok (.lload_n 2, 1) := by decide +kernel
theorem dX6_proof_144 : decode cX6_proof 144 = .ok (.lload 5, 2) := by decide +kernel
theorem dX6_proof_146 : decode cX6_proof 146 = .ok (.ladd, 1) := by decide +kernel
theorem dX6_proof_147 : decode cX6_proof 147 = .ok (.lstore_n 2, 1) := by decide +kernel
theorem dX6_proof_148 : decode cX6_proof 148 = .ok (.iinc 4 1, 3) := by decide +kernel
theorem dX6_proof_151 : decode cX6_proof 151 = .ok (.goto (-99), 3) := by decide +kernel
theorem dX6_proof_154 : decode cX6_proof 154 = .ok (.lload_n 2, 1) := by decide +kernel
theorem dX6_proof_155 : decode cX6_proof 155 = .ok (.lreturn, 1) := by decide +kernel
theorem dX6_death_0 : decode cX6_death 0 = .ok (.aload_n 0, 1) := by decide +kernel
theorem dX6_death_1 : decode cX6_death 1 = .ok (.iload_n 1, 1) := by decide +kernel
theorem dX6_death_2 : decode cX6_death 2 = .ok (.invokevirtual 66, 3) := by decide +kernel
theorem dX6_death_5 : decode cX6_death 5 = .ok (.ifCond .eq 42, 3) := by decide +kernel
theorem dX6_death_8 : decode cX6_death 8 = .ok (.aload_n 0, 1) := by decide +kernel
theorem dX6_death_9 : decode cX6_death 9 = .ok (.iload_n 1, 1) := by decide +kernel
theorem dX6_death_10 : decode cX6_death 10 = .ok (.i2l, 1) := by decide +kernel
theorem dX6_death_11 : decode cX6_death 11 = .ok (.invokevirtual 75, 3) := by decide +kernel
theorem dX6_death_14 : decode cX6_death 14 = .ok (.ifCond .ne 33, 3) := by decide +kernel
theorem dX6_death_17 : decode cX6_death 17 = .ok (.iload_n 2, 1) := by decide +kernel
theorem dX6_death_18 : decode cX6_death 18 = .ok (.i2l, 1) := by decide +kernel
theorem dX6_death_19 : decode cX6_death 19 = .ok (.aload_n 0, 1) := by decide +kernel
theorem dX6_death_20 : decode cX6_death 20 = .ok (.getfield 7, 3) := by decide +kernel
theorem dX6_death_23 : decode cX6_death 23 = .ok (.iload_n 1, 1) := by decide +kernel
theorem dX6_death_24 : decode cX6_death 24 = .ok (.iconst 0, 1) := by decide +kernel
theorem dX6_death_25 : decode cX6_death 25 = .ok (.invokestatic 63, 3) := by decide +kernel
theorem dX6_death_28 : decode cX6_death 28 = .ok (.laload, 1) := by decide +kernel
theorem dX6_death_29 : decode cX6_death 29 = .ok (.lcmp, 1) := by decide +kernel
theorem dX6_death_30 : decode cX6_death 30 = .ok (.ifCond .lt 17, 3) := by decide +kernel
theorem dX6_death_33 : decode cX6_death 33 = .ok (.iload_n 2, 1) := by decide +kernel
theorem dX6_death_34 : decode cX6_death 34 = .ok (.i2l, 1) := by decide +kernel
theorem dX6_death_35 : decode cX6_death 35 = .ok (.aload_n 0, 1) := by decide +kernel
theorem dX6_death_36 : decode cX6_death 36 = .ok (.getfield 7, 3) := by decide +kernel
theorem dX6_death_39 : decode cX6_death 39 = .ok (.sipush 5663, 3) := by decide +kernel
theorem dX6_death_42 : decode cX6_death 42 = .ok (.laload, 1) := by decide +kernel
theorem dX6_death_43 : decode cX6_death 43 = .ok (.lcmp, 1) := by decide +kernel
theorem dX6_death_44 : decode cX6_death 44 = .ok (.ifCond .le 7, 3) := by decide +kernel
theorem dX6_death_47 : decode cX6_death 47 = .ok (.ldc2_w 41, 3) := by decide +kernel
theorem dX6_death_50 : decode cX6_death 50 = .ok (.lreturn, 1) := by decide +kernel
theorem dX6_death_51 : decode cX6_death 51 = .ok (.aload_n 0, 1) := by decide +kernel
theorem dX6_death_52 : decode cX6_death 52 = .ok (.getfield 7, 3) := by decide +kernel
theorem dX6_death_55 : decode cX6_death 55 = .ok (.iload_n 1, 1) := by decide +kernel
theorem dX6_death_56 : decode cX6_death 56 = .ok (.iconst 5, 1) := by decide +kernel
theorem dX6_death_57 : decode cX6_death 57 = .ok (.invokestatic 63, 3) := by decide +kernel
theorem dX6_death_60 : decode cX6_death 60 = .ok (.lconst 1, 1) := by decide +kernel
theorem dX6_death_61 : decode cX6_death 61 = .ok (.lastore, 1) := by decide +kernel
theorem dX6_death_62 : decode cX6_death 62 = .ok (.aload_n 0, 1) := by decide +kernel
theorem dX6_death_63 : decode cX6_death 63 = .ok (.getfield 7, 3) := by decide +kernel
theorem dX6_death_66 : decode cX6_death 66 = .ok (.iload_n 1, 1) := by decide +kernel
theorem dX6_death_67 : decode cX6_death 67 = .ok (.bipush 6, 2) := by decide +kernel
theorem dX6_death_69 : decode cX6_death 69 = .ok (.invokestatic 63, 3) := by decide +kernel
theorem dX6_death_72 : decode cX6_death 72 = .ok (.iload_n 2, 1) := by decide +kernel
theorem dX6_death_73 : decode cX6_death 73 = .ok (.i2l, 1) := by decide +kernel
theorem dX6_death_74 : decode cX6_death 74 = .ok (.lastore, 1) := by decide +kernel
theorem dX6_death_75 : decode cX6_death 75 = .ok (.aload_n 0, 1) := by decide +kernel
theorem dX6_death_76 : decode cX6_death 76 = .ok (.getfield 7, 3) := by decide +kernel
theorem dX6_death_79 : decode cX6_death 79 = .ok (.iload_n 1, 1) := by decide +kernel
theorem dX6_death_80 : decode cX6_death 80 = .ok (.iconst 4, 1) := by decide +kernel
theorem dX6_death_81 : decode cX6_death 81 = .ok (.invokestatic 63, 3) := by decide +kernel
theorem dX6_death_84 : decode cX6_death 84 = .ok (.lconst 0, 1) := by decide +kernel
theorem dX6_death_85 : decode cX6_death 85 = .ok (.lastore, 1) := by decide +kernel
theorem dX6_death_86 : decode cX6_death 86 = .ok (.lconst 0, 1) := by decide +kernel
theorem dX6_death_87 : decode cX6_death 87 = .ok (.lstore_n 3, 1) := by decide +kernel
theorem dX6_death_88 : decode cX6_death 88 = .ok (.iconst 0, 1) := by decide +kernel
theorem dX6_death_89 : decode cX6_death 89 = .ok (.istore 5, 2) := by decide +kernel
theorem dX6_death_91 : decode cX6_death 91 = .ok (.iload 5, 2) := by decide +kernel
theorem dX6_death_93 : decode cX6_death 93 = .ok (.i2l, 1) := by decide +kernel
theorem dX6_death_94 : decode cX6_death 94 = .ok (.aload_n 0, 1) := by decide +kernel
theorem dX6_death_95 : decode cX6_death 95 = .ok (.getfield 7, 3) := by decide +kernel
theorem dX6_death_98 : decode cX6_death 98 = .ok (.sipush 5670, 3) := by decide +kernel
theorem dX6_death_101 : decode cX6_death 101 = .ok (.laload, 1) := by decide +kernel
theorem dX6_death_102 : decode cX6_death 102 = .ok (.lcmp, 1) := by decide +kernel
theorem dX6_death_103 : decode cX6_death 103 = .ok (.ifCond .ge 37, 3) := by decide +kernel
theorem dX6_death_106 : decode cX6_death 106 = .ok (.aload_n 0, 1) := by decide +kernel
theorem dX6_death_107 : decode cX6_death 107 = .ok (.iload 5, 2) := by decide +kernel
theorem dX6_death_109 : decode cX6_death 109 = .ok (.iload_n 1, 1) := by decide +kernel
theorem dX6_death_110 : decode cX6_death 110 = .ok (.invokevirtual 101, 3) := by decide +kernel
theorem dX6_death_113 : decode cX6_death 113 = .ok (.ifCond .eq 21, 3) := by decide +kernel
theorem dX6_death_116 : decode cX6_death 116 = .ok (.aload_n 0, 1) := by decide +kernel
theorem dX6_death_117 : decode cX6_death 117 = .ok (.iload 5, 2) := by decide +kernel
theorem dX6_death_119 : decode cX6_death 119 = .ok (.invokevirtual 109, 3) := by decide +kernel
theorem dX6_death_122 : decode cX6_death 122 = .ok (.ifCond .eq 12, 3) := by decide +kernel
theorem dX6_death_125 : decode cX6_death 125 = .ok (.lload_n 3, 1) := by decide +kernel
theorem dX6_death_126 : decode cX6_death 126 = .ok (.aload_n 0, 1) := by decide +kernel
theorem dX6_death_127 : decode cX6_death 127 = .ok (.iload 5, 2) := by decide +kernel
theorem dX6_death_129 : decode cX6_death 129 = .ok (.invokevirtual 125, 3) := by decide +kernel
theorem dX6_death_132 : decode cX6_death 132 = .ok (.ladd, 1) := by decide +kernel
theorem dX6_death_133 : decode cX6_death 133 = .ok (.lstore_n 3, 1) := by decide +kernel
theorem dX6_death_134 : decode cX6_death 134 = .ok (.iinc 5 1, 3) := by decide +kernel
theorem dX6_death_137 : decode cX6_death 137 = .ok (.goto (-46), 3) := by decide +kernel
theorem dX6_death_140 : decode cX6_death 140 = .ok (.lload_n 3, 1) := by decide +kernel
theorem dX6_death_141 : decode cX6_death 141 = .ok (.lreturn, 1) := by decide +kernel
theorem dX6_ends_0 : decode cX6_ends 0 = .ok (.aload_n 0, 1) := by decide +kernel
theorem dX6_ends_1 : decode cX6_ends 1 = .ok (.getfield 7, 3) := by decide +kernel
theorem dX6_ends_4 : decode cX6_ends 4 = .ok (.aload_n 0, 1) := by decide +kernel
theorem dX6_ends_5 : decode cX6_ends 5 = .ok (.getfield 7, 3) := by decide +kernel
theorem dX6_ends_8 : decode cX6_ends 8 = .ok (.iload_n 1, 1) := by decide +kernel
theorem dX6_ends_9 : decode cX6_ends 9 = .ok (.iconst 1, 1) := by decide +kernel
theorem dX6_ends_10 : decode cX6_ends 10 = .ok (.invokestatic 89, 3) := by decide +kernel
theorem dX6_ends_13 : decode cX6_ends 13 = .ok (.laload, 1) := by decide +kernel
theorem dX6_ends_14 : decode cX6_ends 14 = .ok (.l2i, 1) := by decide +kernel
theorem dX6_ends_15 : decode cX6_ends 15 = .ok (.bipush 6, 2) := by decide +kernel
theorem dX6_ends_17 : decode cX6_ends 17 = .ok (.invokestatic 63, 3) := by decide +kernel
theorem dX6_ends_20 : decode cX6_ends 20 = .ok (.laload, 1) := by decide +kernel
theorem dX6_ends_21 : decode cX6_ends 21 = .ok (.lstore_n 2, 1) := by decide +kernel
theorem dX6_ends_22 : decode cX6_ends 22 = .ok (.aload_n 0, 1) := by decide +kernel
theorem dX6_ends_23 : decode cX6_ends 23 = .ok (.getfield 7, 3) := by decide +kernel
theorem dX6_ends_26 : decode cX6_ends 26 = .ok (.iload_n 1, 1) := by decide +kernel
theorem dX6_ends_27 : decode cX6_ends 27 = .ok (.iconst 2, 1) := by decide +kernel
theorem dX6_ends_28 : decode cX6_ends 28 = .ok (.invokestatic 89, 3) := by decide +kernel
theorem dX6_ends_31 : decode cX6_ends 31 = .ok (.laload, 1) := by decide +kernel
theorem dX6_ends_32 : decode cX6_ends 32 = .ok (.lstore 4, 2) := by decide +kernel
theorem dX6_ends_34 : decode cX6_ends 34 = .ok (.lload 4, 2) := by decide +kernel
theorem dX6_ends_36 : decode cX6_ends 36 = .ok (.lconst 0, 1) := by decide +kernel
theorem dX6_ends_37 : decode cX6_ends 37 = .ok (.lcmp, 1) := by decide +kernel
theorem dX6_ends_38 : decode cX6_ends 38 = .ok (.ifCond .lt 35, 3) := by decide +kernel
theorem dX6_ends_41 : decode cX6_ends 41 = .ok (.aload_n 0, 1) := by decide +kernel
theorem dX6_ends_42 : decode cX6_ends 42 = .ok (.getfield 7, 3) := by decide +kernel
theorem dX6_ends_45 : decode cX6_ends 45 = .ok (.lload 4, 2) := by decide +kernel
theorem dX6_ends_47 : decode cX6_ends 47 = .ok (.l2i, 1) := by decide +kernel
theorem dX6_ends_48 : decode cX6_ends 48 = .ok (.bipush 6, 2) := by decide +kernel
theorem dX6_ends_50 : decode cX6_ends 50 = .ok (.invokestatic 63, 3) := by decide +kernel
theorem dX6_ends_53 : decode cX6_ends 53 = .ok (.laload, 1) := by decide +kernel
theorem dX6_ends_54 : decode cX6_ends 54 = .ok (.lload_n 2, 1) := by decide +kernel
theorem dX6_ends_55 : decode cX6_ends 55 = .ok (.lcmp, 1) := by decide +kernel
theorem dX6_ends_56 : decode cX6_ends 56 = .ok (.ifCond .le 17, 3) := by decide +kernel
theorem dX6_ends_59 : decode cX6_ends 59 = .ok (.aload_n 0, 1) := by decide +kernel
theorem dX6_ends_60 : decode cX6_ends 60 = .ok (.getfield 7, 3) := by decide +kernel
theorem dX6_ends_63 : decode cX6_ends 63 = .ok (.lload 4, 2) := by decide +kernel
theorem dX6_ends_65 : decode cX6_ends 65 = .ok (.l2i, 1) := by decide +kernel
theorem dX6_ends_66 : decode cX6_ends 66 = .ok (.bipush 6, 2) := by decide +kernel
theorem dX6_ends_68 : decode cX6_ends 68 = .ok (.invokestatic 63, 3) := by decide +kernel
theorem dX6_ends_71 : decode cX6_ends 71 = .ok (.laload, 1) := by decide +kernel
theorem dX6_ends_72 : decode cX6_ends 72 = .ok (.lstore_n 2, 1) := by decide +kernel
theorem dX6_ends_73 : decode cX6_ends 73 = .ok (.lconst 0, 1) := by decide +kernel
theorem dX6_ends_74 : decode cX6_ends 74 = .ok (.lstore 6, 2) := by decide +kernel
theorem dX6_ends_76 : decode cX6_ends 76 = .ok (.iconst 0, 1) := by decide +kernel
theorem dX6_ends_77 : decode cX6_ends 77 = .ok (.istore 8, 2) := by decide +kernel
theorem dX6_ends_79 : decode cX6_ends 79 = .ok (.iload 8, 2) := by decide +kernel
theorem dX6_ends_81 : decode cX6_ends 81 = .ok (.bipush 60, 2) := by decide +kernel
theorem dX6_ends_83 : decode cX6_ends 83 = .ok (.if_icmp .ge 97, 3) := by decide +kernel
theorem dX6_ends_86 : decode cX6_ends 86 = .ok (.sipush 3263, 3) := by decide +kernel
theorem dX6_ends_89 : decode cX6_ends 89 = .ok (.bipush 60, 2) := by decide +kernel
theorem dX6_ends_91 : decode cX6_ends 91 = .ok (.iload_n 1, 1) := by decide +kernel
theorem dX6_ends_92 : decode cX6_ends 92 = .ok (.imul, 1) := by decide +kernel
theorem dX6_ends_93 : decode cX6_ends 93 = .ok (.iadd, 1) := by decide +kernel
theorem dX6_ends_94 : decode cX6_ends 94 = .ok (.iload 8, 2) := by decide +kernel
theorem dX6_ends_96 : decode cX6_ends 96 = .ok (.iadd, 1) := by decide +kernel
theorem dX6_ends_97 : decode cX6_ends 97 = .ok (.istore 9, 2) := by decide +kernel
theorem dX6_ends_99 : decode cX6_ends 99 = .ok (.iload 8, 2) := by decide +kernel
theorem dX6_ends_101 : decode cX6_ends 101 = .ok (.i2l, 1) := by decide +kernel
theorem dX6_ends_102 : decode cX6_ends 102 = .ok (.lload_n 2, 1) := by decide +kernel
theorem dX6_ends_103 : decode cX6_ends 103 = .ok (.lcmp, 1) := by decide +kernel
theorem dX6_ends_104 : decode cX6_ends 104 = .ok (.ifCond .le 50, 3) := by decide +kernel
theorem dX6_ends_107 : decode cX6_ends 107 = .ok (.aload_n 0, 1) := by decide +kernel
theorem dX6_ends_108 : decode cX6_ends 108 = .ok (.getfield 7, 3) := by decide +kernel
theorem dX6_ends_111 : decode cX6_ends 111 = .ok (.sipush 5664, 3) := by decide +kernel
theorem dX6_ends_114 : decode cX6_ends 114 = .ok (.dup2, 1) := by decide +kernel
theorem dX6_ends_115 : decode cX6_ends 115 = .ok (.laload, 1) := by decide +kernel
theorem dX6_ends_116 : decode cX6_ends 116 = .ok (.aload_n 0, 1) := by decide +kernel
theorem dX6_ends_117 : decode cX6_ends 117 = .ok (.getfield 7, 3) := by decide +kernel
theorem dX6_ends_120 : decode cX6_ends 120 = .ok (.iload 9, 2) := by decide +kernel
theorem dX6_ends_122 : decode cX6_ends 122 = .ok (.laload, 1) := by decide +kernel
theorem dX6_ends_123 : decode cX6_ends 123 = .ok (.ladd, 1) := by decide +kernel
theorem dX6_ends_124 : decode cX6_ends 124 = .ok (.lastore, 1) := by decide +kernel
theorem dX6_ends_125 : decode cX6_ends 125 = .ok (.aload_n 0, 1) := by decide +kernel
theorem dX6_ends_126 : decode cX6_ends 126 = .ok (.getfield 7, 3) := by decide +kernel
theorem dX6_ends_129 : decode cX6_ends 129 = .ok (.sipush 863, 3) := by decide +kernel
theorem dX6_ends_132 : decode cX6_ends 132 = .ok (.bipush 60, 2) := by decide +kernel
theorem dX6_ends_134 : decode cX6_ends 134 = .ok (.iload_n 1, 1) := by decide +kernel
theorem dX6_ends_135 : decode cX6_ends 135 = .ok (.imul, 1) := by decide +kernel
theorem dX6_ends_136 : decode cX6_ends 136 = .ok (.iadd, 1) := by decide +kernel
theorem dX6_ends_137 : decode cX6_ends 137 = .ok (.iload 8, 2) := by decide +kernel
theorem dX6_ends_139 : decode cX6_ends 139 = .ok (.iadd, 1) := by decide +kernel
theorem dX6_ends_140 : decode cX6_ends 140 = .ok (.dup2, 1) := by decide +kernel
theorem dX6_ends_141 : decode cX6_ends 141 = .ok (.laload, 1) := by decide +kernel
theorem dX6_ends_142 : decode cX6_ends 142 = .ok (.aload_n 0, 1) := by decide +kernel
theorem dX6_ends_143 : decode cX6_ends 143 = .ok (.getfield 7, 3) := by decide +kernel
theorem dX6_ends_146 : decode cX6_ends 146 = .ok (.iload 9, 2) := by decide +kernel
theorem dX6_ends_148 : decode cX6_ends 148 = .ok (.laload, 1) := by decide +kernel
theorem dX6_ends_149 : decode cX6_ends 149 = .ok (.lsub, 1) := by decide +kernel
theorem dX6_ends_150 : decode cX6_ends 150 = .ok (.lastore, 1) := by decide +kernel
theorem dX6_ends_151 : decode cX6_ends 151 = .ok (.goto 15, 3) := by decide +kernel
theorem dX6_ends_154 : decode cX6_ends 154 = .ok (.lload 6, 2) := by decide +kernel
theorem dX6_ends_156 : decode cX6_ends 156 = .ok (.aload_n 0, 1) := by decide +kernel
theorem dX6_ends_157 : decode cX6_ends 157 = .ok (.getfield 7, 3) := by decide +kernel
theorem dX6_ends_160 : decode cX6_ends 160 = .ok (.iload 9, 2) := by decide +kernel
theorem dX6_ends_162 : decode cX6_ends 162 = .ok (.laload, 1) := by decide +kernel
theorem dX6_ends_163 : decode cX6_ends 163 = .ok (.ladd, 1) := by decide +kernel
theorem dX6_ends_164 : decode cX6_ends 164 = .ok (.lstore 6, 2) := by decide +kernel
theorem dX6_ends_166 : decode cX6_ends 166 = .ok (.aload_n 0, 1) := by decide +kernel
theorem dX6_ends_167 : decode cX6_ends 167 = .ok (.getfield 7, 3) := by decide +kernel
theorem dX6_ends_170 : decode cX6_ends 170 = .ok (.iload 9, 2) := by decide +kernel
theorem dX6_ends_172 : decode cX6_ends 172 = .ok (.lconst 0, 1) := by decide +kernel
theorem dX6_ends_173 : decode cX6_ends 173 = .ok (.lastore, 1) := by decide +kernel
theorem dX6_ends_174 : decode cX6_ends 174 = .ok (.iinc 8 1, 3) := by decide +kernel
theorem dX6_ends_177 : decode cX6_ends 177 = .ok (.goto (-98), 3) := by decide +kernel
theorem dX6_ends_180 : decode cX6_ends 180 = .ok (.aload_n 0, 1) := by decide +kernel
theorem dX6_ends_181 : decode cX6_ends 181 = .ok (.iload_n 1, 1) := by decide +kernel
theorem dX6_ends_182 : decode cX6_ends 182 = .ok (.lload 6, 2) := by decide +kernel
theorem dX6_ends_184 : decode cX6_ends 184 = .ok (.invokevirtual 121, 3) := by decide +kernel
theorem dX6_ends_187 : decode cX6_ends 187 = .ok (.lconst 0, 1) := by decide +kernel
theorem dX6_ends_188 : decode cX6_ends 188 = .ok (.lstore 8, 2) := by decide +kernel
theorem dX6_ends_190 : decode cX6_ends 190 = .ok (.iconst 0, 1) := by decide +kernel
theorem dX6_ends_191 : decode cX6_ends 191 = .ok (.istore 10, 2) := by decide +kernel
theorem dX6_ends_193 : decode cX6_ends 193 = .ok (.iload 10, 2) := by decide +kernel
theorem dX6_ends_195 : decode cX6_ends 195 = .ok (.bipush 60, 2) := by decide +kernel
theorem dX6_ends_197 : decode cX6_ends 197 = .ok (.if_icmp .ge 49, 3) := by decide +kernel
theorem dX6_ends_200 : decode cX6_ends 200 = .ok (.iload 10, 2) := by decide +kernel
theorem dX6_ends_202 : decode cX6_ends 202 = .ok (.i2l, 1) := by decide +kernel
theorem dX6_ends_203 : decode cX6_ends 203 = .ok (.lload_n 2, 1) := by decide +kernel
theorem dX6_ends_204 : decode cX6_ends 204 = .ok (.lcmp, 1) := by decide +kernel
theorem dX6_ends_205 : decode cX6_ends 205 = .ok (.ifCond .le 35, 3) := by decide +kernel
theorem dX6_ends_208 : decode cX6_ends 208 = .ok (.aload_n 0, 1) := by decide +kernel
theorem dX6_ends_209 : decode cX6_ends 209 = .ok (.iload_n 1, 1) := by decide +kernel
theorem dX6_ends_210 : decode cX6_ends 210 = .ok (.iload 10, 2) := by decide +kernel
theorem dX6_ends_212 : decode cX6_ends 212 = .ok (.i2l, 1) := by decide +kernel
theorem dX6_ends_213 : decode cX6_ends 213 = .ok (.invokevirtual 105, 3) := by decide +kernel
theorem dX6_ends_216 : decode cX6_ends 216 = .ok (.ifCond .ne 24, 3) := by decide +kernel
theorem dX6_ends_219 : decode cX6_ends 219 = .ok (.lload 8, 2) := by decide +kernel
theorem dX6_ends_221 : decode cX6_ends 221 = .ok (.aload_n 0, 1) := by decide +kernel
theorem dX6_ends_222 : decode cX6_ends 222 = .ok (.getfield 7, 3) := by decide +kernel
theorem dX6_ends_225 : decode cX6_ends 225 = .ok (.sipush 863, 3) := by decide +kernel
theorem dX6_ends_228 : decode cX6_ends 228 = .ok (.bipush 60, 2) := by decide +kernel
theorem dX6_ends_230 : decode cX6_ends 230 = .ok (.iload_n 1, 1) := by decide +kernel
theorem dX6_ends_231 : decode cX6_ends 231 = .ok (.imul, 1) := by decide +kernel
theorem dX6_ends_232 : decode cX6_ends 232 = .ok (.iadd, 1) := by decide +kernel
theorem dX6_ends_233 : decode cX6_ends 233 = .ok (.iload 10, 2) := by decide +kernel
theorem dX6_ends_235 : decode cX6_ends 235 = .ok (.iadd, 1) := by decide +kernel
theorem dX6_ends_236 : decode cX6_ends 236 = .ok (.laload, 1) := by decide +kernel
theorem dX6_ends_237 : decode cX6_ends 237 = .ok (.ladd, 1) := by decide +kernel
theorem dX6_ends_238 : decode cX6_ends 238 = .ok (.lstore 8, 2) := by decide +kernel
theorem dX6_ends_240 : decode cX6_ends 240 = .ok (.iinc 10 1, 3) := by decide +kernel
theorem dX6_ends_243 : decode cX6_ends 243 = .ok (.goto (-50), 3) := by decide +kernel
theorem dX6_ends_246 : decode cX6_ends 246 = .ok (.aload_n 0, 1) := by decide +kernel
theorem dX6_ends_247 : decode cX6_ends 247 = .ok (.getfield 7, 3) := by decide +kernel
theorem dX6_ends_250 : decode cX6_ends 250 = .ok (.aload_n 0, 1) := by decide +kernel
theorem dX6_ends_251 : decode cX6_ends 251 = .ok (.getfield 7, 3) := by decide +kernel
theorem dX6_ends_254 : decode cX6_ends 254 = .ok (.iload_n 1, 1) := by decide +kernel
theorem dX6_ends_255 : decode cX6_ends 255 = .ok (.iconst 0, 1) := by decide +kernel
theorem dX6_ends_256 : decode cX6_ends 256 = .ok (.invokestatic 89, 3) := by decide +kernel
theorem dX6_ends_259 : decode cX6_ends 259 = .ok (.laload, 1) := by decide +kernel
theorem dX6_ends_260 : decode cX6_ends 260 = .ok (.l2i, 1) := by decide +kernel
theorem dX6_ends_261 : decode cX6_ends 261 = .ok (.iconst 2, 1) := by decide +kernel
theorem dX6_ends_262 : decode cX6_ends 262 = .ok (.invokestatic 63, 3) := by decide +kernel
theorem dX6_ends_265 : decode cX6_ends 265 = .ok (.dup2, 1) := by decide +kernel
theorem dX6_ends_266 : decode cX6_ends 266 = .ok (.laload, 1) := by decide +kernel
theorem dX6_ends_267 : decode cX6_ends 267 = .ok (.lload 8, 2) := by decide +kernel
theorem dX6_ends_269 : decode cX6_ends 269 = .ok (.ladd, 1) := by decide +kernel
theorem dX6_ends_270 : decode cX6_ends 270 = .ok (.lastore, 1) := by decide +kernel
theorem dX6_ends_271 : decode cX6_ends 271 = .ok (.lload 8, 2) := by decide +kernel
theorem dX6_ends_273 : decode cX6_ends 273 = .ok (.lreturn, 1) := by decide +kernel
theorem dX6_close_0 : decode cX6_close 0 = .ok (.iload_n 1, 1) := by decide +kernel
theorem dX6_close_1 : decode cX6_close 1 = .ok (.i2l, 1) := by decide +kernel
theorem dX6_close_2 : decode cX6_close 2 = .ok (.lconst 0, 1) := by decide +kernel
theorem dX6_close_3 : decode cX6_close 3 = .ok (.ldc2_w 128, 3) := by decide +kernel
theorem dX6_close_6 : decode cX6_close 6 = .ok (.invokestatic 35, 3) := by decide +kernel
theorem dX6_close_9 : decode cX6_close 9 = .ok (.ifCond .eq 18, 3) := by decide +kernel
theorem dX6_close_12 : decode cX6_close 12 = .ok (.aload_n 0, 1) := by decide +kernel
theorem dX6_close_13 : decode cX6_close 13 = .ok (.getfield 7, 3) := by decide +kernel
theorem dX6_close_16 : decode cX6_close 16 = .ok (.sipush 5663, 3) := by decide +kernel
theorem dX6_close_19 : decode cX6_close 19 = .ok (.laload, 1) := by decide +kernel
theorem dX6_close_20 : decode cX6_close 20 = .ok (.ldc2_w 130, 3) := by decide +kernel
theorem dX6_close_23 : decode cX6_close 23 = .ok (.lcmp, 1) := by decide +kernel
theorem dX6_close_24 : decode cX6_close 24 = .ok (.ifCond .ne 7, 3) := by decide +kernel
theorem dX6_close_27 : decode cX6_close 27 = .ok (.ldc2_w 41, 3) := by decide +kernel
theorem dX6_close_30 : decode cX6_close 30 = .ok (.lreturn, 1) := by decide +kernel
theorem dX6_close_31 : decode cX6_close 31 = .ok (.aload_n 0, 1) := by decide +kernel
theorem dX6_close_32 : decode cX6_close 32 = .ok (.getfield 7, 3) := by decide +kernel
theorem dX6_close_35 : decode cX6_close 35 = .ok (.sipush 5664, 3) := by decide +kernel
theorem dX6_close_38 : decode cX6_close 38 = .ok (.laload, 1) := by decide +kernel
theorem dX6_close_39 : decode cX6_close 39 = .ok (.iload_n 1, 1) := by decide +kernel
theorem dX6_close_40 : decode cX6_close 40 = .ok (.i2l, 1) := by decide +kernel
theorem dX6_close_41 : decode cX6_close 41 = .ok (.ladd, 1) := by decide +kernel
theorem dX6_close_42 : decode cX6_close 42 = .ok (.lstore_n 2, 1) := by decide +kernel
theorem dX6_close_43 : decode cX6_close 43 = .ok (.aload_n 0, 1) := by decide +kernel
theorem dX6_close_44 : decode cX6_close 44 = .ok (.getfield 7, 3) := by decide +kernel
theorem dX6_close_47 : decode cX6_close 47 = .ok (.sipush 5671, 3) := by decide +kernel
theorem dX6_close_50 : decode cX6_close 50 = .ok (.dup2, 1) := by decide +kernel
theorem dX6_close_51 : decode cX6_close 51 = .ok (.laload, 1) := by decide +kernel
theorem dX6_close_52 : decode cX6_close 52 = .ok (.iload_n 1, 1) := by decide +kernel
theorem dX6_close_53 : decode cX6_close 53 = .ok (.i2l, 1) := by decide +kernel
theorem dX6_close_54 : decode cX6_close 54 = .ok (.ladd, 1) := by decide +kernel
theorem dX6_close_55 : decode cX6_close 55 = .ok (.lastore, 1) := by decide +kernel
theorem dX6_close_56 : decode cX6_close 56 = .ok (.aload_n 0, 1) := by decide +kernel
theorem dX6_close_57 : decode cX6_close 57 = .ok (.getfield 7, 3) := by decide +kernel
theorem dX6_close_60 : decode cX6_close 60 = .ok (.sipush 5669, 3) := by decide +kernel
theorem dX6_close_63 : decode cX6_close 63 = .ok (.laload, 1) := by decide +kernel
theorem dX6_close_64 : decode cX6_close 64 = .ok (.l2i, 1) := by decide +kernel
theorem dX6_close_65 : decode cX6_close 65 = .ok (.istore 4, 2) := by decide +kernel
theorem dX6_close_67 : decode cX6_close 67 = .ok (.aload_n 0, 1) := by decide +kernel
theorem dX6_close_68 : decode cX6_close 68 = .ok (.getfield 7, 3) := by decide +kernel
theorem dX6_close_71 : decode cX6_close 71 = .ok (.sipush 5670, 3) := by decide +kernel
theorem dX6_close_74 : decode cX6_close 74 = .ok (.laload, 1) := by decide +kernel
theorem dX6_close_75 : decode cX6_close 75 = .ok (.l2i, 1) := by decide +kernel
theorem dX6_close_76 : decode cX6_close 76 = .ok (.istore 5, 2) := by decide +kernel
theorem dX6_close_78 : decode cX6_close 78 = .ok (.lconst 0, 1) := by decide +kernel
theorem dX6_close_79 : decode cX6_close 79 = .ok (.lstore 6, 2) := by decide +kernel
theorem dX6_close_81 : decode cX6_close 81 = .ok (.iconst 0, 1) := by decide +kernel
theorem dX6_close_82 : decode cX6_close 82 = .ok (.istore 8, 2) := by decide +kernel
theorem dX6_close_84 : decode cX6_close 84 = .ok (.iload 8, 2) := by decide +kernel
theorem dX6_close_86 : decode cX6_close 86 = .ok (.iload 4, 2) := by decide +kernel
theorem dX6_close_88 : decode cX6_close 88 = .ok (.if_icmp .ge 41, 3) := by decide +kernel
theorem dX6_close_91 : decode cX6_close 91 = .ok (.lload 6, 2) := by decide +kernel
theorem dX6_close_93 : decode cX6_close 93 = .ok (.aload_n 0, 1) := by decide +kernel
theorem dX6_close_94 : decode cX6_close 94 = .ok (.getfield 7, 3) := by decide +kernel
theorem dX6_close_97 : decode cX6_close 97 = .ok (.iload 8, 2) := by decide +kernel
theorem dX6_close_99 : decode cX6_close 99 = .ok (.iconst 3, 1) := by decide +kernel
theorem dX6_close_100 : decode cX6_close 100 = .ok (.invokestatic 55, 3) := by decide +kernel
theorem dX6_close_103 : decode cX6_close 103 = .ok (.laload, 1) := by decide +kernel
theorem dX6_close_104 : decode cX6_close 104 = .ok (.ladd, 1) := by decide +kernel
theorem dX6_close_105 : decode cX6_close 105 = .ok (.lstore 6, 2) := by decide +kernel
theorem dX6_close_107 : decode cX6_close 107 = .ok (.aload_n 0, 1) := by decide +kernel
theorem dX6_close_108 : decode cX6_close 108 = .ok (.getfield 19, 3) := by decide +kernel
theorem dX6_close_111 : decode cX6_close 111 = .ok (.iload 8, 2) := by decide +kernel
theorem dX6_close_113 : decode cX6_close 113 = .ok (.lconst 0, 1) := by decide +kernel
theorem dX6_close_114 : decode cX6_close 114 = .ok (.lastore, 1) := by decide +kernel
theorem dX6_close_115 : decode cX6_close 115 = .ok (.aload_n 0, 1) := by decide +kernel
theorem dX6_close_116 : decode cX6_close 116 = .ok (.getfield 16, 3) := by decide +kernel
theorem dX6_close_119 : decode cX6_close 119 = .ok (.iload 8, 2) := by decide +kernel
theorem dX6_close_121 : decode cX6_close 121 = .ok (.lconst 0, 1) := by decide +kernel
theorem dX6_close_122 : decode cX6_close 122 = .ok (.lastore, 1) := by decide +kernel
theorem dX6_close_123 : decode cX6_close 123 = .ok (.iinc 8 1, 3) := by decide +kernel
theorem dX6_close_126 : decode cX6_close 126 = .ok (.goto (-42), 3) := by decide +kernel
theorem dX6_close_129 : decode cX6_close 129 = .ok (.iconst 0, 1) := by decide +kernel
theorem dX6_close_130 : decode cX6_close 130 = .ok (.istore 8, 2) := by decide +kernel
theorem dX6_close_132 : decode cX6_close 132 = .ok (.iload 8, 2) := by decide +kernel
theorem dX6_close_134 : decode cX6_close 134 = .ok (.iload 5, 2) := by decide +kernel
theorem dX6_close_136 : decode cX6_close 136 = .ok (.if_icmp .ge 64, 3) := by decide +kernel
theorem dX6_close_139 : decode cX6_close 139 = .ok (.aload_n 0, 1) := by decide +kernel
theorem dX6_close_140 : decode cX6_close 140 = .ok (.getfield 25, 3) := by decide +kernel
theorem dX6_close_143 : decode cX6_close 143 = .ok (.iload 8, 2) := by decide +kernel
theorem dX6_close_145 : decode cX6_close 145 = .ok (.aload_n 0, 1) := by decide +kernel
theorem dX6_close_146 : decode cX6_close 146 = .ok (.iload 8, 2) := by decide +kernel
theorem dX6_close_148 : decode cX6_close 148 = .ok (.invokevirtual 117, 3) := by decide +kernel
theorem dX6_close_151 : decode cX6_close 151 = .ok (.iastore, 1) := by decide +kernel
theorem dX6_close_152 : decode cX6_close 152 = .ok (.aload_n 0, 1) := by decide +kernel
theorem dX6_close_153 : decode cX6_close 153 = .ok (.getfield 25, 3) := by decide +kernel
theorem dX6_close_156 : decode cX6_close 156 = .ok (.iload 8, 2) := by decide +kernel
theorem dX6_close_158 : decode cX6_close 158 = .ok (.iaload, 1) := by decide +kernel
theorem dX6_close_159 : decode cX6_close 159 = .ok (.iconst 2, 1) := by decide +kernel
theorem dX6_close_160 : decode cX6_close 160 = .ok (.if_icmp .ge 34, 3) := by decide +kernel
theorem dX6_close_163 : decode cX6_close 163 = .ok (.aload_n 0, 1) := by decide +kernel
theorem dX6_close_164 : decode cX6_close 164 = .ok (.getfield 19, 3) := by decide +kernel
theorem dX6_close_167 : decode cX6_close 167 = .ok (.aload_n 0, 1) := by decide +kernel
theorem dX6_close_168 : decode cX6_close 168 = .ok (.getfield 7, 3) := by decide +kernel
theorem dX6_close_171 : decode cX6_close 171 = .ok (.iload 8, 2) := by decide +kernel
theorem dX6_close_173 : decode cX6_close 173 = .ok (.iconst 4, 1) := by decide +kernel
theorem dX6_close_174 : decode cX6_close 174 = .ok (.invokestatic 89, 3) := by decide +kernel
theorem dX6_close_177 : decode cX6_close 177 = .ok (.laload, 1) := by decide +kernel
theorem dX6_close_178 : decode cX6_close 178 = .ok (.l2i, 1) := by decide +kernel
theorem dX6_close_179 : decode cX6_close 179 = .ok (.dup2, 1) := by decide +kernel
theorem dX6_close_180 : decode cX6_close 180 = .ok (.laload, 1) := by decide +kernel
theorem dX6_close_181 : decode cX6_close 181 = .ok (.aload_n 0, 1) := by decide +kernel
theorem dX6_close_182 : decode cX6_close 182 = .ok (.getfield 7, 3) := by decide +kernel
theorem dX6_close_185 : decode cX6_close 185 = .ok (.iload 8, 2) := by decide +kernel
theorem dX6_close_187 : decode cX6_close 187 = .ok (.iconst 3, 1) := by decide +kernel
theorem dX6_close_188 : decode cX6_close 188 = .ok (.invokestatic 89, 3) := by decide +kernel
theorem dX6_close_191 : decode cX6_close 191 = .ok (.laload, 1) := by decide +kernel
theorem dX6_close_192 : decode cX6_close 192 = .ok (.ladd, 1) := by decide +kernel
theorem dX6_close_193 : decode cX6_close 193 = .ok (.lastore, 1) := by decide +kernel
theorem dX6_close_194 : decode cX6_close 194 = .ok (.iinc 8 1, 3) := by decide +kernel
theorem dX6_close_197 : decode cX6_close 197 = .ok (.goto (-65), 3) := by decide +kernel
theorem dX6_close_200 : decode cX6_close 200 = .ok (.lload_n 2, 1) := by decide +kernel
theorem dX6_close_201 : decode cX6_close 201 = .ok (.lstore 8, 2) := by decide +kernel
theorem dX6_close_203 : decode cX6_close 203 = .ok (.iconst 0, 1) := by decide +kernel
theorem dX6_close_204 : decode cX6_close 204 = .ok (.istore 10, 2) := by decide +kernel
theorem dX6_close_206 : decode cX6_close 206 = .ok (.iload 10, 2) := by decide +kernel
theorem dX6_close_208 : decode cX6_close 208 = .ok (.iload 4, 2) := by decide +kernel
theorem dX6_close_210 : decode cX6_close 210 = .ok (.if_icmp .ge 92, 3) := by decide +kernel
theorem dX6_close_213 : decode cX6_close 213 = .ok (.lload 6, 2) := by decide +kernel
theorem dX6_close_215 : decode cX6_close 215 = .ok (.lconst 0, 1) := by decide +kernel
theorem dX6_close_216 : decode cX6_close 216 = .ok (.lcmp, 1) := by decide +kernel
theorem dX6_close_217 : decode cX6_close 217 = .ok (.ifCond .le 85, 3) := by decide +kernel
theorem dX6_close_220 : decode cX6_close 220 = .ok (.lload_n 2, 1) := by decide +kernel
theorem dX6_close_221 : decode cX6_close 221 = .ok (.aload_n 0, 1) := by decide +kernel
theorem dX6_close_222 : decode cX6_close 222 = .ok (.getfield 7, 3) := by decide +kernel
theorem dX6_close_225 : decode cX6_close 225 = .ok (.iload 10, 2) := by decide +kernel
theorem dX6_close_227 : decode cX6_close 227 = .ok (.iconst 3, 1) := by decide +kernel
theorem dX6_close_228 : decode cX6_close 228 = .ok (.invokestatic 55, 3) := by decide +kernel
theorem dX6_close_231 : decode cX6_close 231 = .ok (.laload, 1) := by decide +kernel
theorem dX6_close_232 : decode cX6_close 232 = .ok (.lmul, 1) := by decide +kernel
theorem dX6_close_233 : decode cX6_close 233 = .ok (.lload 6, 2) := by decide +kernel
theorem dX6_close_235 : decode cX6_close 235 = .ok (.ldiv, 1) := by decide +kernel
theorem dX6_close_236 : decode cX6_close 236 = .ok (.lstore 11, 2) := by decide +kernel
theorem dX6_close_238 : decode cX6_close 238 = .ok (.iload 10, 2) := by decide +kernel
theorem dX6_close_240 : decode cX6_close 240 = .ok (.istore 13, 2) := by decide +kernel
theorem dX6_close_242 : decode cX6_close 242 = .ok (.iload 13, 2) := by decide +kernel
theorem dX6_close_244 : decode cX6_close 244 = .ok (.iload 4, 2) := by decide +kernel
theorem dX6_close_246 : decode cX6_close 246 = .ok (.if_icmp .ge 21, 3) := by decide +kernel
theorem dX6_close_249 : decode cX6_close 249 = .ok (.aload_n 0, 1) := by decide +kernel
theorem dX6_close_250 : decode cX6_close 250 = .ok (.getfield 19, 3) := by decide +kernel
theorem dX6_close_253 : decode cX6_close 253 = .ok (.iload 13, 2) := by decide +kernel
theorem dX6_close_255 : decode cX6_close 255 = .ok (.laload, 1) := by decide +kernel
theorem dX6_close_256 : decode cX6_close 256 = .ok (.lconst 0, 1) := by decide +kernel
theorem dX6_close_257 : decode cX6_close 257 = .ok (.lcmp, 1) := by decide +kernel
theorem dX6_close_258 : decode cX6_close 258 = .ok (.ifCond .ne 9, 3) := by decide +kernel
theorem dX6_close_261 : decode cX6_close 261 = .ok (.iinc 13 1, 3) := by decide +kernel
theorem dX6_close_264 : decode cX6_close 264 = .ok (.goto (-22), 3) := by decide +kernel
theorem dX6_close_267 : decode cX6_close 267 = .ok (.iload 13, 2) := by decide +kernel
theorem dX6_close_269 : decode cX6_close 269 = .ok (.iload 4, 2) := by decide +kernel
theorem dX6_close_271 : decode cX6_close 271 = .ok (.if_icmp .ne 6, 3) := by decide +kernel
theorem dX6_close_274 : decode cX6_close 274 = .ok (.goto 22, 3) := by decide +kernel
theorem dX6_close_277 : decode cX6_close 277 = .ok (.aload_n 0, 1) := by decide +kernel
theorem dX6_close_278 : decode cX6_close 278 = .ok (.getfield 16, 3) := by decide +kernel
theorem dX6_close_281 : decode cX6_close 281 = .ok (.iload 13, 2) := by decide +kernel
theorem dX6_close_283 : decode cX6_close 283 = .ok (.dup2, 1) := by decide +kernel
theorem dX6_close_284 : decode cX6_close 284 = .ok (.laload, 1) := by decide +kernel
theorem dX6_close_285 : decode cX6_close 285 = .ok (.lload 11, 2) := by decide +kernel
theorem dX6_close_287 : decode cX6_close 287 = .ok (.ladd, 1) := by decide +kernel
theorem dX6_close_288 : decode cX6_close 288 = .ok (.lastore, 1) := by decide +kernel
theorem dX6_close_289 : decode cX6_close 289 = .ok (.lload 8, 2) := by decide +kernel
theorem dX6_close_291 : decode cX6_close 291 = .ok (.lload 11, 2) := by decide +kernel
theorem dX6_close_293 : decode cX6_close 293 = .ok (.lsub, 1) := by decide +kernel
theorem dX6_close_294 : decode cX6_close 294 = .ok (.lstore 8, 2) := by decide +kernel
theorem dX6_close_296 : decode cX6_close 296 = .ok (.iinc 10 1, 3) := by decide +kernel
theorem dX6_close_299 : decode cX6_close 299 = .ok (.goto (-93), 3) := by decide +kernel
theorem dX6_close_302 : decode cX6_close 302 = .ok (.iconst 0, 1) := by decide +kernel
theorem dX6_close_303 : decode cX6_close 303 = .ok (.istore 10, 2) := by decide +kernel
theorem dX6_close_305 : decode cX6_close 305 = .ok (.iload 10, 2) := by decide +kernel
theorem dX6_close_307 : decode cX6_close 307 = .ok (.iload 5, 2) := by decide +kernel
theorem dX6_close_309 : decode cX6_close 309 = .ok (.if_icmp .ge 84, 3) := by decide +kernel
theorem dX6_close_312 : decode cX6_close 312 = .ok (.aload_n 0, 1) := by decide +kernel
theorem dX6_close_313 : decode cX6_close 313 = .ok (.getfield 7, 3) := by decide +kernel
theorem dX6_close_316 : decode cX6_close 316 = .ok (.iload 10, 2) := by decide +kernel
theorem dX6_close_318 : decode cX6_close 318 = .ok (.iconst 4, 1) := by decide +kernel
theorem dX6_close_319 : decode cX6_close 319 = .ok (.invokestatic 89, 3) := by decide +kernel
theorem dX6_close_322 : decode cX6_close 322 = .ok (.laload, 1) := by decide +kernel
theorem dX6_close_323 : decode cX6_close 323 = .ok (.l2i, 1) := by decide +kernel
theorem dX6_close_324 : decode cX6_close 324 = .ok (.istore 11, 2) := by decide +kernel
theorem dX6_close_326 : decode cX6_close 326 = .ok (.aload_n 0, 1) := by decide +kernel
theorem dX6_close_327 : decode cX6_close 327 = .ok (.getfield 22, 3) := by decide +kernel
theorem dX6_close_330 : decode cX6_close 330 = .ok (.iload 10, 2) := by decide +kernel
theorem dX6_close_332 : decode cX6_close 332 = .ok (.aload_n 0, 1) := by decide +kernel
theorem dX6_close_333 : decode cX6_close 333 = .ok (.getfield 25, 3) := by decide +kernel
theorem dX6_close_336 : decode cX6_close 336 = .ok (.iload 10, 2) := by decide +kernel
theorem dX6_close_338 : decode cX6_close 338 = .ok (.iaload, 1) := by decide +kernel
theorem dX6_close_339 : decode cX6_close 339 = .ok (.iconst 2, 1) := by decide +kernel
theorem dX6_close_340 : decode cX6_close 340 = .ok (.if_icmp .ge 33, 3) := by decide +kernel
theorem dX6_close_343 : decode cX6_close 343 = .ok (.aload_n 0, 1) := by decide +kernel
theorem dX6_close_344 : decode cX6_close 344 = .ok (.getfield 16, 3) := by decide +kernel
theorem dX6_close_347 : decode cX6_close 347 = .ok (.iload 11, 2) := by decide +kernel
theorem dX6_close_349 : decode cX6_close 349 = .ok (.laload, 1) := by decide +kernel
theorem dX6_close_350 : decode cX6_close 350 = .ok (.aload_n 0, 1) := by decide +kernel
theorem dX6_close_351 : decode cX6_close 351 = .ok (.getfield 7, 3) := by decide +kernel
theorem dX6_close_354 : decode cX6_close 354 = .ok (.iload 10, 2) := by decide +kernel
theorem dX6_close_356 : decode cX6_close 356 = .ok (.iconst 3, 1) := by decide +kernel
theorem dX6_close_357 : decode cX6_close 357 = .ok (.invokestatic 89, 3) := by decide +kernel
theorem dX6_close_360 : decode cX6_close 360 = .ok (.laload, 1) := by decide +kernel
theorem dX6_close_361 : decode cX6_close 361 = .ok (.lmul, 1) := by decide +kernel
theorem dX6_close_362 : decode cX6_close 362 = .ok (.aload_n 0, 1) := by decide +kernel
theorem dX6_close_363 : decode cX6_close 363 = .ok (.getfield 19, 3) := by decide +kernel
theorem dX6_close_366 : decode cX6_close 366 = .ok (.iload 11, 2) := by decide +kernel
theorem dX6_close_368 : decode cX6_close 368 = .ok (.laload, 1) := by decide +kernel
theorem dX6_close_369 : decode cX6_close 369 = .ok (.ldiv, 1) := by decide +kernel
theorem dX6_close_370 : decode cX6_close 370 = .ok (.goto 4, 3) := by decide +kernel
theorem dX6_close_373 : decode cX6_close 373 = .ok (.lconst 0, 1) := by decide +kernel
theorem dX6_close_374 : decode cX6_close 374 = .ok (.lastore, 1) := by decide +kernel
theorem dX6_close_375 : decode cX6_close 375 = .ok (.lload 8, 2) := by decide +kernel
theorem dX6_close_377 : decode cX6_close 377 = .ok (.aload_n 0, 1) := by decide +kernel
theorem dX6_close_378 : decode cX6_close 378 = .ok (.getfield 22, 3) := by decide +kernel
theorem dX6_close_381 : decode cX6_close 381 = .ok (.iload 10, 2) := by decide +kernel
theorem dX6_close_383 : decode cX6_close 383 = .ok (.laload, 1) := by decide +kernel
theorem dX6_close_384 : decode cX6_close 384 = .ok (.lsub, 1) := by decide +kernel
theorem dX6_close_385 : decode cX6_close 385 = .ok (.lstore 8, 2) := by decide +kernel
theorem dX6_close_387 : decode cX6_close 387 = .ok (.iinc 10 1, 3) := by decide +kernel
theorem dX6_close_390 : decode cX6_close 390 = .ok (.goto (-85), 3) := by decide +kernel
theorem dX6_close_393 : decode cX6_close 393 = .ok (.iconst 0, 1) := by decide +kernel
theorem dX6_close_394 : decode cX6_close 394 = .ok (.istore 10, 2) := by decide +kernel
theorem dX6_close_396 : decode cX6_close 396 = .ok (.iload 10, 2) := by decide +kernel
theorem dX6_close_398 : decode cX6_close 398 = .ok (.iload 4, 2) := by decide +kernel
theorem dX6_close_400 : decode cX6_close 400 = .ok (.if_icmp .ge 21, 3) := by decide +kernel
theorem dX6_close_403 : decode cX6_close 403 = .ok (.lload 8, 2) := by decide +kernel
theorem dX6_close_405 : decode cX6_close 405 = .ok (.aload_n 0, 1) := by decide +kernel
theorem dX6_close_406 : decode cX6_close 406 = .ok (.getfield 16, 3) := by decide +kernel
theorem dX6_close_409 : decode cX6_close 409 = .ok (.iload 10, 2) := by decide +kernel
theorem dX6_close_411 : decode cX6_close 411 = .ok (.laload, 1) := by decide +kernel
theorem dX6_close_412 : decode cX6_close 412 = .ok (.ladd, 1) := by decide +kernel
theorem dX6_close_413 : decode cX6_close 413 = .ok (.lstore 8, 2) := by decide +kernel
theorem dX6_close_415 : decode cX6_close 415 = .ok (.iinc 10 1, 3) := by decide +kernel
theorem dX6_close_418 : decode cX6_close 418 = .ok (.goto (-22), 3) := by decide +kernel
theorem dX6_close_421 : decode cX6_close 421 = .ok (.aload_n 0, 1) := by decide +kernel
theorem dX6_close_422 : decode cX6_close 422 = .ok (.getfield 7, 3) := by decide +kernel
theorem dX6_close_425 : decode cX6_close 425 = .ok (.sipush 5664, 3) := by decide +kernel
theorem dX6_close_428 : decode cX6_close 428 = .ok (.lload 8, 2) := by decide +kernel
theorem dX6_close_430 : decode cX6_close 430 = .ok (.lastore, 1) := by decide +kernel
theorem dX6_close_431 : decode cX6_close 431 = .ok (.aload_n 0, 1) := by decide +kernel
theorem dX6_close_432 : decode cX6_close 432 = .ok (.getfield 7, 3) := by decide +kernel
theorem dX6_close_435 : decode cX6_close 435 = .ok (.sipush 5663, 3) := by decide +kernel
theorem dX6_close_438 : decode cX6_close 438 = .ok (.laload, 1) := by decide +kernel
theorem dX6_close_439 : decode cX6_close 439 = .ok (.l2i, 1) := by decide +kernel
theorem dX6_close_440 : decode cX6_close 440 = .ok (.istore 10, 2) := by decide +kernel
theorem dX6_close_442 : decode cX6_close 442 = .ok (.lconst 0, 1) := by decide +kernel
theorem dX6_close_443 : decode cX6_close 443 = .ok (.lstore 11, 2) := by decide +kernel
theorem dX6_close_445 : decode cX6_close 445 = .ok (.iconst 0, 1) := by decide +kernel
theorem dX6_close_446 : decode cX6_close 446 = .ok (.istore 13, 2) := by decide +kernel
theorem dX6_close_448 : decode cX6_close 448 = .ok (.iload 13, 2) := by decide +kernel
theorem dX6_close_450 : decode cX6_close 450 = .ok (.iload 5, 2) := by decide +kernel
theorem dX6_close_452 : decode cX6_close 452 = .ok (.if_icmp .ge 165, 3) := by decide +kernel
theorem dX6_close_455 : decode cX6_close 455 = .ok (.aload_n 0, 1) := by decide +kernel
theorem dX6_close_456 : decode cX6_close 456 = .ok (.getfield 25, 3) := by decide +kernel
theorem dX6_close_459 : decode cX6_close 459 = .ok (.iload 13, 2) := by decide +kernel
theorem dX6_close_461 : decode cX6_close 461 = .ok (.iaload, 1) := by decide +kernel
theorem dX6_close_462 : decode cX6_close 462 = .ok (.iconst 2, 1) := by decide +kernel
theorem dX6_close_463 : decode cX6_close 463 = .ok (.if_icmp .ge 27, 3) := by decide +kernel
theorem dX6_close_466 : decode cX6_close 466 = .ok (.aload_n 0, 1) := by decide +kernel
theorem dX6_close_467 : decode cX6_close 467 = .ok (.getfield 7, 3) := by decide +kernel
theorem dX6_close_470 : decode cX6_close 470 = .ok (.sipush 863, 3) := by decide +kernel
theorem dX6_close_473 : decode cX6_close 473 = .ok (.bipush 60, 2) := by decide +kernel
theorem dX6_close_475 : decode cX6_close 475 = .ok (.iload 13, 2) := by decide +kernel
theorem dX6_close_477 : decode cX6_close 477 = .ok (.imul, 1) := by decide +kernel
theorem dX6_close_478 : decode cX6_close 478 = .ok (.iadd, 1) := by decide +kernel
theorem dX6_close_479 : decode cX6_close 479 = .ok (.iload 10, 2) := by decide +kernel
theorem dX6_close_481 : decode cX6_close 481 = .ok (.iadd, 1) := by decide +kernel
theorem dX6_close_482 : decode cX6_close 482 = .ok (.aload_n 0, 1) := by decide +kernel
theorem dX6_close_483 : decode cX6_close 483 = .ok (.getfield 22, 3) := by decide +kernel
theorem dX6_close_486 : decode cX6_close 486 = .ok (.iload 13, 2) := by decide +kernel
theorem dX6_close_488 : decode cX6_close 488 = .ok (.laload, 1) := by decide +kernel
theorem dX6_close_489 : decode cX6_close 489 = .ok (.lastore, 1) := by decide +kernel
theorem dX6_close_490 : decode cX6_close 490 = .ok (.aload_n 0, 1) := by decide +kernel
theorem dX6_close_491 : decode cX6_close 491 = .ok (.getfield 25, 3) := by decide +kernel
theorem dX6_close_494 : decode cX6_close 494 = .ok (.iload 13, 2) := by decide +kernel
theorem dX6_close_496 : decode cX6_close 496 = .ok (.iaload, 1) := by decide +kernel
theorem dX6_close_497 : decode cX6_close 497 = .ok (.iconst 1, 1) := by decide +kernel
theorem dX6_close_498 : decode cX6_close 498 = .ok (.if_icmp .ne 27, 3) := by decide +kernel
theorem dX6_close_501 : decode cX6_close 501 = .ok (.aload_n 0, 1) := by decide +kernel
theorem dX6_close_502 : decode cX6_close 502 = .ok (.getfield 7, 3) := by decide +kernel
theorem dX6_close_505 : decode cX6_close 505 = .ok (.sipush 3263, 3) := by decide +kernel
theorem dX6_close_508 : decode cX6_close 508 = .ok (.bipush 60, 2) := by decide +kernel
theorem dX6_close_510 : decode cX6_close 510 = .ok (.iload 13, 2) := by decide +kernel
theorem dX6_close_512 : decode cX6_close 512 = .ok (.imul, 1) := by decide +kernel
theorem dX6_close_513 : decode cX6_close 513 = .ok (.iadd, 1) := by decide +kernel
theorem dX6_close_514 : decode cX6_close 514 = .ok (.iload 10, 2) := by decide +kernel
theorem dX6_close_516 : decode cX6_close 516 = .ok (.iadd, 1) := by decide +kernel
theorem dX6_close_517 : decode cX6_close 517 = .ok (.aload_n 0, 1) := by decide +kernel
theorem dX6_close_518 : decode cX6_close 518 = .ok (.getfield 22, 3) := by decide +kernel
theorem dX6_close_521 : decode cX6_close 521 = .ok (.iload 13, 2) := by decide +kernel
theorem dX6_close_523 : decode cX6_close 523 = .ok (.laload, 1) := by decide +kernel
theorem dX6_close_524 : decode cX6_close 524 = .ok (.lastore, 1) := by decide +kernel
theorem dX6_close_525 : decode cX6_close 525 = .ok (.aload_n 0, 1) := by decide +kernel
theorem dX6_close_526 : decode cX6_close 526 = .ok (.getfield 25, 3) := by decide +kernel
theorem dX6_close_529 : decode cX6_close 529 = .ok (.iload 13, 2) := by decide +kernel
theorem dX6_close_531 : decode cX6_close 531 = .ok (.iaload, 1) := by decide +kernel
theorem dX6_close_532 : decode cX6_close 532 = .ok (.ifCond .ne 28, 3) := by decide +kernel
theorem dX6_close_535 : decode cX6_close 535 = .ok (.aload_n 0, 1) := by decide +kernel
theorem dX6_close_536 : decode cX6_close 536 = .ok (.iload 13, 2) := by decide +kernel
theorem dX6_close_538 : decode cX6_close 538 = .ok (.aload_n 0, 1) := by decide +kernel
theorem dX6_close_539 : decode cX6_close 539 = .ok (.getfield 22, 3) := by decide +kernel
theorem dX6_close_542 : decode cX6_close 542 = .ok (.iload 13, 2) := by decide +kernel
theorem dX6_close_544 : decode cX6_close 544 = .ok (.laload, 1) := by decide +kernel
theorem dX6_close_545 : decode cX6_close 545 = .ok (.invokevirtual 121, 3) := by decide +kernel
theorem dX6_close_548 : decode cX6_close 548 = .ok (.lload 11, 2) := by decide +kernel
theorem dX6_close_550 : decode cX6_close 550 = .ok (.aload_n 0, 1) := by decide +kernel
theorem dX6_close_551 : decode cX6_close 551 = .ok (.getfield 22, 3) := by decide +kernel
theorem dX6_close_554 : decode cX6_close 554 = .ok (.iload 13, 2) := by decide +kernel
theorem dX6_close_556 : decode cX6_close 556 = .ok (.laload, 1) := by decide +kernel
theorem dX6_close_557 : decode cX6_close 557 = .ok (.ladd, 1) := by decide +kernel
theorem dX6_close_558 : decode cX6_close 558 = .ok (.lstore 11, 2) := by decide +kernel
theorem dX6_close_560 : decode cX6_close 560 = .ok (.aload_n 0, 1) := by decide +kernel
theorem dX6_close_561 : decode cX6_close 561 = .ok (.getfield 7, 3) := by decide +kernel
theorem dX6_close_564 : decode cX6_close 564 = .ok (.iload 13, 2) := by decide +kernel
theorem dX6_close_566 : decode cX6_close 566 = .ok (.bipush 10, 2) := by decide +kernel
theorem dX6_close_568 : decode cX6_close 568 = .ok (.invokestatic 89, 3) := by decide +kernel
theorem dX6_close_571 : decode cX6_close 571 = .ok (.aload_n 0, 1) := by decide +kernel
theorem dX6_close_572 : decode cX6_close 572 = .ok (.getfield 25, 3) := by decide +kernel
theorem dX6_close_575 : decode cX6_close 575 = .ok (.iload 13, 2) := by decide +kernel
theorem dX6_close_577 : decode cX6_close 577 = .ok (.iaload, 1) := by decide +kernel
theorem dX6_close_578 : decode cX6_close 578 = .ok (.ifCond .eq 14, 3) := by decide +kernel
theorem dX6_close_581 : decode cX6_close 581 = .ok (.aload_n 0, 1) := by decide +kernel
theorem dX6_close_582 : decode cX6_close 582 = .ok (.getfield 25, 3) := by decide +kernel
theorem dX6_close_585 : decode cX6_close 585 = .ok (.iload 13, 2) := by decide +kernel
theorem dX6_close_587 : decode cX6_close 587 = .ok (.iaload, 1) := by decide +kernel
theorem dX6_close_588 : decode cX6_close 588 = .ok (.iconst 3, 1) := by decide +kernel
theorem dX6_close_589 : decode cX6_close 589 = .ok (.if_icmp .ne 7, 3) := by decide +kernel
theorem dX6_close_592 : decode cX6_close 592 = .ok (.lconst 0, 1) := by decide +kernel
theorem dX6_close_593 : decode cX6_close 593 = .ok (.goto 17, 3) := by decide +kernel
theorem dX6_close_596 : decode cX6_close 596 = .ok (.aload_n 0, 1) := by decide +kernel
theorem dX6_close_597 : decode cX6_close 597 = .ok (.getfield 7, 3) := by decide +kernel
theorem dX6_close_600 : decode cX6_close 600 = .ok (.iload 13, 2) := by decide +kernel
theorem dX6_close_602 : decode cX6_close 602 = .ok (.bipush 10, 2) := by decide +kernel
theorem dX6_close_604 : decode cX6_close 604 = .ok (.invokestatic 89, 3) := by decide +kernel
theorem dX6_close_607 : decode cX6_close 607 = .ok (.laload, 1) := by decide +kernel
theorem dX6_close_608 : decode cX6_close 608 = .ok (.lconst 1, 1) := by decide +kernel
theorem dX6_close_609 : decode cX6_close 609 = .ok (.ladd, 1) := by decide +kernel
theorem dX6_close_610 : decode cX6_close 610 = .ok (.lastore, 1) := by decide +kernel
theorem dX6_close_611 : decode cX6_close 611 = .ok (.iinc 13 1, 3) := by decide +kernel
theorem dX6_close_614 : decode cX6_close 614 = .ok (.goto (-166), 3) := by decide +kernel
theorem dX6_close_617 : decode cX6_close 617 = .ok (.aload_n 0, 1) := by decide +kernel
theorem dX6_close_618 : decode cX6_close 618 = .ok (.getfield 7, 3) := by decide +kernel
theorem dX6_close_621 : decode cX6_close 621 = .ok (.sipush 5663, 3) := by decide +kernel
theorem dX6_close_624 : decode cX6_close 624 = .ok (.dup2, 1) := by decide +kernel
theorem dX6_close_625 : decode cX6_close 625 = .ok (.laload, 1) := by decide +kernel
theorem dX6_close_626 : decode cX6_close 626 = .ok (.lconst 1, 1) := by decide +kernel
theorem dX6_close_627 : decode cX6_close 627 = .ok (.ladd, 1) := by decide +kernel
theorem dX6_close_628 : decode cX6_close 628 = .ok (.lastore, 1) := by decide +kernel
theorem dX6_close_629 : decode cX6_close 629 = .ok (.iconst 0, 1) := by decide +kernel
theorem dX6_close_630 : decode cX6_close 630 = .ok (.istore 13, 2) := by decide +kernel
theorem dX6_close_632 : decode cX6_close 632 = .ok (.iload 13, 2) := by decide +kernel
theorem dX6_close_634 : decode cX6_close 634 = .ok (.i2l, 1) := by decide +kernel
theorem dX6_close_635 : decode cX6_close 635 = .ok (.aload_n 0, 1) := by decide +kernel
theorem dX6_close_636 : decode cX6_close 636 = .ok (.getfield 7, 3) := by decide +kernel
theorem dX6_close_639 : decode cX6_close 639 = .ok (.sipush 5668, 3) := by decide +kernel
theorem dX6_close_642 : decode cX6_close 642 = .ok (.laload, 1) := by decide +kernel
theorem dX6_close_643 : decode cX6_close 643 = .ok (.lcmp, 1) := by decide +kernel
theorem dX6_close_644 : decode cX6_close 644 = .ok (.ifCond .ge 21, 3) := by decide +kernel
theorem dX6_close_647 : decode cX6_close 647 = .ok (.aload_n 0, 1) := by decide +kernel
theorem dX6_close_648 : decode cX6_close 648 = .ok (.getfield 7, 3) := by decide +kernel
theorem dX6_close_651 : decode cX6_close 651 = .ok (.iload 13, 2) := by decide +kernel
theorem dX6_close_653 : decode cX6_close 653 = .ok (.iconst 4, 1) := by decide +kernel
theorem dX6_close_654 : decode cX6_close 654 = .ok (.invokestatic 63, 3) := by decide +kernel
theorem dX6_close_657 : decode cX6_close 657 = .ok (.lconst 0, 1) := by decide +kernel
theorem dX6_close_658 : decode cX6_close 658 = .ok (.lastore, 1) := by decide +kernel
theorem dX6_close_659 : decode cX6_close 659 = .ok (.iinc 13 1, 3) := by decide +kernel
theorem dX6_close_662 : decode cX6_close 662 = .ok (.goto (-30), 3) := by decide +kernel
theorem dX6_close_665 : decode cX6_close 665 = .ok (.iconst 0, 1) := by decide +kernel
theorem dX6_close_666 : decode cX6_close 666 = .ok (.istore 13, 2) := by decide +kernel
theorem dX6_close_668 : decode cX6_close 668 = .ok (.iload 13, 2) := by decide +kernel
theorem dX6_close_670 : decode cX6_close 670 = .ok (.iload 5, 2) := by decide +kernel
theorem dX6_close_672 : decode cX6_close 672 = .ok (.if_icmp .ge 60, 3) := by decide +kernel
theorem dX6_close_675 : decode cX6_close 675 = .ok (.aload_n 0, 1) := by decide +kernel
theorem dX6_close_676 : decode cX6_close 676 = .ok (.getfield 7, 3) := by decide +kernel
theorem dX6_close_679 : decode cX6_close 679 = .ok (.iload 13, 2) := by decide +kernel
theorem dX6_close_681 : decode cX6_close 681 = .ok (.iconst 5, 1) := by decide +kernel
theorem dX6_close_682 : decode cX6_close 682 = .ok (.invokestatic 89, 3) := by decide +kernel
theorem dX6_close_685 : decode cX6_close 685 = .ok (.laload, 1) := by decide +kernel
theorem dX6_close_686 : decode cX6_close 686 = .ok (.ldc2_w 79, 3) := by decide +kernel
theorem dX6_close_689 : decode cX6_close 689 = .ok (.lcmp, 1) := by decide +kernel
theorem dX6_close_690 : decode cX6_close 690 = .ok (.ifCond .ne 36, 3) := by decide +kernel
theorem dX6_close_693 : decode cX6_close 693 = .ok (.aload_n 0, 1) := by decide +kernel
theorem dX6_close_694 : decode cX6_close 694 = .ok (.getfield 7, 3) := by decide +kernel
theorem dX6_close_697 : decode cX6_close 697 = .ok (.iload 13, 2) := by decide +kernel
theorem dX6_close_699 : decode cX6_close 699 = .ok (.bipush 13, 2) := by decide +kernel
theorem dX6_close_701 : decode cX6_close 701 = .ok (.invokestatic 89, 3) := by decide +kernel
theorem dX6_close_704 : decode cX6_close 704 = .ok (.laload, 1) := by decide +kernel
theorem dX6_close_705 : decode cX6_close 705 = .ok (.lconst 0, 1) := by decide +kernel
theorem dX6_close_706 : decode cX6_close 706 = .ok (.lcmp, 1) := by decide +kernel
theorem dX6_close_707 : decode cX6_close 707 = .ok (.ifCond .ne 19, 3) := by decide +kernel
theorem dX6_close_710 : decode cX6_close 710 = .ok (.aload_n 0, 1) := by decide +kernel
theorem dX6_close_711 : decode cX6_close 711 = .ok (.iload 13, 2) := by decide +kernel
theorem dX6_close_713 : decode cX6_close 713 = .ok (.invokevirtual 117, 3) := by decide +kernel
theorem dX6_close_716 : decode cX6_close 716 = .ok (.iconst 3, 1) := by decide +kernel
theorem dX6_close_717 : decode cX6_close 717 = .ok (.if_icmp .ne 9, 3) := by decide +kernel
theorem dX6_close_720 : decode cX6_close 720 = .ok (.aload_n 0, 1) := by decide +kernel
theorem dX6_close_721 : decode cX6_close 721 = .ok (.iload 13, 2) := by decide +kernel
theorem dX6_close_723 : decode cX6_close 723 = .ok (.invokevirtual 132, 3) := by decide +kernel
theorem dX6_close_726 : decode cX6_close 726 = .ok (.iinc 13 1, 3) := by decide +kernel
theorem dX6_close_729 : decode cX6_close 729 = .ok (.goto (-61), 3) := by decide +kernel
theorem dX6_close_732 : decode cX6_close 732 = .ok (.lload 11, 2) := by decide +kernel
theorem dX6_close_734 : decode cX6_close 734 = .ok (.lreturn, 1) := by decide +kernel
theorem dX6_backGoes_0 : decode cX6_backGoes 0 = .ok (.aload_n 0, 1) := by decide +kernel
theorem dX6_backGoes_1 : decode cX6_backGoes 1 = .ok (.getfield 7, 3) := by decide +kernel
theorem dX6_backGoes_4 : decode cX6_backGoes 4 = .ok (.iload_n 1, 1) := by decide +kernel
theorem dX6_backGoes_5 : decode cX6_backGoes 5 = .ok (.bipush 13, 2) := by decide +kernel
theorem dX6_backGoes_7 : decode cX6_backGoes 7 = .ok (.invokestatic 89, 3) := by decide +kernel
theorem dX6_backGoes_10 : decode cX6_backGoes 10 = .ok (.lconst 1, 1) := by decide +kernel
theorem dX6_backGoes_11 : decode cX6_backGoes 11 = .ok (.lastore, 1) := by decide +kernel
theorem dX6_backGoes_12 : decode cX6_backGoes 12 = .ok (.aload_n 0, 1) := by decide +kernel
theorem dX6_backGoes_13 : decode cX6_backGoes 13 = .ok (.getfield 7, 3) := by decide +kernel
theorem dX6_backGoes_16 : decode cX6_backGoes 16 = .ok (.iload_n 1, 1) := by decide +kernel
theorem dX6_backGoes_17 : decode cX6_backGoes 17 = .ok (.iconst 4, 1) := by decide +kernel
theorem dX6_backGoes_18 : decode cX6_backGoes 18 = .ok (.invokestatic 89, 3) := by decide +kernel
theorem dX6_backGoes_21 : decode cX6_backGoes 21 = .ok (.laload, 1) := by decide +kernel
theorem dX6_backGoes_22 : decode cX6_backGoes 22 = .ok (.l2i, 1) := by decide +kernel
theorem dX6_backGoes_23 : decode cX6_backGoes 23 = .ok (.iconst 3, 1) := by decide +kernel
theorem dX6_backGoes_24 : decode cX6_backGoes 24 = .ok (.invokestatic 55, 3) := by decide +kernel
theorem dX6_backGoes_27 : decode cX6_backGoes 27 = .ok (.istore_n 2, 1) := by decide +kernel
theorem dX6_backGoes_28 : decode cX6_backGoes 28 = .ok (.aload_n 0, 1) := by decide +kernel
theorem dX6_backGoes_29 : decode cX6_backGoes 29 = .ok (.getfield 7, 3) := by decide +kernel
theorem dX6_backGoes_32 : decode cX6_backGoes 32 = .ok (.iload_n 1, 1) := by decide +kernel
theorem dX6_backGoes_33 : decode cX6_backGoes 33 = .ok (.bipush 6, 2) := by decide +kernel
theorem dX6_backGoes_35 : decode cX6_backGoes 35 = .ok (.invokestatic 89, 3) := by decide +kernel
theorem dX6_backGoes_38 : decode cX6_backGoes 38 = .ok (.laload, 1) := by decide +kernel
theorem dX6_backGoes_39 : decode cX6_backGoes 39 = .ok (.aload_n 0, 1) := by decide +kernel
theorem dX6_backGoes_40 : decode cX6_backGoes 40 = .ok (.getfield 7, 3) := by decide +kernel
theorem dX6_backGoes_43 : decode cX6_backGoes 43 = .ok (.iload_n 1, 1) := by decide +kernel
theorem dX6_backGoes_44 : decode cX6_backGoes 44 = .ok (.bipush 7, 2) := by decide +kernel
theorem dX6_backGoes_46 : decode cX6_backGoes 46 = .ok (.invokestatic 89, 3) := by decide +kernel
theorem dX6_backGoes_49 : decode cX6_backGoes 49 = .ok (.laload, 1) := by decide +kernel
theorem dX6_backGoes_50 : decode cX6_backGoes 50 = .ok (.lsub, 1) := by decide +kernel
theorem dX6_backGoes_51 : decode cX6_backGoes 51 = .ok (.lstore_n 3, 1) := by decide +kernel
theorem dX6_backGoes_52 : decode cX6_backGoes 52 = .ok (.lload_n 3, 1) := by decide +kernel
theorem dX6_backGoes_53 : decode cX6_backGoes 53 = .ok (.lconst 0, 1) := by decide +kernel
theorem dX6_backGoes_54 : decode cX6_backGoes 54 = .ok (.lcmp, 1) := by decide +kernel
theorem dX6_backGoes_55 : decode cX6_backGoes 55 = .ok (.ifCond .ge 7, 3) := by decide +kernel
theorem dX6_backGoes_58 : decode cX6_backGoes 58 = .ok (.lconst 0, 1) := by decide +kernel
theorem dX6_backGoes_59 : decode cX6_backGoes 59 = .ok (.goto 24, 3) := by decide +kernel
theorem dX6_backGoes_62 : decode cX6_backGoes 62 = .ok (.lload_n 3, 1) := by decide +kernel
theorem dX6_backGoes_63 : decode cX6_backGoes 63 = .ok (.aload_n 0, 1) := by decide +kernel
theorem dX6_backGoes_64 : decode cX6_backGoes 64 = .ok (.getfield 7, 3) := by decide +kernel
theorem dX6_backGoes_67 : decode cX6_backGoes 67 = .ok (.iload_n 2, 1) := by decide +kernel
theorem dX6_backGoes_68 : decode cX6_backGoes 68 = .ok (.laload, 1) := by decide +kernel
theorem dX6_backGoes_69 : decode cX6_backGoes 69 = .ok (.lcmp, 1) := by decide +kernel
theorem dX6_backGoes_70 : decode cX6_backGoes 70 = .ok (.ifCond .le 12, 3) := by decide +kernel
theorem dX6_backGoes_73 : decode cX6_backGoes 73 = .ok (.aload_n 0, 1) := by decide +kernel
theorem dX6_backGoes_74 : decode cX6_backGoes 74 = .ok (.getfield 7, 3) := by decide +kernel
theorem dX6_backGoes_77 : decode cX6_backGoes 77 = .ok (.iload_n 2, 1) := by decide +kernel
theorem dX6_backGoes_78 : decode cX6_backGoes 78 = .ok (.laload, 1) := by decide +kernel
theorem dX6_backGoes_79 : decode cX6_backGoes 79 = .ok (.goto 4, 3) := by decide +kernel
theorem dX6_backGoes_82 : decode cX6_backGoes 82 = .ok (.lload_n 3, 1) := by decide +kernel
theorem dX6_backGoes_83 : decode cX6_backGoes 83 = .ok (.lstore_n 3, 1) := by decide +kernel
theorem dX6_backGoes_84 : decode cX6_backGoes 84 = .ok (.aload_n 0, 1) := by decide +kernel
theorem dX6_backGoes_85 : decode cX6_backGoes 85 = .ok (.getfield 7, 3) := by decide +kernel
theorem dX6_backGoes_88 : decode cX6_backGoes 88 = .ok (.aload_n 0, 1) := by decide +kernel
theorem dX6_backGoes_89 : decode cX6_backGoes 89 = .ok (.getfield 7, 3) := by decide +kernel
theorem dX6_backGoes_92 : decode cX6_backGoes 92 = .ok (.iload_n 1, 1) := by decide +kernel
theorem dX6_backGoes_93 : decode cX6_backGoes 93 = .ok (.iconst 1, 1) := by decide +kernel
theorem dX6_backGoes_94 : decode cX6_backGoes 94 = .ok (.invokestatic 89, 3) := by decide +kernel
theorem dX6_backGoes_97 : decode cX6_backGoes 97 = .ok (.laload, 1) := by decide +kernel
theorem dX6_backGoes_98 : decode cX6_backGoes 98 = .ok (.l2i, 1) := by decide +kernel
theorem dX6_backGoes_99 : decode cX6_backGoes 99 = .ok (.iconst 3, 1) := by decide +kernel
theorem dX6_backGoes_100 : decode cX6_backGoes 100 = .ok (.invokestatic 63, 3) := by decide +kernel
theorem dX6_backGoes_103 : decode cX6_backGoes 103 = .ok (.laload, 1) := by decide +kernel
theorem dX6_backGoes_104 : decode cX6_backGoes 104 = .ok (.lstore 5, 2) := by decide +kernel
theorem dX6_backGoes_106 : decode cX6_backGoes 106 = .ok (.aload_n 0, 1) := by decide +kernel
theorem dX6_backGoes_107 : decode cX6_backGoes 107 = .ok (.getfield 7, 3) := by decide +kernel
theorem dX6_backGoes_110 : decode cX6_backGoes 110 = .ok (.iload_n 2, 1) := by decide +kernel
theorem dX6_backGoes_111 : decode cX6_backGoes 111 = .ok (.dup2, 1) := by decide +kernel
theorem dX6_backGoes_112 : decode cX6_backGoes 112 = .ok (.laload, 1) := by decide +kernel
theorem dX6_backGoes_113 : decode cX6_backGoes 113 = .ok (.lload_n 3, 1) := by decide +kernel
theorem dX6_backGoes_114 : decode cX6_backGoes 114 = .ok (.lsub, 1) := by decide +kernel
theorem dX6_backGoes_115 : decode cX6_backGoes 115 = .ok (.lastore, 1) := by decide +kernel
theorem dX6_backGoes_116 : decode cX6_backGoes 116 = .ok (.aload_n 0, 1) := by decide +kernel
theorem dX6_backGoes_117 : decode cX6_backGoes 117 = .ok (.getfield 7, 3) := by decide +kernel
theorem dX6_backGoes_120 : decode cX6_backGoes 120 = .ok (.lload 5, 2) := by decide +kernel
theorem dX6_backGoes_122 : decode cX6_backGoes 122 = .ok (.lconst 0, 1) := by decide +kernel
theorem dX6_backGoes_123 : decode cX6_backGoes 123 = .ok (.lcmp, 1) := by decide +kernel
theorem dX6_backGoes_124 : decode cX6_backGoes 124 = .ok (.ifCond .ge 16, 3) := by decide +kernel
theorem dX6_backGoes_127 : decode cX6_backGoes 127 = .ok (.aload_n 0, 1) := by decide +kernel
theorem dX6_backGoes_128 : decode cX6_backGoes 128 = .ok (.getfield 7, 3) := by decide +kernel
theorem dX6_backGoes_131 : decode cX6_backGoes 131 = .ok (.iload_n 1, 1) := by decide +kernel
theorem dX6_backGoes_132 : decode cX6_backGoes 132 = .ok (.iconst 0, 1) := by decide +kernel
theorem dX6_backGoes_133 : decode cX6_backGoes 133 = .ok (.invokestatic 89, 3) := by decide +kernel
theorem dX6_backGoes_136 : decode cX6_backGoes 136 = .ok (.laload, 1) := by decide +kernel
theorem dX6_backGoes_137 : decode cX6_backGoes 137 = .ok (.goto 5, 3) := by decide +kernel
theorem dX6_backGoes_140 : decode cX6_backGoes 140 = .ok (.lload 5, 2) := by decide +kernel
theorem dX6_backGoes_142 : decode cX6_backGoes 142 = .ok (.l2i, 1) := by decide +kernel
theorem dX6_backGoes_143 : decode cX6_backGoes 143 = .ok (.iconst 1, 1) := by decide +kernel
theorem dX6_backGoes_144 : decode cX6_backGoes 144 = .ok (.invokestatic 63, 3) := by decide +kernel
theorem dX6_backGoes_147 : decode cX6_backGoes 147 = .ok (.dup2, 1) := by decide +kernel
theorem dX6_backGoes_148 : decode cX6_backGoes 148 = .ok (.laload, 1) := by decide +kernel
theorem dX6_backGoes_149 : decode cX6_backGoes 149 = .ok (.lload_n 3, 1) := by decide +kernel
theorem dX6_backGoes_150 : decode cX6_backGoes 150 = .ok (.ladd, 1) := by decide +kernel
theorem dX6_backGoes_151 : decode cX6_backGoes 151 = .ok (.lastore, 1) := by decide +kernel
theorem dX6_backGoes_152 : decode cX6_backGoes 152 = .ok (.return_, 1) := by decide +kernel
theorem dX6_of_0 : decode cX6_of 0 = .ok (.aload_n 0, 1) := by decide +kernel
theorem dX6_of_1 : decode cX6_of 1 = .ok (.iload_n 1, 1) := by decide +kernel
theorem dX6_of_2 : decode cX6_of 2 = .ok (.invokevirtual 66, 3) := by decide +kernel
theorem dX6_of_5 : decode cX6_of 5 = .ok (.ifCond .eq 15, 3) := by decide +kernel
theorem dX6_of_8 : decode cX6_of 8 = .ok (.iload_n 2, 1) := by decide +kernel
theorem dX6_of_9 : decode cX6_of 9 = .ok (.i2l, 1) := by decide +kernel
theorem dX6_of_10 : decode cX6_of 10 = .ok (.lconst 0, 1) := by decide +kernel
theorem dX6_of_11 : decode cX6_of 11 = .ok (.ldc2_w 73, 3) := by decide +kernel
theorem dX6_of_14 : decode cX6_of 14 = .ok (.invokestatic 35, 3) := by decide +kernel
theorem dX6_of_17 : decode cX6_of 17 = .ok (.ifCond .ne 7, 3) := by decide +kernel
theorem dX6_of_20 : decode cX6_of 20 = .ok (.ldc2_w 41, 3) := by decide +kernel
theorem dX6_of_23 : decode cX6_of 23 = .ok (.lreturn, 1) := by decide +kernel
theorem dX6_of_24 : decode cX6_of 24 = .ok (.iload_n 2, 1) := by decide +kernel
theorem dX6_of_25 : decode cX6_of 25 = .ok (.tableswitch 106 0 4 #[35, 46, 57, 68, 79], 35) := by decide +kernel
theorem dX6_of_60 : decode cX6_of 60 = .ok (.aload_n 0, 1) := by decide +kernel
theorem dX6_of_61 : decode cX6_of 61 = .ok (.getfield 7, 3) := by decide +kernel
theorem dX6_of_64 : decode cX6_of 64 = .ok (.iload_n 1, 1) := by decide +kernel
theorem dX6_of_65 : decode cX6_of 65 = .ok (.iconst 1, 1) := by decide +kernel
theorem dX6_of_66 : decode cX6_of 66 = .ok (.invokestatic 63, 3) := by decide +kernel
theorem dX6_of_69 : decode cX6_of 69 = .ok (.laload, 1) := by decide +kernel
theorem dX6_of_70 : decode cX6_of 70 = .ok (.lreturn, 1) := by decide +kernel
theorem dX6_of_71 : decode cX6_of 71 = .ok (.aload_n 0, 1) := by decide +kernel
theorem dX6_of_72 : decode cX6_of 72 = .ok (.getfield 7, 3) := by decide +kernel
theorem dX6_of_75 : decode cX6_of 75 = .ok (.iload_n 1, 1) := by decide +kernel
theorem dX6_of_76 : decode cX6_of 76 = .ok (.iconst 2, 1) := by decide +kernel
theorem dX6_of_77 : decode cX6_of 77 = .ok (.invokestatic 63, 3) := by decide +kernel
theorem dX6_of_80 : decode cX6_of 80 = .ok (.laload, 1) := by decide +kernel
theorem dX6_of_81 : decode cX6_of 81 = .ok (.lreturn, 1) := by decide +kernel
theorem dX6_of_82 : decode cX6_of 82 = .ok (.aload_n 0, 1) := by decide +kernel
theorem dX6_of_83 : decode cX6_of 83 = .ok (.getfield 7, 3) := by decide +kernel
theorem dX6_of_86 : decode cX6_of 86 = .ok (.iload_n 1, 1) := by decide +kernel
theorem dX6_of_87 : decode cX6_of 87 = .ok (.iconst 0, 1) := by decide +kernel
theorem dX6_of_88 : decode cX6_of 88 = .ok (.invokestatic 63, 3) := by decide +kernel
theorem dX6_of_91 : decode cX6_of 91 = .ok (.laload, 1) := by decide +kernel
theorem dX6_of_92 : decode cX6_of 92 = .ok (.lreturn, 1) := by decide +kernel
theorem dX6_of_93 : decode cX6_of 93 = .ok (.aload_n 0, 1) := by decide +kernel
theorem dX6_of_94 : decode cX6_of 94 = .ok (.getfield 7, 3) := by decide +kernel
theorem dX6_of_97 : decode cX6_of 97 = .ok (.iload_n 1, 1) := by decide +kernel
theorem dX6_of_98 : decode cX6_of 98 = .ok (.iconst 4, 1) := by decide +kernel
theorem dX6_of_99 : decode cX6_of 99 = .ok (.invokestatic 63, 3) := by decide +kernel
theorem dX6_of_102 : decode cX6_of 102 = .ok (.laload, 1) := by decide +kernel
theorem dX6_of_103 : decode cX6_of 103 = .ok (.lreturn, 1) := by decide +kernel
theorem dX6_of_104 : decode cX6_of 104 = .ok (.aload_n 0, 1) := by decide +kernel
theorem dX6_of_105 : decode cX6_of 105 = .ok (.iload_n 1, 1) := by decide +kernel
theorem dX6_of_106 : decode cX6_of 106 = .ok (.i2l, 1) := by decide +kernel
theorem dX6_of_107 : decode cX6_of 107 = .ok (.invokevirtual 75, 3) := by decide +kernel
theorem dX6_of_110 : decode cX6_of 110 = .ok (.ifCond .eq 17, 3) := by decide +kernel
theorem dX6_of_113 : decode cX6_of 113 = .ok (.aload_n 0, 1) := by decide +kernel
theorem dX6_of_114 : decode cX6_of 114 = .ok (.getfield 7, 3) := by decide +kernel
theorem dX6_of_117 : decode cX6_of 117 = .ok (.iload_n 1, 1) := by decide +kernel
theorem dX6_of_118 : decode cX6_of 118 = .ok (.bipush 6, 2) := by decide +kernel
theorem dX6_of_120 : decode cX6_of 120 = .ok (.invokestatic 63, 3) := by decide +kernel
theorem dX6_of_123 : decode cX6_of 123 = .ok (.laload, 1) := by decide +kernel
theorem dX6_of_124 : decode cX6_of 124 = .ok (.goto 6, 3) := by decide +kernel
theorem dX6_of_127 : decode cX6_of 127 = .ok (.ldc2_w 41, 3) := by decide +kernel
theorem dX6_of_130 : decode cX6_of 130 = .ok (.lreturn, 1) := by decide +kernel
theorem dX6_of_131 : decode cX6_of 131 = .ok (.aload_n 0, 1) := by decide +kernel
theorem dX6_of_132 : decode cX6_of 132 = .ok (.getfield 7, 3) := by decide +kernel
theorem dX6_of_135 : decode cX6_of 135 = .ok (.iload_n 1, 1) := by decide +kernel
theorem dX6_of_136 : decode cX6_of 136 = .ok (.iconst 3, 1) := by decide +kernel
theorem dX6_of_137 : decode cX6_of 137 = .ok (.invokestatic 63, 3) := by decide +kernel
theorem dX6_of_140 : decode cX6_of 140 = .ok (.laload, 1) := by decide +kernel
theorem dX6_of_141 : decode cX6_of 141 = .ok (.lreturn, 1) := by decide +kernel
theorem dX6_about_0 : decode cX6_about 0 = .ok (.aload_n 0, 1) := by decide +kernel
theorem dX6_about_1 : decode cX6_about 1 = .ok (.iload_n 1, 1) := by decide +kernel
theorem dX6_about_2 : decode cX6_about 2 = .ok (.invokevirtual 51, 3) := by decide +kernel
theorem dX6_about_5 : decode cX6_about 5 = .ok (.ifCond .eq 15, 3) := by decide +kernel
theorem dX6_about_8 : decode cX6_about 8 = .ok (.iload_n 2, 1) := by decide +kernel
theorem dX6_about_9 : decode cX6_about 9 = .ok (.i2l, 1) := by decide +kernel
theorem dX6_about_10 : decode cX6_about 10 = .ok (.lconst 0, 1) := by decide +kernel
theorem dX6_about_11 : decode cX6_about 11 = .ok (.ldc2_w 73, 3) := by decide +kernel
theorem dX6_about_14 : decode cX6_about 14 = .ok (.invokestatic 35, 3) := by decide +kernel
theorem dX6_about_17 : decode cX6_about 17 = .ok (.ifCond .ne 7, 3) := by decide +kernel
theorem dX6_about_20 : decode cX6_about 20 = .ok (.ldc2_w 41, 3) := by decide +kernel
theorem dX6_about_23 : decode cX6_about 23 = .ok (.lreturn, 1) := by decide +kernel
theorem dX6_about_24 : decode cX6_about 24 = .ok (.iload_n 2, 1) := by decide +kernel
theorem dX6_about_25 : decode cX6_about 25 = .ok (.iconst 4, 1) := by decide +kernel
theorem dX6_about_26 : decode cX6_about 26 = .ok (.if_icmp .ge 14, 3) := by decide +kernel
theorem dX6_about_29 : decode cX6_about 29 = .ok (.aload_n 0, 1) := by decide +kernel
theorem dX6_about_30 : decode cX6_about 30 = .ok (.getfield 7, 3) := by decide +kernel
theorem dX6_about_33 : decode cX6_about 33 = .ok (.iload_n 1, 1) := by decide +kernel
theorem dX6_about_34 : decode cX6_about 34 = .ok (.iload_n 2, 1) := by decide +kernel
theorem dX6_about_35 : decode cX6_about 35 = .ok (.invokestatic 55, 3) := by decide +kernel
theorem dX6_about_38 : decode cX6_about 38 = .ok (.laload, 1) := by decide +kernel
theorem dX6_about_39 : decode cX6_about 39 = .ok (.lreturn, 1) := by decide +kernel
theorem dX6_about_40 : decode cX6_about 40 = .ok (.lconst 0, 1) := by decide +kernel
theorem dX6_about_41 : decode cX6_about 41 = .ok (.lstore_n 3, 1) := by decide +kernel
theorem dX6_about_42 : decode cX6_about 42 = .ok (.iconst 0, 1) := by decide +kernel
theorem dX6_about_43 : decode cX6_about 43 = .ok (.istore 5, 2) := by decide +kernel
theorem dX6_about_45 : decode cX6_about 45 = .ok (.iload 5, 2) := by decide +kernel
theorem dX6_about_47 : decode cX6_about 47 = .ok (.i2l, 1) := by decide +kernel
theorem dX6_about_48 : decode cX6_about 48 = .ok (.aload_n 0, 1) := by decide +kernel
theorem dX6_about_49 : decode cX6_about 49 = .ok (.getfield 7, 3) := by decide +kernel
theorem dX6_about_52 : decode cX6_about 52 = .ok (.sipush 5670, 3) := by decide +kernel
theorem dX6_about_55 : decode cX6_about 55 = .ok (.laload, 1) := by decide +kernel
theorem dX6_about_56 : decode cX6_about 56 = .ok (.lcmp, 1) := by decide +kernel
theorem dX6_about_57 : decode cX6_about 57 = .ok (.ifCond .ge 66, 3) := by decide +kernel
theorem dX6_about_60 : decode cX6_about 60 = .ok (.aload_n 0, 1) := by decide +kernel
theorem dX6_about_61 : decode cX6_about 61 = .ok (.getfield 7, 3) := by decide +kernel
theorem dX6_about_64 : decode cX6_about 64 = .ok (.iload 5, 2) := by decide +kernel
theorem dX6_about_66 : decode cX6_about 66 = .ok (.iconst 4, 1) := by decide +kernel
theorem dX6_about_67 : decode cX6_about 67 = .ok (.invokestatic 89, 3) := by decide +kernel
theorem dX6_about_70 : decode cX6_about 70 = .ok (.laload, 1) := by decide +kernel
theorem dX6_about_71 : decode cX6_about 71 = .ok (.iload_n 1, 1) := by decide +kernel
theorem dX6_about_72 : decode cX6_about 72 = .ok (.i2l, 1) := by decide +kernel
theorem dX6_about_73 : decode cX6_about 73 = .ok (.lcmp, 1) := by decide +kernel
theorem dX6_about_74 : decode cX6_about 74 = .ok (.ifCond .eq 6, 3) := by decide +kernel
theorem dX6_about_77 : decode cX6_about 77 = .ok (.goto 40, 3) := by decide +kernel
theorem dX6_about_80 : decode cX6_about 80 = .ok (.lload_n 3, 1) := by decide +kernel
theorem dX6_about_81 : decode cX6_about 81 = .ok (.iload_n 2, 1) := by decide +kernel
theorem dX6_about_82 : decode cX6_about 82 = .ok (.iconst 5, 1) := by decide +kernel
theorem dX6_about_83 : decode cX6_about 83 = .ok (.if_icmp .ne 7, 3) := by decide +kernel
theorem dX6_about_86 : decode cX6_about 86 = .ok (.lconst 1, 1) := by decide +kernel
theorem dX6_about_87 : decode cX6_about 87 = .ok (.goto 28, 3) := by decide +kernel
theorem dX6_about_90 : decode cX6_about 90 = .ok (.aload_n 0, 1) := by decide +kernel
theorem dX6_about_91 : decode cX6_about 91 = .ok (.iload 5, 2) := by decide +kernel
theorem dX6_about_93 : decode cX6_about 93 = .ok (.invokevirtual 117, 3) := by decide +kernel
theorem dX6_about_96 : decode cX6_about 96 = .ok (.iconst 2, 1) := by decide +kernel
theorem dX6_about_97 : decode cX6_about 97 = .ok (.if_icmp .ge 17, 3) := by decide +kernel
theorem dX6_about_100 : decode cX6_about 100 = .ok (.aload_n 0, 1) := by decide +kernel
theorem dX6_about_101 : decode cX6_about 101 = .ok (.getfield 7, 3) := by decide +kernel
theorem dX6_about_104 : decode cX6_about 104 = .ok (.iload 5, 2) := by decide +kernel
theorem dX6_about_106 : decode cX6_about 106 = .ok (.iconst 3, 1) := by decide +kernel
theorem dX6_about_107 : decode cX6_about 107 = .ok (.invokestatic 89, 3) := by decide +kernel
theorem dX6_about_110 : decode cX6_about 110 = .ok (.laload, 1) := by decide +kernel
theorem dX6_about_111 : decode cX6_about 111 = .ok (.goto 4, 3) := by decide +kernel
theorem dX6_about_114 : decode cX6_about 114 = .ok (.lconst 0, 1) := by decide +kernel
theorem dX6_about_115 : decode cX6_about 115 = .ok (.ladd, 1) := by decide +kernel
theorem dX6_about_116 : decode cX6_about 116 = .ok (.lstore_n 3, 1) := by decide +kernel
theorem dX6_about_117 : decode cX6_about 117 = .ok (.iinc 5 1, 3) := by decide +kernel
theorem dX6_about_120 : decode cX6_about 120 = .ok (.goto (-75), 3) := by decide +kernel
theorem dX6_about_123 : decode cX6_about 123 = .ok (.lload_n 3, 1) := by decide +kernel
theorem dX6_about_124 : decode cX6_about 124 = .ok (.lreturn, 1) := by decide +kernel
theorem dX6_told_0 : decode cX6_told 0 = .ok (.lconst 0, 1) := by decide +kernel
theorem dX6_told_1 : decode cX6_told 1 = .ok (.lstore_n 2, 1) := by decide +kernel
theorem dX6_told_2 : decode cX6_told 2 = .ok (.iload_n 1, 1) := by decide +kernel
theorem dX6_told_3 : decode cX6_told 3 = .ok (.tableswitch 275 0 10 #[57, 66, 75, 84, 119, 159, 199, 239, 248, 257, 266], 57) := by decide +kernel
theorem dX6_told_60 : decode cX6_told 60 = .ok (.aload_n 0, 1) := by decide +kernel
theorem dX6_told_61 : decode cX6_told 61 = .ok (.getfield 7, 3) := by decide +kernel
theorem dX6_told_64 : decode cX6_told 64 = .ok (.sipush 5663, 3) := by decide +kernel
theorem dX6_told_67 : decode cX6_told 67 = .ok (.laload, 1) := by decide +kernel
theorem dX6_told_68 : decode cX6_told 68 = .ok (.lreturn, 1) := by decide +kernel
theorem dX6_told_69 : decode cX6_told 69 = .ok (.aload_n 0, 1) := by decide +kernel
theorem dX6_told_70 : decode cX6_told 70 = .ok (.getfield 7, 3) := by decide +kernel
theorem dX6_told_73 : decode cX6_told 73 = .ok (.sipush 5664, 3) := by decide +kernel
theorem dX6_told_76 : decode cX6_told 76 = .ok (.laload, 1) := by decide +kernel
theorem dX6_told_77 : decode cX6_told 77 = .ok (.lreturn, 1) := by decide +kernel
theorem dX6_told_78 : decode cX6_told 78 = .ok (.aload_n 0, 1) := by decide +kernel
theorem dX6_told_79 : decode cX6_told 79 = .ok (.getfield 7, 3) := by decide +kernel
theorem dX6_told_82 : decode cX6_told 82 = .ok (.sipush 5665, 3) := by decide +kernel
theorem dX6_told_85 : decode cX6_told 85 = .ok (.laload, 1) := by decide +kernel
theorem dX6_told_86 : decode cX6_told 86 = .ok (.lreturn, 1) := by decide +kernel
theorem dX6_told_87 : decode cX6_told 87 = .ok (.iconst 0, 1) := by decide +kernel
theorem dX6_told_88 : decode cX6_told 88 = .ok (.istore 4, 2) := by decide +kernel
theorem dX6_told_90 : decode cX6_told 90 = .ok (.iload 4, 2) := by decide +kernel
theorem dX6_told_92 : decode cX6_told 92 = .ok (.i2l, 1) := by decide +kernel
theorem dX6_told_93 : decode cX6_told 93 = .ok (.aload_n 0, 1) := by decide +kernel
theorem dX6_told_94 : decode cX6_told 94 = .ok (.getfield 7, 3) := by decide +kernel
theorem dX6_told_97 : decode cX6_told 97 = .ok (.sipush 5670, 3) := by decide +kernel
theorem dX6_told_100 : decode cX6_told 100 = .ok (.laload, 1) := by decide +kernel
theorem dX6_told_101 : decode cX6_told 101 = .ok (.lcmp, 1) := by decide +kernel
theorem dX6_told_102 : decode cX6_told 102 = .ok (.ifCond .ge 18, 3) := by decide +kernel
theorem dX6_told_105 : decode cX6_told 105 = .ok (.lload_n 2, 1) := by decide +kernel
theorem dX6_told_106 : decode cX6_told 106 = .ok (.aload_n 0, 1) := by decide +kernel
theorem dX6_told_107 : decode cX6_told 107 = .ok (.iload 4, 2) := by decide +kernel
theorem dX6_told_109 : decode cX6_told 109 = .ok (.invokevirtual 114, 3) := by decide +kernel
theorem dX6_told_112 : decode cX6_told 112 = .ok (.ladd, 1) := by decide +kernel
theorem dX6_told_113 : decode cX6_told 113 = .ok (.lstore_n 2, 1) := by decide +kernel
theorem dX6_told_114 : decode cX6_told 114 = .ok (.iinc 4 1, 3) := by decide +kernel
theorem dX6_told_117 : decode cX6_told 117 = .ok (.goto (-27), 3) := by decide +kernel
theorem dX6_told_120 : decode cX6_told 120 = .ok (.lload_n 2, 1) := by decide +kernel
theorem dX6_told_121 : decode cX6_told 121 = .ok (.lreturn, 1) := by decide +kernel
theorem dX6_told_122 : decode cX6_told 122 = .ok (.iconst 0, 1) := by decide +kernel
theorem dX6_told_123 : decode cX6_told 123 = .ok (.istore 4, 2) := by decide +kernel
theorem dX6_told_125 : decode cX6_told 125 = .ok (.iload 4, 2) := by decide +kernel
theorem dX6_told_127 : decode cX6_told 127 = .ok (.i2l, 1) := by decide +kernel
theorem dX6_told_128 : decode cX6_told 128 = .ok (.aload_n 0, 1) := by decide +kernel
theorem dX6_told_129 : decode cX6_told 129 = .ok (.getfield 7, 3) := by decide +kernel
theorem dX6_told_132 : decode cX6_told 132 = .ok (.sipush 5668, 3) := by decide +kernel
theorem dX6_told_135 : decode cX6_told 135 = .ok (.laload, 1) := by decide +kernel
theorem dX6_told_136 : decode cX6_told 136 = .ok (.lcmp, 1) := by decide +kernel
theorem dX6_told_137 : decode cX6_told 137 = .ok (.ifCond .ge 23, 3) := by decide +kernel
theorem dX6_told_140 : decode cX6_told 140 = .ok (.lload_n 2, 1) := by decide +kernel
theorem dX6_told_141 : decode cX6_told 141 = .ok (.aload_n 0, 1) := by decide +kernel
theorem dX6_told_142 : decode cX6_told 142 = .ok (.getfield 7, 3) := by decide +kernel
theorem dX6_told_145 : decode cX6_told 145 = .ok (.iload 4, 2) := by decide +kernel
theorem dX6_told_147 : decode cX6_told 147 = .ok (.iconst 1, 1) := by decide +kernel
theorem dX6_told_148 : decode cX6_told 148 = .ok (.invokestatic 63, 3) := by decide +kernel
theorem dX6_told_151 : decode cX6_told 151 = .ok (.laload, 1) := by decide +kernel
theorem dX6_told_152 : decode cX6_told 152 = .ok (.ladd, 1) := by decide +kernel
theorem dX6_told_153 : decode cX6_told 153 = .ok (.lstore_n 2, 1) := by decide +kernel
theorem dX6_told_154 : decode cX6_told 154 = .ok (.iinc 4 1, 3) := by decide +kernel
theorem dX6_told_157 : decode cX6_told 157 = .ok (.goto (-32), 3) := by decide +kernel
theorem dX6_told_160 : decode cX6_told 160 = .ok (.lload_n 2, 1) := by decide +kernel
theorem dX6_told_161 : decode cX6_told 161 = .ok (.lreturn, 1) := by decide +kernel
theorem dX6_told_162 : decode cX6_told 162 = .ok (.iconst 0, 1) := by decide +kernel
theorem dX6_told_163 : decode cX6_told 163 = .ok (.istore 4, 2) := by decide +kernel
theorem dX6_told_165 : decode cX6_told 165 = .ok (.iload 4, 2) := by decide +kernel
theorem dX6_told_167 : decode cX6_told 167 = .ok (.i2l, 1) := by decide +kernel
theorem dX6_told_168 : decode cX6_told 168 = .ok (.aload_n 0, 1) := by decide +kernel
theorem dX6_told_169 : decode cX6_told 169 = .ok (.getfield 7, 3) := by decide +kernel
theorem dX6_told_172 : decode cX6_told 172 = .ok (.sipush 5669, 3) := by decide +kernel
theorem dX6_told_175 : decode cX6_told 175 = .ok (.laload, 1) := by decide +kernel
theorem dX6_told_176 : decode cX6_told 176 = .ok (.lcmp, 1) := by decide +kernel
theorem dX6_told_177 : decode cX6_told 177 = .ok (.ifCond .ge 23, 3) := by decide +kernel
theorem dX6_told_180 : decode cX6_told 180 = .ok (.lload_n 2, 1) := by decide +kernel
theorem dX6_told_181 : decode cX6_told 181 = .ok (.aload_n 0, 1) := by decide +kernel
theorem dX6_told_182 : decode cX6_told 182 = .ok (.getfield 7, 3) := by decide +kernel
theorem dX6_told_185 : decode cX6_told 185 = .ok (.iload 4, 2) := by decide +kernel
theorem dX6_told_187 : decode cX6_told 187 = .ok (.iconst 3, 1) := by decide +kernel
theorem dX6_told_188 : decode cX6_told 188 = .ok (.invokestatic 55, 3) := by decide +kernel
theorem dX6_told_191 : decode cX6_told 191 = .ok (.laload, 1) := by decide +kernel
theorem dX6_told_192 : decode cX6_told 192 = .ok (.ladd, 1) := by decide +kernel
theorem dX6_told_193 : decode cX6_told 193 = .ok (.lstore_n 2, 1) := by decide +kernel
theorem dX6_told_194 : decode cX6_told 194 = .ok (.iinc 4 1, 3) := by decide +kernel
theorem dX6_told_197 : decode cX6_told 197 = .ok (.goto (-32), 3) := by decide +kernel
theorem dX6_told_200 : decode cX6_told 200 = .ok (.lload_n 2, 1) := by decide +kernel
theorem dX6_told_201 : decode cX6_told 201 = .ok (.lreturn, 1) := by decide +kernel
theorem dX6_told_202 : decode cX6_told 202 = .ok (.iconst 0, 1) := by decide +kernel
theorem dX6_told_203 : decode cX6_told 203 = .ok (.istore 4, 2) := by decide +kernel
theorem dX6_told_205 : decode cX6_told 205 = .ok (.iload 4, 2) := by decide +kernel
theorem dX6_told_207 : decode cX6_told 207 = .ok (.i2l, 1) := by decide +kernel
theorem dX6_told_208 : decode cX6_told 208 = .ok (.aload_n 0, 1) := by decide +kernel
theorem dX6_told_209 : decode cX6_told 209 = .ok (.getfield 7, 3) := by decide +kernel
theorem dX6_told_212 : decode cX6_told 212 = .ok (.sipush 5668, 3) := by decide +kernel
theorem dX6_told_215 : decode cX6_told 215 = .ok (.laload, 1) := by decide +kernel
theorem dX6_told_216 : decode cX6_told 216 = .ok (.lcmp, 1) := by decide +kernel
theorem dX6_told_217 : decode cX6_told 217 = .ok (.ifCond .ge 23, 3) := by decide +kernel
theorem dX6_told_220 : decode cX6_told 220 = .ok (.lload_n 2, 1) := by decide +kernel
theorem dX6_told_221 : decode cX6_told 221 = .ok (.aload_n 0, 1) := by decide +kernel
theorem dX6_told_222 : decode cX6_told 222 = .ok (.getfield 7, 3) := by decide +kernel
theorem dX6_told_225 : decode cX6_told 225 = .ok (.iload 4, 2) := by decide +kernel
theorem dX6_told_227 : decode cX6_told 227 = .ok (.iconst 2, 1) := by decide +kernel
theorem dX6_told_228 : decode cX6_told 228 = .ok (.invokestatic 63, 3) := by decide +kernel
theorem dX6_told_231 : decode cX6_told 231 = .ok (.laload, 1) := by decide +kernel
theorem dX6_told_232 : decode cX6_told 232 = .ok (.ladd, 1) := by decide +kernel
theorem dX6_told_233 : decode cX6_told 233 = .ok (.lstore_n 2, 1) := by decide +kernel
theorem dX6_told_234 : decode cX6_told 234 = .ok (.iinc 4 1, 3) := by decide +kernel
theorem dX6_told_237 : decode cX6_told 237 = .ok (.goto (-32), 3) := by decide +kernel
theorem dX6_told_240 : decode cX6_told 240 = .ok (.lload_n 2, 1) := by decide +kernel
theorem dX6_told_241 : decode cX6_told 241 = .ok (.lreturn, 1) := by decide +kernel
theorem dX6_told_242 : decode cX6_told 242 = .ok (.aload_n 0, 1) := by decide +kernel
theorem dX6_told_243 : decode cX6_told 243 = .ok (.getfield 7, 3) := by decide +kernel
theorem dX6_told_246 : decode cX6_told 246 = .ok (.sipush 5671, 3) := by decide +kernel
theorem dX6_told_249 : decode cX6_told 249 = .ok (.laload, 1) := by decide +kernel
theorem dX6_told_250 : decode cX6_told 250 = .ok (.lreturn, 1) := by decide +kernel
theorem dX6_told_251 : decode cX6_told 251 = .ok (.aload_n 0, 1) := by decide +kernel
theorem dX6_told_252 : decode cX6_told 252 = .ok (.getfield 7, 3) := by decide +kernel
theorem dX6_told_255 : decode cX6_told 255 = .ok (.sipush 5668, 3) := by decide +kernel
theorem dX6_told_258 : decode cX6_told 258 = .ok (.laload, 1) := by decide +kernel
theorem dX6_told_259 : decode cX6_told 259 = .ok (.lreturn, 1) := by decide +kernel
theorem dX6_told_260 : decode cX6_told 260 = .ok (.aload_n 0, 1) := by decide +kernel
theorem dX6_told_261 : decode cX6_told 261 = .ok (.getfield 7, 3) := by decide +kernel
theorem dX6_told_264 : decode cX6_told 264 = .ok (.sipush 5669, 3) := by decide +kernel
theorem dX6_told_267 : decode cX6_told 267 = .ok (.laload, 1) := by decide +kernel
theorem dX6_told_268 : decode cX6_told 268 = .ok (.lreturn, 1) := by decide +kernel
theorem dX6_told_269 : decode cX6_told 269 = .ok (.aload_n 0, 1) := by decide +kernel
theorem dX6_told_270 : decode cX6_told 270 = .ok (.getfield 7, 3) := by decide +kernel
theorem dX6_told_273 : decode cX6_told 273 = .ok (.sipush 5670, 3) := by decide +kernel
theorem dX6_told_276 : decode cX6_told 276 = .ok (.laload, 1) := by decide +kernel
theorem dX6_told_277 : decode cX6_told 277 = .ok (.lreturn, 1) := by decide +kernel
theorem dX6_told_278 : decode cX6_told 278 = .ok (.ldc2_w 41, 3) := by decide +kernel
theorem dX6_told_281 : decode cX6_told 281 = .ok (.lreturn, 1) := by decide +kernel
theorem dX6_keep_0 : decode cX6_keep 0 = .ok (.iconst 0, 1) := by decide +kernel
theorem dX6_keep_1 : decode cX6_keep 1 = .ok (.istore_n 1, 1) := by decide +kernel
theorem dX6_keep_2 : decode cX6_keep 2 = .ok (.iload_n 1, 1) := by decide +kernel
theorem dX6_keep_3 : decode cX6_keep 3 = .ok (.sipush 5672, 3) := by decide +kernel
theorem dX6_keep_6 : decode cX6_keep 6 = .ok (.if_icmp .ge 21, 3) := by decide +kernel
theorem dX6_keep_9 : decode cX6_keep 9 = .ok (.aload_n 0, 1) := by decide +kernel
theorem dX6_keep_10 : decode cX6_keep 10 = .ok (.getfield 13, 3) := by decide +kernel
theorem dX6_keep_13 : decode cX6_keep 13 = .ok (.iload_n 1, 1) := by decide +kernel
theorem dX6_keep_14 : decode cX6_keep 14 = .ok (.aload_n 0, 1) := by decide +kernel
theorem dX6_keep_15 : decode cX6_keep 15 = .ok (.getfield 7, 3) := by decide +kernel
theorem dX6_keep_18 : decode cX6_keep 18 = .ok (.iload_n 1, 1) := by decide +kernel
theorem dX6_keep_19 : decode cX6_keep 19 = .ok (.laload, 1) := by decide +kernel
theorem dX6_keep_20 : decode cX6_keep 20 = .ok (.lastore, 1) := by decide +kernel
theorem dX6_keep_21 : decode cX6_keep 21 = .ok (.iinc 1 1, 3) := by decide +kernel
theorem dX6_keep_24 : decode cX6_keep 24 = .ok (.goto (-22), 3) := by decide +kernel
theorem dX6_keep_27 : decode cX6_keep 27 = .ok (.aload_n 0, 1) := by decide +kernel
theorem dX6_keep_28 : decode cX6_keep 28 = .ok (.iconst 1, 1) := by decide +kernel
theorem dX6_keep_29 : decode cX6_keep 29 = .ok (.putfield 136, 3) := by decide +kernel
theorem dX6_keep_32 : decode cX6_keep 32 = .ok (.lconst 1, 1) := by decide +kernel
theorem dX6_keep_33 : decode cX6_keep 33 = .ok (.lreturn, 1) := by decide +kernel
theorem dX6_back_0 : decode cX6_back 0 = .ok (.aload_n 0, 1) := by decide +kernel
theorem dX6_back_1 : decode cX6_back 1 = .ok (.getfield 136, 3) := by decide +kernel
theorem dX6_back_4 : decode cX6_back 4 = .ok (.ifCond .ne 7, 3) := by decide +kernel
theorem dX6_back_7 : decode cX6_back 7 = .ok (.ldc2_w 41, 3) := by decide +kernel
theorem dX6_back_10 : decode cX6_back 10 = .ok (.lreturn, 1) := by decide +kernel
theorem dX6_back_11 : decode cX6_back 11 = .ok (.iconst 0, 1) := by decide +kernel
theorem dX6_back_12 : decode cX6_back 12 = .ok (.istore_n 1, 1) := by decide +kernel
theorem dX6_back_13 : decode cX6_back 13 = .ok (.iload_n 1, 1) := by decide +kernel
theorem dX6_back_14 : decode cX6_back 14 = .ok (.sipush 5672, 3) := by decide +kernel
theorem dX6_back_17 : decode cX6_back 17 = .ok (.if_icmp .ge 21, 3) := by decide +kernel
theorem dX6_back_20 : decode cX6_back 20 = .ok (.aload_n 0, 1) := by decide +kernel
theorem dX6_back_21 : decode cX6_back 21 = .ok (.getfield 7, 3) := by decide +kernel
theorem dX6_back_24 : decode cX6_back 24 = .ok (.iload_n 1, 1) := by decide +kernel
theorem dX6_back_25 : decode cX6_back 25 = .ok (.aload_n 0, 1) := by decide +kernel
theorem dX6_back_26 : decode cX6_back 26 = .ok (.getfield 13, 3) := by decide +kernel
theorem dX6_back_29 : decode cX6_back 29 = .ok (.iload_n 1, 1) := by decide +kernel
theorem dX6_back_30 : decode cX6_back 30 = .ok (.laload, 1) := by decide +kernel
theorem dX6_back_31 : decode cX6_back 31 = .ok (.lastore, 1) := by decide +kernel
theorem dX6_back_32 : decode cX6_back 32 = .ok (.iinc 1 1, 3) := by decide +kernel
theorem dX6_back_35 : decode cX6_back 35 = .ok (.goto (-22), 3) := by decide +kernel
theorem dX6_back_38 : decode cX6_back 38 = .ok (.lconst 1, 1) := by decide +kernel
theorem dX6_back_39 : decode cX6_back 39 = .ok (.lreturn, 1) := by decide +kernel
theorem dJ9_max_7cf53_0 : decode cJ9_max_7cf53 0 = .ok (.iload_n 0, 1) := by decide +kernel
theorem dJ9_max_7cf53_1 : decode cJ9_max_7cf53 1 = .ok (.iload_n 1, 1) := by decide +kernel
theorem dJ9_max_7cf53_2 : decode cJ9_max_7cf53 2 = .ok (.if_icmp .lt 7, 3) := by decide +kernel
theorem dJ9_max_7cf53_5 : decode cJ9_max_7cf53 5 = .ok (.iload_n 0, 1) := by decide +kernel
theorem dJ9_max_7cf53_6 : decode cJ9_max_7cf53 6 = .ok (.goto 4, 3) := by decide +kernel
theorem dJ9_max_7cf53_9 : decode cJ9_max_7cf53 9 = .ok (.iload_n 1, 1) := by decide +kernel
theorem dJ9_max_7cf53_10 : decode cJ9_max_7cf53 10 = .ok (.ireturn, 1) := by decide +kernel
theorem dJ9_max_f86c9_0 : decode cJ9_max_f86c9 0 = .ok (.lload_n 0, 1) := by decide +kernel
theorem dJ9_max_f86c9_1 : decode cJ9_max_f86c9 1 = .ok (.lload_n 2, 1) := by decide +kernel
theorem dJ9_max_f86c9_2 : decode cJ9_max_f86c9 2 = .ok (.lcmp, 1) := by decide +kernel
theorem dJ9_max_f86c9_3 : decode cJ9_max_f86c9 3 = .ok (.ifCond .lt 7, 3) := by decide +kernel
theorem dJ9_max_f86c9_6 : decode cJ9_max_f86c9 6 = .ok (.lload_n 0, 1) := by decide +kernel
theorem dJ9_max_f86c9_7 : decode cJ9_max_f86c9 7 = .ok (.goto 4, 3) := by decide +kernel
theorem dJ9_max_f86c9_10 : decode cJ9_max_f86c9 10 = .ok (.lload_n 2, 1) := by decide +kernel
theorem dJ9_max_f86c9_11 : decode cJ9_max_f86c9 11 = .ok (.lreturn, 1) := by decide +kernel
theorem dJ9_min_f86c9_0 : decode cJ9_min_f86c9 0 = .ok (.lload_n 0, 1) := by decide +kernel
theorem dJ9_min_f86c9_1 : decode cJ9_min_f86c9 1 = .ok (.lload_n 2, 1) := by decide +kernel
theorem dJ9_min_f86c9_2 : decode cJ9_min_f86c9 2 = .ok (.lcmp, 1) := by decide +kernel
theorem dJ9_min_f86c9_3 : decode cJ9_min_f86c9 3 = .ok (.ifCond .gt 7, 3) := by decide +kernel
theorem dJ9_min_f86c9_6 : decode cJ9_min_f86c9 6 = .ok (.lload_n 0, 1) := by decide +kernel
theorem dJ9_min_f86c9_7 : decode cJ9_min_f86c9 7 = .ok (.goto 4, 3) := by decide +kernel
theorem dJ9_min_f86c9_10 : decode cJ9_min_f86c9 10 = .ok (.lload_n 2, 1) := by decide +kernel
theorem dJ9_min_f86c9_11 : decode cJ9_min_f86c9 11 = .ok (.lreturn, 1) := by decide +kernel
theorem dJ7_fill_d0a16_0 : decode cJ7_fill_d0a16 0 = .ok (.iconst 0, 1) := by decide +kernel
theorem dJ7_fill_d0a16_1 : decode cJ7_fill_d0a16 1 = .ok (.istore_n 3, 1) := by decide +kernel
theorem dJ7_fill_d0a16_2 : decode cJ7_fill_d0a16 2 = .ok (.aload_n 0, 1) := by decide +kernel
theorem dJ7_fill_d0a16_3 : decode cJ7_fill_d0a16 3 = .ok (.arraylength, 1) := by decide +kernel
theorem dJ7_fill_d0a16_4 : decode cJ7_fill_d0a16 4 = .ok (.istore 4, 2) := by decide +kernel
theorem dJ7_fill_d0a16_6 : decode cJ7_fill_d0a16 6 = .ok (.iload_n 3, 1) := by decide +kernel
theorem dJ7_fill_d0a16_7 : decode cJ7_fill_d0a16 7 = .ok (.iload 4, 2) := by decide +kernel
theorem dJ7_fill_d0a16_9 : decode cJ7_fill_d0a16 9 = .ok (.if_icmp .ge 13, 3) := by decide +kernel
theorem dJ7_fill_d0a16_12 : decode cJ7_fill_d0a16 12 = .ok (.aload_n 0, 1) := by decide +kernel
theorem dJ7_fill_d0a16_13 : decode cJ7_fill_d0a16 13 = .ok (.iload_n 3, 1) := by decide +kernel
theorem dJ7_fill_d0a16_14 : decode cJ7_fill_d0a16 14 = .ok (.lload_n 1, 1) := by decide +kernel
theorem dJ7_fill_d0a16_15 : decode cJ7_fill_d0a16 15 = .ok (.lastore, 1) := by decide +kernel
theorem dJ7_fill_d0a16_16 : decode cJ7_fill_d0a16 16 = .ok (.iinc 3 1, 3) := by decide +kernel
theorem dJ7_fill_d0a16_19 : decode cJ7_fill_d0a16 19 = .ok (.goto (-13), 3) := by decide +kernel
theorem dJ7_fill_d0a16_22 : decode cJ7_fill_d0a16 22 = .ok (.return_, 1) := by decide +kernel
theorem dL_law_0 : decode cL_law 0 = .ok (.new 7, 3) := by decide +kernel
theorem dL_law_3 : decode cL_law 3 = .ok (.dup, 1) := by decide +kernel
theorem dL_law_4 : decode cL_law 4 = .ok (.invokespecial 9, 3) := by decide +kernel
theorem dL_law_7 : decode cL_law 7 = .ok (.astore_n 1, 1) := by decide +kernel
theorem dL_law_8 : decode cL_law 8 = .ok (.new 10, 3) := by decide +kernel
theorem dL_law_11 : decode cL_law 11 = .ok (.dup, 1) := by decide +kernel
theorem dL_law_12 : decode cL_law 12 = .ok (.invokespecial 12, 3) := by decide +kernel
theorem dL_law_15 : decode cL_law 15 = .ok (.astore_n 2, 1) := by decide +kernel
theorem dL_law_16 : decode cL_law 16 = .ok (.iconst 0, 1) := by decide +kernel
theorem dL_law_17 : decode cL_law 17 = .ok (.istore_n 3, 1) := by decide +kernel
theorem dL_law_18 : decode cL_law 18 = .ok (.iload_n 3, 1) := by decide +kernel
theorem dL_law_19 : decode cL_law 19 = .ok (.aload_n 0, 1) := by decide +kernel
theorem dL_law_20 : decode cL_law 20 = .ok (.arraylength, 1) := by decide +kernel
theorem dL_law_21 : decode cL_law 21 = .ok (.bipush 7, 2) := by decide +kernel
theorem dL_law_23 : decode cL_law 23 = .ok (.isub, 1) := by decide +kernel
theorem dL_law_24 : decode cL_law 24 = .ok (.if_icmp .gt 838, 3) := by decide +kernel
theorem dL_law_27 : decode cL_law 27 = .ok (.aload_n 0, 1) := by decide +kernel
theorem dL_law_28 : decode cL_law 28 = .ok (.iload_n 3, 1) := by decide +kernel
theorem dL_law_29 : decode cL_law 29 = .ok (.iaload, 1) := by decide +kernel
theorem dL_law_30 : decode cL_law 30 = .ok (.bipush 31, 2) := by decide +kernel
theorem dL_law_32 : decode cL_law 32 = .ok (.iand, 1) := by decide +kernel
theorem dL_law_33 : decode cL_law 33 = .ok (.tableswitch 823 0 21 #[103, 137, 171, 195, 229, 253, 287, 331, 365, 441, 475, 509, 553, 587, 621, 645, 679, 703, 737, 771, 795, 809], 103) := by decide +kernel
theorem dL_law_136 : decode cL_law 136 = .ok (.aload_n 1, 1) := by decide +kernel
theorem dL_law_137 : decode cL_law 137 = .ok (.aload_n 0, 1) := by decide +kernel
theorem dL_law_138 : decode cL_law 138 = .ok (.iload_n 3, 1) := by decide +kernel
theorem dL_law_139 : decode cL_law 139 = .ok (.iconst 1, 1) := by decide +kernel
theorem dL_law_140 : decode cL_law 140 = .ok (.iadd, 1) := by decide +kernel
theorem dL_law_141 : decode cL_law 141 = .ok (.iaload, 1) := by decide +kernel
theorem dL_law_142 : decode cL_law 142 = .ok (.aload_n 0, 1) := by decide +kernel
theorem dL_law_143 : decode cL_law 143 = .ok (.iload_n 3, 1) := by decide +kernel
theorem dL_law_144 : decode cL_law 144 = .ok (.iconst 2, 1) := by decide +kernel
theorem dL_law_145 : decode cL_law 145 = .ok (.iadd, 1) := by decide +kernel
theorem dL_law_146 : decode cL_law 146 = .ok (.iaload, 1) := by decide +kernel
theorem dL_law_147 : decode cL_law 147 = .ok (.invokevirtual 13, 3) := by decide +kernel
theorem dL_law_150 : decode cL_law 150 = .ok (.aload_n 2, 1) := by decide +kernel
theorem dL_law_151 : decode cL_law 151 = .ok (.aload_n 0, 1) := by decide +kernel
theorem dL_law_152 : decode cL_law 152 = .ok (.iload_n 3, 1) := by decide +kernel
theorem dL_law_153 : decode cL_law 153 = .ok (.iconst 1, 1) := by decide +kernel
theorem dL_law_154 : decode cL_law 154 = .ok (.iadd, 1) := by decide +kernel
theorem dL_law_155 : decode cL_law 155 = .ok (.iaload, 1) := by decide +kernel
theorem dL_law_156 : decode cL_law 156 = .ok (.aload_n 0, 1) := by decide +kernel
theorem dL_law_157 : decode cL_law 157 = .ok (.iload_n 3, 1) := by decide +kernel
theorem dL_law_158 : decode cL_law 158 = .ok (.iconst 2, 1) := by decide +kernel
theorem dL_law_159 : decode cL_law 159 = .ok (.iadd, 1) := by decide +kernel
theorem dL_law_160 : decode cL_law 160 = .ok (.iaload, 1) := by decide +kernel
theorem dL_law_161 : decode cL_law 161 = .ok (.invokevirtual 17, 3) := by decide +kernel
theorem dL_law_164 : decode cL_law 164 = .ok (.lcmp, 1) := by decide +kernel
theorem dL_law_165 : decode cL_law 165 = .ok (.ifCond .eq 691, 3) := by decide +kernel
theorem dL_law_168 : decode cL_law 168 = .ok (.iconst 0, 1) := by decide +kernel
theorem dL_law_169 : decode cL_law 169 = .ok (.ireturn, 1) := by decide +kernel
theorem dL_law_170 : decode cL_law 170 = .ok (.aload_n 1, 1) := by decide +kernel
theorem dL_law_171 : decode cL_law 171 = .ok (.aload_n 0, 1) := by decide +kernel
theorem dL_law_172 : decode cL_law 172 = .ok (.iload_n 3, 1) := by decide +kernel
theorem dL_law_173 : decode cL_law 173 = .ok (.iconst 1, 1) := by decide +kernel
theorem dL_law_174 : decode cL_law 174 = .ok (.iadd, 1) := by decide +kernel
theorem dL_law_175 : decode cL_law 175 = .ok (.iaload, 1) := by decide +kernel
theorem dL_law_176 : decode cL_law 176 = .ok (.aload_n 0, 1) := by decide +kernel
theorem dL_law_177 : decode cL_law 177 = .ok (.iload_n 3, 1) := by decide +kernel
theorem dL_law_178 : decode cL_law 178 = .ok (.iconst 2, 1) := by decide +kernel
theorem dL_law_179 : decode cL_law 179 = .ok (.iadd, 1) := by decide +kernel
theorem dL_law_180 : decode cL_law 180 = .ok (.iaload, 1) := by decide +kernel
theorem dL_law_181 : decode cL_law 181 = .ok (.invokevirtual 18, 3) := by decide +kernel
theorem dL_law_184 : decode cL_law 184 = .ok (.aload_n 2, 1) := by decide +kernel
theorem dL_law_185 : decode cL_law 185 = .ok (.aload_n 0, 1) := by decide +kernel
theorem dL_law_186 : decode cL_law 186 = .ok (.iload_n 3, 1) := by decide +kernel
theorem dL_law_187 : decode cL_law 187 = .ok (.iconst 1, 1) := by decide +kernel
theorem dL_law_188 : decode cL_law 188 = .ok (.iadd, 1) := by decide +kernel
theorem dL_law_189 : decode cL_law 189 = .ok (.iaload, 1) := by decide +kernel
theorem dL_law_190 : decode cL_law 190 = .ok (.aload_n 0, 1) := by decide +kernel
theorem dL_law_191 : decode cL_law 191 = .ok (.iload_n 3, 1) := by decide +kernel
theorem dL_law_192 : decode cL_law 192 = .ok (.iconst 2, 1) := by decide +kernel
theorem dL_law_193 : decode cL_law 193 = .ok (.iadd, 1) := by decide +kernel
theorem dL_law_194 : decode cL_law 194 = .ok (.iaload, 1) := by decide +kernel
theorem dL_law_195 : decode cL_law 195 = .ok (.invokevirtual 21, 3) := by decide +kernel
theorem dL_law_198 : decode cL_law 198 = .ok (.lcmp, 1) := by decide +kernel
theorem dL_law_199 : decode cL_law 199 = .ok (.ifCond .eq 657, 3) := by decide +kernel
theorem dL_law_202 : decode cL_law 202 = .ok (.iconst 0, 1) := by decide +kernel
theorem dL_law_203 : decode cL_law 203 = .ok (.ireturn, 1) := by decide +kernel
theorem dL_law_204 : decode cL_law 204 = .ok (.aload_n 1, 1) := by decide +kernel
theorem dL_law_205 : decode cL_law 205 = .ok (.aload_n 0, 1) := by decide +kernel
theorem dL_law_206 : decode cL_law 206 = .ok (.iload_n 3, 1) := by decide +kernel
theorem dL_law_207 : decode cL_law 207 = .ok (.iconst 1, 1) := by decide +kernel
theorem dL_law_208 : decode cL_law 208 = .ok (.iadd, 1) := by decide +kernel
theorem dL_law_209 : decode cL_law 209 = .ok (.iaload, 1) := by decide +kernel
theorem dL_law_210 : decode cL_law 210 = .ok (.invokevirtual 22, 3) := by decide +kernel
theorem dL_law_213 : decode cL_law 213 = .ok (.aload_n 2, 1) := by decide +kernel
theorem dL_law_214 : decode cL_law 214 = .ok (.aload_n 0, 1) := by decide +kernel
theorem dL_law_215 : decode cL_law 215 = .ok (.iload_n 3, 1) := by decide +kernel
theorem dL_law_216 : decode cL_law 216 = .ok (.iconst 1, 1) := by decide +kernel
theorem dL_law_217 : decode cL_law 217 = .ok (.iadd, 1) := by decide +kernel
theorem dL_law_218 : decode cL_law 218 = .ok (.iaload, 1) := by decide +kernel
theorem dL_law_219 : decode cL_law 219 = .ok (.invokevirtual 26, 3) := by decide +kernel
theorem dL_law_222 : decode cL_law 222 = .ok (.lcmp, 1) := by decide +kernel
theorem dL_law_223 : decode cL_law 223 = .ok (.ifCond .eq 633, 3) := by decide +kernel
theorem dL_law_226 : decode cL_law 226 = .ok (.iconst 0, 1) := by decide +kernel
theorem dL_law_227 : decode cL_law 227 = .ok (.ireturn, 1) := by decide +kernel
theorem dL_law_228 : decode cL_law 228 = .ok (.aload_n 1, 1) := by decide +kernel
theorem dL_law_229 : decode cL_law 229 = .ok (.aload_n 0, 1) := by decide +kernel
theorem dL_law_230 : decode cL_law 230 = .ok (.iload_n 3, 1) := by decide +kernel
theorem dL_law_231 : decode cL_law 231 = .ok (.iconst 1, 1) := by decide +kernel
theorem dL_law_232 : decode cL_law 232 = .ok (.iadd, 1) := by decide +kernel
theorem dL_law_233 : decode cL_law 233 = .ok (.iaload, 1) := by decide +kernel
theorem dL_law_234 : decode cL_law 234 = .ok (.aload_n 0, 1) := by decide +kernel
theorem dL_law_235 : decode cL_law 235 = .ok (.iload_n 3, 1) := by decide +kernel
theorem dL_law_236 : decode cL_law 236 = .ok (.iconst 2, 1) := by decide +kernel
theorem dL_law_237 : decode cL_law 237 = .ok (.iadd, 1) := by decide +kernel
theorem dL_law_238 : decode cL_law 238 = .ok (.iaload, 1) := by decide +kernel
theorem dL_law_239 : decode cL_law 239 = .ok (.invokevirtual 27, 3) := by decide +kernel
theorem dL_law_242 : decode cL_law 242 = .ok (.aload_n 2, 1) := by decide +kernel
theorem dL_law_243 : decode cL_law 243 = .ok (.aload_n 0, 1) := by decide +kernel
theorem dL_law_244 : decode cL_law 244 = .ok (.iload_n 3, 1) := by decide +kernel
theorem dL_law_245 : decode cL_law 245 = .ok (.iconst 1, 1) := by decide +kernel
theorem dL_law_246 : decode cL_law 246 = .ok (.iadd, 1) := by decide +kernel
theorem dL_law_247 : decode cL_law 247 = .ok (.iaload, 1) := by decide +kernel
theorem dL_law_248 : decode cL_law 248 = .ok (.aload_n 0, 1) := by decide +kernel
theorem dL_law_249 : decode cL_law 249 = .ok (.iload_n 3, 1) := by decide +kernel
theorem dL_law_250 : decode cL_law 250 = .ok (.iconst 2, 1) := by decide +kernel
theorem dL_law_251 : decode cL_law 251 = .ok (.iadd, 1) := by decide +kernel
theorem dL_law_252 : decode cL_law 252 = .ok (.iaload, 1) := by decide +kernel
theorem dL_law_253 : decode cL_law 253 = .ok (.invokevirtual 30, 3) := by decide +kernel
theorem dL_law_256 : decode cL_law 256 = .ok (.lcmp, 1) := by decide +kernel
theorem dL_law_257 : decode cL_law 257 = .ok (.ifCond .eq 599, 3) := by decide +kernel
theorem dL_law_260 : decode cL_law 260 = .ok (.iconst 0, 1) := by decide +kernel
theorem dL_law_261 : decode cL_law 261 = .ok (.ireturn, 1) := by decide +kernel
theorem dL_law_262 : decode cL_law 262 = .ok (.aload_n 1, 1) := by decide +kernel
theorem dL_law_263 : decode cL_law 263 = .ok (.aload_n 0, 1) := by decide +kernel
theorem dL_law_264 : decode cL_law 264 = .ok (.iload_n 3, 1) := by decide +kernel
theorem dL_law_265 : decode cL_law 265 = .ok (.iconst 1, 1) := by decide +kernel
theorem dL_law_266 : decode cL_law 266 = .ok (.iadd, 1) := by decide +kernel
theorem dL_law_267 : decode cL_law 267 = .ok (.iaload, 1) := by decide +kernel
theorem dL_law_268 : decode cL_law 268 = .ok (.invokevirtual 31, 3) := by decide +kernel
theorem dL_law_271 : decode cL_law 271 = .ok (.aload_n 2, 1) := by decide +kernel
theorem dL_law_272 : decode cL_law 272 = .ok (.aload_n 0, 1) := by decide +kernel
theorem dL_law_273 : decode cL_law 273 = .ok (.iload_n 3, 1) := by decide +kernel
theorem dL_law_274 : decode cL_law 274 = .ok (.iconst 1, 1) := by decide +kernel
theorem dL_law_275 : decode cL_law 275 = .ok (.iadd, 1) := by decide +kernel
theorem dL_law_276 : decode cL_law 276 = .ok (.iaload, 1) := by decide +kernel
theorem dL_law_277 : decode cL_law 277 = .ok (.invokevirtual 34, 3) := by decide +kernel
theorem dL_law_280 : decode cL_law 280 = .ok (.lcmp, 1) := by decide +kernel
theorem dL_law_281 : decode cL_law 281 = .ok (.ifCond .eq 575, 3) := by decide +kernel
theorem dL_law_284 : decode cL_law 284 = .ok (.iconst 0, 1) := by decide +kernel
theorem dL_law_285 : decode cL_law 285 = .ok (.ireturn, 1) := by decide +kernel
theorem dL_law_286 : decode cL_law 286 = .ok (.aload_n 1, 1) := by decide +kernel
theorem dL_law_287 : decode cL_law 287 = .ok (.aload_n 0, 1) := by decide +kernel
theorem dL_law_288 : decode cL_law 288 = .ok (.iload_n 3, 1) := by decide +kernel
theorem dL_law_289 : decode cL_law 289 = .ok (.iconst 1, 1) := by decide +kernel
theorem dL_law_290 : decode cL_law 290 = .ok (.iadd, 1) := by decide +kernel
theorem dL_law_291 : decode cL_law 291 = .ok (.iaload, 1) := by decide +kernel
theorem dL_law_292 : decode cL_law 292 = .ok (.aload_n 0, 1) := by decide +kernel
theorem dL_law_293 : decode cL_law 293 = .ok (.iload_n 3, 1) := by decide +kernel
theorem dL_law_294 : decode cL_law 294 = .ok (.iconst 2, 1) := by decide +kernel
theorem dL_law_295 : decode cL_law 295 = .ok (.iadd, 1) := by decide +kernel
theorem dL_law_296 : decode cL_law 296 = .ok (.iaload, 1) := by decide +kernel
theorem dL_law_297 : decode cL_law 297 = .ok (.invokevirtual 35, 3) := by decide +kernel
theorem dL_law_300 : decode cL_law 300 = .ok (.aload_n 2, 1) := by decide +kernel
theorem dL_law_301 : decode cL_law 301 = .ok (.aload_n 0, 1) := by decide +kernel
theorem dL_law_302 : decode cL_law 302 = .ok (.iload_n 3, 1) := by decide +kernel
theorem dL_law_303 : decode cL_law 303 = .ok (.iconst 1, 1) := by decide +kernel
theorem dL_law_304 : decode cL_law 304 = .ok (.iadd, 1) := by decide +kernel
theorem dL_law_305 : decode cL_law 305 = .ok (.iaload, 1) := by decide +kernel
theorem dL_law_306 : decode cL_law 306 = .ok (.aload_n 0, 1) := by decide +kernel
theorem dL_law_307 : decode cL_law 307 = .ok (.iload_n 3, 1) := by decide +kernel
theorem dL_law_308 : decode cL_law 308 = .ok (.iconst 2, 1) := by decide +kernel
theorem dL_law_309 : decode cL_law 309 = .ok (.iadd, 1) := by decide +kernel
theorem dL_law_310 : decode cL_law 310 = .ok (.iaload, 1) := by decide +kernel
theorem dL_law_311 : decode cL_law 311 = .ok (.invokevirtual 38, 3) := by decide +kernel
theorem dL_law_314 : decode cL_law 314 = .ok (.lcmp, 1) := by decide +kernel
theorem dL_law_315 : decode cL_law 315 = .ok (.ifCond .eq 541, 3) := by decide +kernel
theorem dL_law_318 : decode cL_law 318 = .ok (.iconst 0, 1) := by decide +kernel
theorem dL_law_319 : decode cL_law 319 = .ok (.ireturn, 1) := by decide +kernel
theorem dL_law_320 : decode cL_law 320 = .ok (.aload_n 1, 1) := by decide +kernel
theorem dL_law_321 : decode cL_law 321 = .ok (.aload_n 0, 1) := by decide +kernel
theorem dL_law_322 : decode cL_law 322 = .ok (.iload_n 3, 1) := by decide +kernel
theorem dL_law_323 : decode cL_law 323 = .ok (.iconst 1, 1) := by decide +kernel
theorem dL_law_324 : decode cL_law 324 = .ok (.iadd, 1) := by decide +kernel
theorem dL_law_325 : decode cL_law 325 = .ok (.iaload, 1) := by decide +kernel
theorem dL_law_326 : decode cL_law 326 = .ok (.aload_n 0, 1) := by decide +kernel
theorem dL_law_327 : decode cL_law 327 = .ok (.iload_n 3, 1) := by decide +kernel
theorem dL_law_328 : decode cL_law 328 = .ok (.iconst 2, 1) := by decide +kernel
theorem dL_law_329 : decode cL_law 329 = .ok (.iadd, 1) := by decide +kernel
theorem dL_law_330 : decode cL_law 330 = .ok (.iaload, 1) := by decide +kernel
theorem dL_law_331 : decode cL_law 331 = .ok (.aload_n 0, 1) := by decide +kernel
theorem dL_law_332 : decode cL_law 332 = .ok (.iload_n 3, 1) := by decide +kernel
theorem dL_law_333 : decode cL_law 333 = .ok (.iconst 3, 1) := by decide +kernel
theorem dL_law_334 : decode cL_law 334 = .ok (.iadd, 1) := by decide +kernel
theorem dL_law_335 : decode cL_law 335 = .ok (.iaload, 1) := by decide +kernel
theorem dL_law_336 : decode cL_law 336 = .ok (.invokevirtual 39, 3) := by decide +kernel
theorem dL_law_339 : decode cL_law 339 = .ok (.aload_n 2, 1) := by decide +kernel
theorem dL_law_340 : decode cL_law 340 = .ok (.aload_n 0, 1) := by decide +kernel
theorem dL_law_341 : decode cL_law 341 = .ok (.iload_n 3, 1) := by decide +kernel
theorem dL_law_342 : decode cL_law 342 = .ok (.iconst 1, 1) := by decide +kernel
theorem dL_law_343 : decode cL_law 343 = .ok (.iadd, 1) := by decide +kernel
theorem dL_law_344 : decode cL_law 344 = .ok (.iaload, 1) := by decide +kernel
theorem dL_law_345 : decode cL_law 345 = .ok (.aload_n 0, 1) := by decide +kernel
theorem dL_law_346 : decode cL_law 346 = .ok (.iload_n 3, 1) := by decide +kernel
theorem dL_law_347 : decode cL_law 347 = .ok (.iconst 2, 1) := by decide +kernel
theorem dL_law_348 : decode cL_law 348 = .ok (.iadd, 1) := by decide +kernel
theorem dL_law_349 : decode cL_law 349 = .ok (.iaload, 1) := by decide +kernel
theorem dL_law_350 : decode cL_law 350 = .ok (.aload_n 0, 1) := by decide +kernel
theorem dL_law_351 : decode cL_law 351 = .ok (.iload_n 3, 1) := by decide +kernel
theorem dL_law_352 : decode cL_law 352 = .ok (.iconst 3, 1) := by decide +kernel
theorem dL_law_353 : decode cL_law 353 = .ok (.iadd, 1) := by decide +kernel
theorem dL_law_354 : decode cL_law 354 = .ok (.iaload, 1) := by decide +kernel
theorem dL_law_355 : decode cL_law 355 = .ok (.invokevirtual 43, 3) := by decide +kernel
theorem dL_law_358 : decode cL_law 358 = .ok (.lcmp, 1) := by decide +kernel
theorem dL_law_359 : decode cL_law 359 = .ok (.ifCond .eq 497, 3) := by decide +kernel
theorem dL_law_362 : decode cL_law 362 = .ok (.iconst 0, 1) := by decide +kernel
theorem dL_law_363 : decode cL_law 363 = .ok (.ireturn, 1) := by decide +kernel
theorem dL_law_364 : decode cL_law 364 = .ok (.aload_n 1, 1) := by decide +kernel
theorem dL_law_365 : decode cL_law 365 = .ok (.aload_n 0, 1) := by decide +kernel
theorem dL_law_366 : decode cL_law 366 = .ok (.iload_n 3, 1) := by decide +kernel
theorem dL_law_367 : decode cL_law 367 = .ok (.iconst 1, 1) := by decide +kernel
theorem dL_law_368 : decode cL_law 368 = .ok (.iadd, 1) := by decide +kernel
theorem dL_law_369 : decode cL_law 369 = .ok (.iaload, 1) := by decide +kernel
theorem dL_law_370 : decode cL_law 370 = .ok (.aload_n 0, 1) := by decide +kernel
theorem dL_law_371 : decode cL_law 371 = .ok (.iload_n 3, 1) := by decide +kernel
theorem dL_law_372 : decode cL_law 372 = .ok (.iconst 2, 1) := by decide +kernel
theorem dL_law_373 : decode cL_law 373 = .ok (.iadd, 1) := by decide +kernel
theorem dL_law_374 : decode cL_law 374 = .ok (.iaload, 1) := by decide +kernel
theorem dL_law_375 : decode cL_law 375 = .ok (.invokevirtual 44, 3) := by decide +kernel
theorem dL_law_378 : decode cL_law 378 = .ok (.aload_n 2, 1) := by decide +kernel
theorem dL_law_379 : decode cL_law 379 = .ok (.aload_n 0, 1) := by decide +kernel
theorem dL_law_380 : decode cL_law 380 = .ok (.iload_n 3, 1) := by decide +kernel
theorem dL_law_381 : decode cL_law 381 = .ok (.iconst 1, 1) := by decide +kernel
theorem dL_law_382 : decode cL_law 382 = .ok (.iadd, 1) := by decide +kernel
theorem dL_law_383 : decode cL_law 383 = .ok (.iaload, 1) := by decide +kernel
theorem dL_law_384 : decode cL_law 384 = .ok (.aload_n 0, 1) := by decide +kernel
theorem dL_law_385 : decode cL_law 385 = .ok (.iload_n 3, 1) := by decide +kernel
theorem dL_law_386 : decode cL_law 386 = .ok (.iconst 2, 1) := by decide +kernel
theorem dL_law_387 : decode cL_law 387 = .ok (.iadd, 1) := by decide +kernel
theorem dL_law_388 : decode cL_law 388 = .ok (.iaload, 1) := by decide +kernel
theorem dL_law_389 : decode cL_law 389 = .ok (.invokevirtual 47, 3) := by decide +kernel
theorem dL_law_392 : decode cL_law 392 = .ok (.lcmp, 1) := by decide +kernel
theorem dL_law_393 : decode cL_law 393 = .ok (.ifCond .eq 463, 3) := by decide +kernel
theorem dL_law_396 : decode cL_law 396 = .ok (.iconst 0, 1) := by decide +kernel
theorem dL_law_397 : decode cL_law 397 = .ok (.ireturn, 1) := by decide +kernel
theorem dL_law_398 : decode cL_law 398 = .ok (.aload_n 1, 1) := by decide +kernel
theorem dL_law_399 : decode cL_law 399 = .ok (.aload_n 0, 1) := by decide +kernel
theorem dL_law_400 : decode cL_law 400 = .ok (.iload_n 3, 1) := by decide +kernel
theorem dL_law_401 : decode cL_law 401 = .ok (.iconst 1, 1) := by decide +kernel
theorem dL_law_402 : decode cL_law 402 = .ok (.iadd, 1) := by decide +kernel
theorem dL_law_403 : decode cL_law 403 = .ok (.iaload, 1) := by decide +kernel
theorem dL_law_404 : decode cL_law 404 = .ok (.aload_n 0, 1) := by decide +kernel
theorem dL_law_405 : decode cL_law 405 = .ok (.iload_n 3, 1) := by decide +kernel
theorem dL_law_406 : decode cL_law 406 = .ok (.iconst 2, 1) := by decide +kernel
theorem dL_law_407 : decode cL_law 407 = .ok (.iadd, 1) := by decide +kernel
theorem dL_law_408 : decode cL_law 408 = .ok (.iaload, 1) := by decide +kernel
theorem dL_law_409 : decode cL_law 409 = .ok (.aload_n 0, 1) := by decide +kernel
theorem dL_law_410 : decode cL_law 410 = .ok (.iload_n 3, 1) := by decide +kernel
theorem dL_law_411 : decode cL_law 411 = .ok (.iconst 3, 1) := by decide +kernel
theorem dL_law_412 : decode cL_law 412 = .ok (.iadd, 1) := by decide +kernel
theorem dL_law_413 : decode cL_law 413 = .ok (.iaload, 1) := by decide +kernel
theorem dL_law_414 : decode cL_law 414 = .ok (.aload_n 0, 1) := by decide +kernel
theorem dL_law_415 : decode cL_law 415 = .ok (.iload_n 3, 1) := by decide +kernel
theorem dL_law_416 : decode cL_law 416 = .ok (.iconst 4, 1) := by decide +kernel
theorem dL_law_417 : decode cL_law 417 = .ok (.iadd, 1) := by decide +kernel
theorem dL_law_418 : decode cL_law 418 = .ok (.iaload, 1) := by decide +kernel
theorem dL_law_419 : decode cL_law 419 = .ok (.aload_n 0, 1) := by decide +kernel
theorem dL_law_420 : decode cL_law 420 = .ok (.iload_n 3, 1) := by decide +kernel
theorem dL_law_421 : decode cL_law 421 = .ok (.iconst 5, 1) := by decide +kernel
theorem dL_law_422 : decode cL_law 422 = .ok (.iadd, 1) := by decide +kernel
theorem dL_law_423 : decode cL_law 423 = .ok (.iaload, 1) := by decide +kernel
theorem dL_law_424 : decode cL_law 424 = .ok (.aload_n 0, 1) := by decide +kernel
theorem dL_law_425 : decode cL_law 425 = .ok (.iload_n 3, 1) := by decide +kernel
theorem dL_law_426 : decode cL_law 426 = .ok (.bipush 6, 2) := by decide +kernel
theorem dL_law_428 : decode cL_law 428 = .ok (.iadd, 1) := by decide +kernel
theorem dL_law_429 : decode cL_law 429 = .ok (.iaload, 1) := by decide +kernel
theorem dL_law_430 : decode cL_law 430 = .ok (.invokevirtual 48, 3) := by decide +kernel
theorem dL_law_433 : decode cL_law 433 = .ok (.aload_n 2, 1) := by decide +kernel
theorem dL_law_434 : decode cL_law 434 = .ok (.aload_n 0, 1) := by decide +kernel
theorem dL_law_435 : decode cL_law 435 = .ok (.iload_n 3, 1) := by decide +kernel
theorem dL_law_436 : decode cL_law 436 = .ok (.iconst 1, 1) := by decide +kernel
theorem dL_law_437 : decode cL_law 437 = .ok (.iadd, 1) := by decide +kernel
theorem dL_law_438 : decode cL_law 438 = .ok (.iaload, 1) := by decide +kernel
theorem dL_law_439 : decode cL_law 439 = .ok (.aload_n 0, 1) := by decide +kernel
theorem dL_law_440 : decode cL_law 440 = .ok (.iload_n 3, 1) := by decide +kernel
theorem dL_law_441 : decode cL_law 441 = .ok (.iconst 2, 1) := by decide +kernel
theorem dL_law_442 : decode cL_law 442 = .ok (.iadd, 1) := by decide +kernel
theorem dL_law_443 : decode cL_law 443 = .ok (.iaload, 1) := by decide +kernel
theorem dL_law_444 : decode cL_law 444 = .ok (.aload_n 0, 1) := by decide +kernel
theorem dL_law_445 : decode cL_law 445 = .ok (.iload_n 3, 1) := by decide +kernel
theorem dL_law_446 : decode cL_law 446 = .ok (.iconst 3, 1) := by decide +kernel
theorem dL_law_447 : decode cL_law 447 = .ok (.iadd, 1) := by decide +kernel
theorem dL_law_448 : decode cL_law 448 = .ok (.iaload, 1) := by decide +kernel
theorem dL_law_449 : decode cL_law 449 = .ok (.aload_n 0, 1) := by decide +kernel
theorem dL_law_450 : decode cL_law 450 = .ok (.iload_n 3, 1) := by decide +kernel
theorem dL_law_451 : decode cL_law 451 = .ok (.iconst 4, 1) := by decide +kernel
theorem dL_law_452 : decode cL_law 452 = .ok (.iadd, 1) := by decide +kernel
theorem dL_law_453 : decode cL_law 453 = .ok (.iaload, 1) := by decide +kernel
theorem dL_law_454 : decode cL_law 454 = .ok (.aload_n 0, 1) := by decide +kernel
theorem dL_law_455 : decode cL_law 455 = .ok (.iload_n 3, 1) := by decide +kernel
theorem dL_law_456 : decode cL_law 456 = .ok (.iconst 5, 1) := by decide +kernel
theorem dL_law_457 : decode cL_law 457 = .ok (.iadd, 1) := by decide +kernel
theorem dL_law_458 : decode cL_law 458 = .ok (.iaload, 1) := by decide +kernel
theorem dL_law_459 : decode cL_law 459 = .ok (.aload_n 0, 1) := by decide +kernel
theorem dL_law_460 : decode cL_law 460 = .ok (.iload_n 3, 1) := by decide +kernel
theorem dL_law_461 : decode cL_law 461 = .ok (.bipush 6, 2) := by decide +kernel
theorem dL_law_463 : decode cL_law 463 = .ok (.iadd, 1) := by decide +kernel
theorem dL_law_464 : decode cL_law 464 = .ok (.iaload, 1) := by decide +kernel
theorem dL_law_465 : decode cL_law 465 = .ok (.invokevirtual 52, 3) := by decide +kernel
theorem dL_law_468 : decode cL_law 468 = .ok (.lcmp, 1) := by decide +kernel
theorem dL_law_469 : decode cL_law 469 = .ok (.ifCond .eq 387, 3) := by decide +kernel
theorem dL_law_472 : decode cL_law 472 = .ok (.iconst 0, 1) := by decide +kernel
theorem dL_law_473 : decode cL_law 473 = .ok (.ireturn, 1) := by decide +kernel
theorem dL_law_474 : decode cL_law 474 = .ok (.aload_n 1, 1) := by decide +kernel
theorem dL_law_475 : decode cL_law 475 = .ok (.aload_n 0, 1) := by decide +kernel
theorem dL_law_476 : decode cL_law 476 = .ok (.iload_n 3, 1) := by decide +kernel
theorem dL_law_477 : decode cL_law 477 = .ok (.iconst 1, 1) := by decide +kernel
theorem dL_law_478 : decode cL_law 478 = .ok (.iadd, 1) := by decide +kernel
theorem dL_law_479 : decode cL_law 479 = .ok (.iaload, 1) := by decide +kernel
theorem dL_law_480 : decode cL_law 480 = .ok (.aload_n 0, 1) := by decide +kernel
theorem dL_law_481 : decode cL_law 481 = .ok (.iload_n 3, 1) := by decide +kernel
theorem dL_law_482 : decode cL_law 482 = .ok (.iconst 2, 1) := by decide +kernel
theorem dL_law_483 : decode cL_law 483 = .ok (.iadd, 1) := by decide +kernel
theorem dL_law_484 : decode cL_law 484 = .ok (.iaload, 1) := by decide +kernel
theorem dL_law_485 : decode cL_law 485 = .ok (.invokevirtual 53, 3) := by decide +kernel
theorem dL_law_488 : decode cL_law 488 = .ok (.aload_n 2, 1) := by decide +kernel
theorem dL_law_489 : decode cL_law 489 = .ok (.aload_n 0, 1) := by decide +kernel
theorem dL_law_490 : decode cL_law 490 = .ok (.iload_n 3, 1) := by decide +kernel
theorem dL_law_491 : decode cL_law 491 = .ok (.iconst 1, 1) := by decide +kernel
theorem dL_law_492 : decode cL_law 492 = .ok (.iadd, 1) := by decide +kernel
theorem dL_law_493 : decode cL_law 493 = .ok (.iaload, 1) := by decide +kernel
theorem dL_law_494 : decode cL_law 494 = .ok (.aload_n 0, 1) := by decide +kernel
theorem dL_law_495 : decode cL_law 495 = .ok (.iload_n 3, 1) := by decide +kernel
theorem dL_law_496 : decode cL_law 496 = .ok (.iconst 2, 1) := by decide +kernel
theorem dL_law_497 : decode cL_law 497 = .ok (.iadd, 1) := by decide +kernel
theorem dL_law_498 : decode cL_law 498 = .ok (.iaload, 1) := by decide +kernel
theorem dL_law_499 : decode cL_law 499 = .ok (.invokevirtual 56, 3) := by decide +kernel
theorem dL_law_502 : decode cL_law 502 = .ok (.lcmp, 1) := by decide +kernel
theorem dL_law_503 : decode cL_law 503 = .ok (.ifCond .eq 353, 3) := by decide +kernel
theorem dL_law_506 : decode cL_law 506 = .ok (.iconst 0, 1) := by decide +kernel
theorem dL_law_507 : decode cL_law 507 = .ok (.ireturn, 1) := by decide +kernel
theorem dL_law_508 : decode cL_law 508 = .ok (.aload_n 1, 1) := by decide +kernel
theorem dL_law_509 : decode cL_law 509 = .ok (.aload_n 0, 1) := by decide +kernel
theorem dL_law_510 : decode cL_law 510 = .ok (.iload_n 3, 1) := by decide +kernel
theorem dL_law_511 : decode cL_law 511 = .ok (.iconst 1, 1) := by decide +kernel
theorem dL_law_512 : decode cL_law 512 = .ok (.iadd, 1) := by decide +kernel
theorem dL_law_513 : decode cL_law 513 = .ok (.iaload, 1) := by decide +kernel
theorem dL_law_514 : decode cL_law 514 = .ok (.aload_n 0, 1) := by decide +kernel
theorem dL_law_515 : decode cL_law 515 = .ok (.iload_n 3, 1) := by decide +kernel
theorem dL_law_516 : decode cL_law 516 = .ok (.iconst 2, 1) := by decide +kernel
theorem dL_law_517 : decode cL_law 517 = .ok (.iadd, 1) := by decide +kernel
theorem dL_law_518 : decode cL_law 518 = .ok (.iaload, 1) := by decide +kernel
theorem dL_law_519 : decode cL_law 519 = .ok (.invokevirtual 57, 3) := by decide +kernel
theorem dL_law_522 : decode cL_law 522 = .ok (.aload_n 2, 1) := by decide +kernel
theorem dL_law_523 : decode cL_law 523 = .ok (.aload_n 0, 1) := by decide +kernel
theorem dL_law_524 : decode cL_law 524 = .ok (.iload_n 3, 1) := by decide +kernel
theorem dL_law_525 : decode cL_law 525 = .ok (.iconst 1, 1) := by decide +kernel
theorem dL_law_526 : decode cL_law 526 = .ok (.iadd, 1) := by decide +kernel
theorem dL_law_527 : decode cL_law 527 = .ok (.iaload, 1) := by decide +kernel
theorem dL_law_528 : decode cL_law 528 = .ok (.aload_n 0, 1) := by decide +kernel
theorem dL_law_529 : decode cL_law 529 = .ok (.iload_n 3, 1) := by decide +kernel
theorem dL_law_530 : decode cL_law 530 = .ok (.iconst 2, 1) := by decide +kernel
theorem dL_law_531 : decode cL_law 531 = .ok (.iadd, 1) := by decide +kernel
theorem dL_law_532 : decode cL_law 532 = .ok (.iaload, 1) := by decide +kernel
theorem dL_law_533 : decode cL_law 533 = .ok (.invokevirtual 60, 3) := by decide +kernel
theorem dL_law_536 : decode cL_law 536 = .ok (.lcmp, 1) := by decide +kernel
theorem dL_law_537 : decode cL_law 537 = .ok (.ifCond .eq 319, 3) := by decide +kernel
theorem dL_law_540 : decode cL_law 540 = .ok (.iconst 0, 1) := by decide +kernel
theorem dL_law_541 : decode cL_law 541 = .ok (.ireturn, 1) := by decide +kernel
theorem dL_law_542 : decode cL_law 542 = .ok (.aload_n 1, 1) := by decide +kernel
theorem dL_law_543 : decode cL_law 543 = .ok (.aload_n 0, 1) := by decide +kernel
theorem dL_law_544 : decode cL_law 544 = .ok (.iload_n 3, 1) := by decide +kernel
theorem dL_law_545 : decode cL_law 545 = .ok (.iconst 1, 1) := by decide +kernel
theorem dL_law_546 : decode cL_law 546 = .ok (.iadd, 1) := by decide +kernel
theorem dL_law_547 : decode cL_law 547 = .ok (.iaload, 1) := by decide +kernel
theorem dL_law_548 : decode cL_law 548 = .ok (.aload_n 0, 1) := by decide +kernel
theorem dL_law_549 : decode cL_law 549 = .ok (.iload_n 3, 1) := by decide +kernel
theorem dL_law_550 : decode cL_law 550 = .ok (.iconst 2, 1) := by decide +kernel
theorem dL_law_551 : decode cL_law 551 = .ok (.iadd, 1) := by decide +kernel
theorem dL_law_552 : decode cL_law 552 = .ok (.iaload, 1) := by decide +kernel
theorem dL_law_553 : decode cL_law 553 = .ok (.aload_n 0, 1) := by decide +kernel
theorem dL_law_554 : decode cL_law 554 = .ok (.iload_n 3, 1) := by decide +kernel
theorem dL_law_555 : decode cL_law 555 = .ok (.iconst 3, 1) := by decide +kernel
theorem dL_law_556 : decode cL_law 556 = .ok (.iadd, 1) := by decide +kernel
theorem dL_law_557 : decode cL_law 557 = .ok (.iaload, 1) := by decide +kernel
theorem dL_law_558 : decode cL_law 558 = .ok (.invokevirtual 61, 3) := by decide +kernel
theorem dL_law_561 : decode cL_law 561 = .ok (.aload_n 2, 1) := by decide +kernel
theorem dL_law_562 : decode cL_law 562 = .ok (.aload_n 0, 1) := by decide +kernel
theorem dL_law_563 : decode cL_law 563 = .ok (.iload_n 3, 1) := by decide +kernel
theorem dL_law_564 : decode cL_law 564 = .ok (.iconst 1, 1) := by decide +kernel
theorem dL_law_565 : decode cL_law 565 = .ok (.iadd, 1) := by decide +kernel
theorem dL_law_566 : decode cL_law 566 = .ok (.iaload, 1) := by decide +kernel
theorem dL_law_567 : decode cL_law 567 = .ok (.aload_n 0, 1) := by decide +kernel
theorem dL_law_568 : decode cL_law 568 = .ok (.iload_n 3, 1) := by decide +kernel
theorem dL_law_569 : decode cL_law 569 = .ok (.iconst 2, 1) := by decide +kernel
theorem dL_law_570 : decode cL_law 570 = .ok (.iadd, 1) := by decide +kernel
theorem dL_law_571 : decode cL_law 571 = .ok (.iaload, 1) := by decide +kernel
theorem dL_law_572 : decode cL_law 572 = .ok (.aload_n 0, 1) := by decide +kernel
theorem dL_law_573 : decode cL_law 573 = .ok (.iload_n 3, 1) := by decide +kernel
theorem dL_law_574 : decode cL_law 574 = .ok (.iconst 3, 1) := by decide +kernel
theorem dL_law_575 : decode cL_law 575 = .ok (.iadd, 1) := by decide +kernel
theorem dL_law_576 : decode cL_law 576 = .ok (.iaload, 1) := by decide +kernel
theorem dL_law_577 : decode cL_law 577 = .ok (.invokevirtual 64, 3) := by decide +kernel
theorem dL_law_580 : decode cL_law 580 = .ok (.lcmp, 1) := by decide +kernel
theorem dL_law_581 : decode cL_law 581 = .ok (.ifCond .eq 275, 3) := by decide +kernel
theorem dL_law_584 : decode cL_law 584 = .ok (.iconst 0, 1) := by decide +kernel
theorem dL_law_585 : decode cL_law 585 = .ok (.ireturn, 1) := by decide +kernel
theorem dL_law_586 : decode cL_law 586 = .ok (.aload_n 1, 1) := by decide +kernel
theorem dL_law_587 : decode cL_law 587 = .ok (.aload_n 0, 1) := by decide +kernel
theorem dL_law_588 : decode cL_law 588 = .ok (.iload_n 3, 1) := by decide +kernel
theorem dL_law_589 : decode cL_law 589 = .ok (.iconst 1, 1) := by decide +kernel
theorem dL_law_590 : decode cL_law 590 = .ok (.iadd, 1) := by decide +kernel
theorem dL_law_591 : decode cL_law 591 = .ok (.iaload, 1) := by decide +kernel
theorem dL_law_592 : decode cL_law 592 = .ok (.aload_n 0, 1) := by decide +kernel
theorem dL_law_593 : decode cL_law 593 = .ok (.iload_n 3, 1) := by decide +kernel
theorem dL_law_594 : decode cL_law 594 = .ok (.iconst 2, 1) := by decide +kernel
theorem dL_law_595 : decode cL_law 595 = .ok (.iadd, 1) := by decide +kernel
theorem dL_law_596 : decode cL_law 596 = .ok (.iaload, 1) := by decide +kernel
theorem dL_law_597 : decode cL_law 597 = .ok (.invokevirtual 65, 3) := by decide +kernel
theorem dL_law_600 : decode cL_law 600 = .ok (.aload_n 2, 1) := by decide +kernel
theorem dL_law_601 : decode cL_law 601 = .ok (.aload_n 0, 1) := by decide +kernel
theorem dL_law_602 : decode cL_law 602 = .ok (.iload_n 3, 1) := by decide +kernel
theorem dL_law_603 : decode cL_law 603 = .ok (.iconst 1, 1) := by decide +kernel
theorem dL_law_604 : decode cL_law 604 = .ok (.iadd, 1) := by decide +kernel
theorem dL_law_605 : decode cL_law 605 = .ok (.iaload, 1) := by decide +kernel
theorem dL_law_606 : decode cL_law 606 = .ok (.aload_n 0, 1) := by decide +kernel
theorem dL_law_607 : decode cL_law 607 = .ok (.iload_n 3, 1) := by decide +kernel
theorem dL_law_608 : decode cL_law 608 = .ok (.iconst 2, 1) := by decide +kernel
theorem dL_law_609 : decode cL_law 609 = .ok (.iadd, 1) := by decide +kernel
theorem dL_law_610 : decode cL_law 610 = .ok (.iaload, 1) := by decide +kernel
theorem dL_law_611 : decode cL_law 611 = .ok (.invokevirtual 68, 3) := by decide +kernel
theorem dL_law_614 : decode cL_law 614 = .ok (.lcmp, 1) := by decide +kernel
theorem dL_law_615 : decode cL_law 615 = .ok (.ifCond .eq 241, 3) := by decide +kernel
theorem dL_law_618 : decode cL_law 618 = .ok (.iconst 0, 1) := by decide +kernel
theorem dL_law_619 : decode cL_law 619 = .ok (.ireturn, 1) := by decide +kernel
theorem dL_law_620 : decode cL_law 620 = .ok (.aload_n 1, 1) := by decide +kernel
theorem dL_law_621 : decode cL_law 621 = .ok (.aload_n 0, 1) := by decide +kernel
theorem dL_law_622 : decode cL_law 622 = .ok (.iload_n 3, 1) := by decide +kernel
theorem dL_law_623 : decode cL_law 623 = .ok (.iconst 1, 1) := by decide +kernel
theorem dL_law_624 : decode cL_law 624 = .ok (.iadd, 1) := by decide +kernel
theorem dL_law_625 : decode cL_law 625 = .ok (.iaload, 1) := by decide +kernel
theorem dL_law_626 : decode cL_law 626 = .ok (.aload_n 0, 1) := by decide +kernel
theorem dL_law_627 : decode cL_law 627 = .ok (.iload_n 3, 1) := by decide +kernel
theorem dL_law_628 : decode cL_law 628 = .ok (.iconst 2, 1) := by decide +kernel
theorem dL_law_629 : decode cL_law 629 = .ok (.iadd, 1) := by decide +kernel
theorem dL_law_630 : decode cL_law 630 = .ok (.iaload, 1) := by decide +kernel
theorem dL_law_631 : decode cL_law 631 = .ok (.invokevirtual 69, 3) := by decide +kernel
theorem dL_law_634 : decode cL_law 634 = .ok (.aload_n 2, 1) := by decide +kernel
theorem dL_law_635 : decode cL_law 635 = .ok (.aload_n 0, 1) := by decide +kernel
theorem dL_law_636 : decode cL_law 636 = .ok (.iload_n 3, 1) := by decide +kernel
theorem dL_law_637 : decode cL_law 637 = .ok (.iconst 1, 1) := by decide +kernel
theorem dL_law_638 : decode cL_law 638 = .ok (.iadd, 1) := by decide +kernel
theorem dL_law_639 : decode cL_law 639 = .ok (.iaload, 1) := by decide +kernel
theorem dL_law_640 : decode cL_law 640 = .ok (.aload_n 0, 1) := by decide +kernel
theorem dL_law_641 : decode cL_law 641 = .ok (.iload_n 3, 1) := by decide +kernel
theorem dL_law_642 : decode cL_law 642 = .ok (.iconst 2, 1) := by decide +kernel
theorem dL_law_643 : decode cL_law 643 = .ok (.iadd, 1) := by decide +kernel
theorem dL_law_644 : decode cL_law 644 = .ok (.iaload, 1) := by decide +kernel
theorem dL_law_645 : decode cL_law 645 = .ok (.invokevirtual 72, 3) := by decide +kernel
theorem dL_law_648 : decode cL_law 648 = .ok (.lcmp, 1) := by decide +kernel
theorem dL_law_649 : decode cL_law 649 = .ok (.ifCond .eq 207, 3) := by decide +kernel
theorem dL_law_652 : decode cL_law 652 = .ok (.iconst 0, 1) := by decide +kernel
theorem dL_law_653 : decode cL_law 653 = .ok (.ireturn, 1) := by decide +kernel
theorem dL_law_654 : decode cL_law 654 = .ok (.aload_n 1, 1) := by decide +kernel
theorem dL_law_655 : decode cL_law 655 = .ok (.aload_n 0, 1) := by decide +kernel
theorem dL_law_656 : decode cL_law 656 = .ok (.iload_n 3, 1) := by decide +kernel
theorem dL_law_657 : decode cL_law 657 = .ok (.iconst 1, 1) := by decide +kernel
theorem dL_law_658 : decode cL_law 658 = .ok (.iadd, 1) := by decide +kernel
theorem dL_law_659 : decode cL_law 659 = .ok (.iaload, 1) := by decide +kernel
theorem dL_law_660 : decode cL_law 660 = .ok (.invokevirtual 73, 3) := by decide +kernel
theorem dL_law_663 : decode cL_law 663 = .ok (.aload_n 2, 1) := by decide +kernel
theorem dL_law_664 : decode cL_law 664 = .ok (.aload_n 0, 1) := by decide +kernel
theorem dL_law_665 : decode cL_law 665 = .ok (.iload_n 3, 1) := by decide +kernel
theorem dL_law_666 : decode cL_law 666 = .ok (.iconst 1, 1) := by decide +kernel
theorem dL_law_667 : decode cL_law 667 = .ok (.iadd, 1) := by decide +kernel
theorem dL_law_668 : decode cL_law 668 = .ok (.iaload, 1) := by decide +kernel
theorem dL_law_669 : decode cL_law 669 = .ok (.invokevirtual 76, 3) := by decide +kernel
theorem dL_law_672 : decode cL_law 672 = .ok (.lcmp, 1) := by decide +kernel
theorem dL_law_673 : decode cL_law 673 = .ok (.ifCond .eq 183, 3) := by decide +kernel
theorem dL_law_676 : decode cL_law 676 = .ok (.iconst 0, 1) := by decide +kernel
theorem dL_law_677 : decode cL_law 677 = .ok (.ireturn, 1) := by decide +kernel
theorem dL_law_678 : decode cL_law 678 = .ok (.aload_n 1, 1) := by decide +kernel
theorem dL_law_679 : decode cL_law 679 = .ok (.aload_n 0, 1) := by decide +kernel
theorem dL_law_680 : decode cL_law 680 = .ok (.iload_n 3, 1) := by decide +kernel
theorem dL_law_681 : decode cL_law 681 = .ok (.iconst 1, 1) := by decide +kernel
theorem dL_law_682 : decode cL_law 682 = .ok (.iadd, 1) := by decide +kernel
theorem dL_law_683 : decode cL_law 683 = .ok (.iaload, 1) := by decide +kernel
theorem dL_law_684 : decode cL_law 684 = .ok (.aload_n 0, 1) := by decide +kernel
theorem dL_law_685 : decode cL_law 685 = .ok (.iload_n 3, 1) := by decide +kernel
theorem dL_law_686 : decode cL_law 686 = .ok (.iconst 2, 1) := by decide +kernel
theorem dL_law_687 : decode cL_law 687 = .ok (.iadd, 1) := by decide +kernel
theorem dL_law_688 : decode cL_law 688 = .ok (.iaload, 1) := by decide +kernel
theorem dL_law_689 : decode cL_law 689 = .ok (.invokevirtual 77, 3) := by decide +kernel
theorem dL_law_692 : decode cL_law 692 = .ok (.aload_n 2, 1) := by decide +kernel
theorem dL_law_693 : decode cL_law 693 = .ok (.aload_n 0, 1) := by decide +kernel
theorem dL_law_694 : decode cL_law 694 = .ok (.iload_n 3, 1) := by decide +kernel
theorem dL_law_695 : decode cL_law 695 = .ok (.iconst 1, 1) := by decide +kernel
theorem dL_law_696 : decode cL_law 696 = .ok (.iadd, 1) := by decide +kernel
theorem dL_law_697 : decode cL_law 697 = .ok (.iaload, 1) := by decide +kernel
theorem dL_law_698 : decode cL_law 698 = .ok (.aload_n 0, 1) := by decide +kernel
theorem dL_law_699 : decode cL_law 699 = .ok (.iload_n 3, 1) := by decide +kernel
theorem dL_law_700 : decode cL_law 700 = .ok (.iconst 2, 1) := by decide +kernel
theorem dL_law_701 : decode cL_law 701 = .ok (.iadd, 1) := by decide +kernel
theorem dL_law_702 : decode cL_law 702 = .ok (.iaload, 1) := by decide +kernel
theorem dL_law_703 : decode cL_law 703 = .ok (.invokevirtual 80, 3) := by decide +kernel
theorem dL_law_706 : decode cL_law 706 = .ok (.lcmp, 1) := by decide +kernel
theorem dL_law_707 : decode cL_law 707 = .ok (.ifCond .eq 149, 3) := by decide +kernel
theorem dL_law_710 : decode cL_law 710 = .ok (.iconst 0, 1) := by decide +kernel
theorem dL_law_711 : decode cL_law 711 = .ok (.ireturn, 1) := by decide +kernel
theorem dL_law_712 : decode cL_law 712 = .ok (.aload_n 1, 1) := by decide +kernel
theorem dL_law_713 : decode cL_law 713 = .ok (.aload_n 0, 1) := by decide +kernel
theorem dL_law_714 : decode cL_law 714 = .ok (.iload_n 3, 1) := by decide +kernel
theorem dL_law_715 : decode cL_law 715 = .ok (.iconst 1, 1) := by decide +kernel
theorem dL_law_716 : decode cL_law 716 = .ok (.iadd, 1) := by decide +kernel
theorem dL_law_717 : decode cL_law 717 = .ok (.iaload, 1) := by decide +kernel
theorem dL_law_718 : decode cL_law 718 = .ok (.invokevirtual 81, 3) := by decide +kernel
theorem dL_law_721 : decode cL_law 721 = .ok (.aload_n 2, 1) := by decide +kernel
theorem dL_law_722 : decode cL_law 722 = .ok (.aload_n 0, 1) := by decide +kernel
theorem dL_law_723 : decode cL_law 723 = .ok (.iload_n 3, 1) := by decide +kernel
theorem dL_law_724 : decode cL_law 724 = .ok (.iconst 1, 1) := by decide +kernel
theorem dL_law_725 : decode cL_law 725 = .ok (.iadd, 1) := by decide +kernel
theorem dL_law_726 : decode cL_law 726 = .ok (.iaload, 1) := by decide +kernel
theorem dL_law_727 : decode cL_law 727 = .ok (.invokevirtual 84, 3) := by decide +kernel
theorem dL_law_730 : decode cL_law 730 = .ok (.lcmp, 1) := by decide +kernel
theorem dL_law_731 : decode cL_law 731 = .ok (.ifCond .eq 125, 3) := by decide +kernel
theorem dL_law_734 : decode cL_law 734 = .ok (.iconst 0, 1) := by decide +kernel
theorem dL_law_735 : decode cL_law 735 = .ok (.ireturn, 1) := by decide +kernel
theorem dL_law_736 : decode cL_law 736 = .ok (.aload_n 1, 1) := by decide +kernel
theorem dL_law_737 : decode cL_law 737 = .ok (.aload_n 0, 1) := by decide +kernel
theorem dL_law_738 : decode cL_law 738 = .ok (.iload_n 3, 1) := by decide +kernel
theorem dL_law_739 : decode cL_law 739 = .ok (.iconst 1, 1) := by decide +kernel
theorem dL_law_740 : decode cL_law 740 = .ok (.iadd, 1) := by decide +kernel
theorem dL_law_741 : decode cL_law 741 = .ok (.iaload, 1) := by decide +kernel
theorem dL_law_742 : decode cL_law 742 = .ok (.aload_n 0, 1) := by decide +kernel
theorem dL_law_743 : decode cL_law 743 = .ok (.iload_n 3, 1) := by decide +kernel
theorem dL_law_744 : decode cL_law 744 = .ok (.iconst 2, 1) := by decide +kernel
theorem dL_law_745 : decode cL_law 745 = .ok (.iadd, 1) := by decide +kernel
theorem dL_law_746 : decode cL_law 746 = .ok (.iaload, 1) := by decide +kernel
theorem dL_law_747 : decode cL_law 747 = .ok (.invokevirtual 85, 3) := by decide +kernel
theorem dL_law_750 : decode cL_law 750 = .ok (.aload_n 2, 1) := by decide +kernel
theorem dL_law_751 : decode cL_law 751 = .ok (.aload_n 0, 1) := by decide +kernel
theorem dL_law_752 : decode cL_law 752 = .ok (.iload_n 3, 1) := by decide +kernel
theorem dL_law_753 : decode cL_law 753 = .ok (.iconst 1, 1) := by decide +kernel
theorem dL_law_754 : decode cL_law 754 = .ok (.iadd, 1) := by decide +kernel
theorem dL_law_755 : decode cL_law 755 = .ok (.iaload, 1) := by decide +kernel
theorem dL_law_756 : decode cL_law 756 = .ok (.aload_n 0, 1) := by decide +kernel
theorem dL_law_757 : decode cL_law 757 = .ok (.iload_n 3, 1) := by decide +kernel
theorem dL_law_758 : decode cL_law 758 = .ok (.iconst 2, 1) := by decide +kernel
theorem dL_law_759 : decode cL_law 759 = .ok (.iadd, 1) := by decide +kernel
theorem dL_law_760 : decode cL_law 760 = .ok (.iaload, 1) := by decide +kernel
theorem dL_law_761 : decode cL_law 761 = .ok (.invokevirtual 88, 3) := by decide +kernel
theorem dL_law_764 : decode cL_law 764 = .ok (.lcmp, 1) := by decide +kernel
theorem dL_law_765 : decode cL_law 765 = .ok (.ifCond .eq 91, 3) := by decide +kernel
theorem dL_law_768 : decode cL_law 768 = .ok (.iconst 0, 1) := by decide +kernel
theorem dL_law_769 : decode cL_law 769 = .ok (.ireturn, 1) := by decide +kernel
theorem dL_law_770 : decode cL_law 770 = .ok (.aload_n 1, 1) := by decide +kernel
theorem dL_law_771 : decode cL_law 771 = .ok (.aload_n 0, 1) := by decide +kernel
theorem dL_law_772 : decode cL_law 772 = .ok (.iload_n 3, 1) := by decide +kernel
theorem dL_law_773 : decode cL_law 773 = .ok (.iconst 1, 1) := by decide +kernel
theorem dL_law_774 : decode cL_law 774 = .ok (.iadd, 1) := by decide +kernel
theorem dL_law_775 : decode cL_law 775 = .ok (.iaload, 1) := by decide +kernel
theorem dL_law_776 : decode cL_law 776 = .ok (.aload_n 0, 1) := by decide +kernel
theorem dL_law_777 : decode cL_law 777 = .ok (.iload_n 3, 1) := by decide +kernel
theorem dL_law_778 : decode cL_law 778 = .ok (.iconst 2, 1) := by decide +kernel
theorem dL_law_779 : decode cL_law 779 = .ok (.iadd, 1) := by decide +kernel
theorem dL_law_780 : decode cL_law 780 = .ok (.iaload, 1) := by decide +kernel
theorem dL_law_781 : decode cL_law 781 = .ok (.invokevirtual 89, 3) := by decide +kernel
theorem dL_law_784 : decode cL_law 784 = .ok (.aload_n 2, 1) := by decide +kernel
theorem dL_law_785 : decode cL_law 785 = .ok (.aload_n 0, 1) := by decide +kernel
theorem dL_law_786 : decode cL_law 786 = .ok (.iload_n 3, 1) := by decide +kernel
theorem dL_law_787 : decode cL_law 787 = .ok (.iconst 1, 1) := by decide +kernel
theorem dL_law_788 : decode cL_law 788 = .ok (.iadd, 1) := by decide +kernel
theorem dL_law_789 : decode cL_law 789 = .ok (.iaload, 1) := by decide +kernel
theorem dL_law_790 : decode cL_law 790 = .ok (.aload_n 0, 1) := by decide +kernel
theorem dL_law_791 : decode cL_law 791 = .ok (.iload_n 3, 1) := by decide +kernel
theorem dL_law_792 : decode cL_law 792 = .ok (.iconst 2, 1) := by decide +kernel
theorem dL_law_793 : decode cL_law 793 = .ok (.iadd, 1) := by decide +kernel
theorem dL_law_794 : decode cL_law 794 = .ok (.iaload, 1) := by decide +kernel
theorem dL_law_795 : decode cL_law 795 = .ok (.invokevirtual 92, 3) := by decide +kernel
theorem dL_law_798 : decode cL_law 798 = .ok (.lcmp, 1) := by decide +kernel
theorem dL_law_799 : decode cL_law 799 = .ok (.ifCond .eq 57, 3) := by decide +kernel
theorem dL_law_802 : decode cL_law 802 = .ok (.iconst 0, 1) := by decide +kernel
theorem dL_law_803 : decode cL_law 803 = .ok (.ireturn, 1) := by decide +kernel
theorem dL_law_804 : decode cL_law 804 = .ok (.aload_n 1, 1) := by decide +kernel
theorem dL_law_805 : decode cL_law 805 = .ok (.aload_n 0, 1) := by decide +kernel
theorem dL_law_806 : decode cL_law 806 = .ok (.iload_n 3, 1) := by decide +kernel
theorem dL_law_807 : decode cL_law 807 = .ok (.iconst 1, 1) := by decide +kernel
theorem dL_law_808 : decode cL_law 808 = .ok (.iadd, 1) := by decide +kernel
theorem dL_law_809 : decode cL_law 809 = .ok (.iaload, 1) := by decide +kernel
theorem dL_law_810 : decode cL_law 810 = .ok (.invokevirtual 93, 3) := by decide +kernel
theorem dL_law_813 : decode cL_law 813 = .ok (.aload_n 2, 1) := by decide +kernel
theorem dL_law_814 : decode cL_law 814 = .ok (.aload_n 0, 1) := by decide +kernel
theorem dL_law_815 : decode cL_law 815 = .ok (.iload_n 3, 1) := by decide +kernel
theorem dL_law_816 : decode cL_law 816 = .ok (.iconst 1, 1) := by decide +kernel
theorem dL_law_817 : decode cL_law 817 = .ok (.iadd, 1) := by decide +kernel
theorem dL_law_818 : decode cL_law 818 = .ok (.iaload, 1) := by decide +kernel
theorem dL_law_819 : decode cL_law 819 = .ok (.invokevirtual 96, 3) := by decide +kernel
theorem dL_law_822 : decode cL_law 822 = .ok (.lcmp, 1) := by decide +kernel
theorem dL_law_823 : decode cL_law 823 = .ok (.ifCond .eq 33, 3) := by decide +kernel
theorem dL_law_826 : decode cL_law 826 = .ok (.iconst 0, 1) := by decide +kernel
theorem dL_law_827 : decode cL_law 827 = .ok (.ireturn, 1) := by decide +kernel
theorem dL_law_828 : decode cL_law 828 = .ok (.aload_n 1, 1) := by decide +kernel
theorem dL_law_829 : decode cL_law 829 = .ok (.invokevirtual 97, 3) := by decide +kernel
theorem dL_law_832 : decode cL_law 832 = .ok (.aload_n 2, 1) := by decide +kernel
theorem dL_law_833 : decode cL_law 833 = .ok (.invokevirtual 101, 3) := by decide +kernel
theorem dL_law_836 : decode cL_law 836 = .ok (.lcmp, 1) := by decide +kernel
theorem dL_law_837 : decode cL_law 837 = .ok (.ifCond .eq 19, 3) := by decide +kernel
theorem dL_law_840 : decode cL_law 840 = .ok (.iconst 0, 1) := by decide +kernel
theorem dL_law_841 : decode cL_law 841 = .ok (.ireturn, 1) := by decide +kernel
theorem dL_law_842 : decode cL_law 842 = .ok (.aload_n 1, 1) := by decide +kernel
theorem dL_law_843 : decode cL_law 843 = .ok (.invokevirtual 102, 3) := by decide +kernel
theorem dL_law_846 : decode cL_law 846 = .ok (.aload_n 2, 1) := by decide +kernel
theorem dL_law_847 : decode cL_law 847 = .ok (.invokevirtual 105, 3) := by decide +kernel
theorem dL_law_850 : decode cL_law 850 = .ok (.lcmp, 1) := by decide +kernel
theorem dL_law_851 : decode cL_law 851 = .ok (.ifCond .eq 5, 3) := by decide +kernel
theorem dL_law_854 : decode cL_law 854 = .ok (.iconst 0, 1) := by decide +kernel
theorem dL_law_855 : decode cL_law 855 = .ok (.ireturn, 1) := by decide +kernel
theorem dL_law_856 : decode cL_law 856 = .ok (.iinc 3 7, 3) := by decide +kernel
theorem dL_law_859 : decode cL_law 859 = .ok (.goto (-841), 3) := by decide +kernel
theorem dL_law_862 : decode cL_law 862 = .ok (.iconst 1, 1) := by decide +kernel
theorem dL_law_863 : decode cL_law 863 = .ok (.ireturn, 1) := by decide +kernel
end
section
/-! ===== the words, all in one list ===== -/
def bg_B : List Cond := lw_tbl.filter goodWord
theorem bg_in {w : Cond} (h : w ∈ lw_tbl) (g : goodWord w = true) : w ∈ bg_B := List.mem_filter.mpr ⟨h, g⟩
theorem bg_at {w : Cond} (i : Nat) (h : tables_1[i]? = some w) (g : goodWord w = true) : w ∈ bg_B := bg_in (List.mem_append_right _ (List.mem_of_getElem? h)) g
theorem bg_sel {w : Cond} (i : Nat) (h : (k2_sels lw_privs)[i]? = some w) (g : goodWord w = true) : w ∈ bg_B := bg_in (List.mem_append_left _ (List.mem_of_getElem? h)) g
theorem bg_good : ∀ w ∈ bg_B, (w.onTables && w.keeps) = true ∨ ∃ ty, w = .arrayClass ty := fun _ h => good_of_word (List.mem_filter.mp h).2
theorem bg_ok {w : Cond} (h : w ∈ bg_B) : GoodIn bg_B (w :: bg_B) := fun v hv => (List.mem_cons.mp hv).elim (fun e => by rw [e]; exact ⟨h, bg_good _ h⟩) (fun h2 => ⟨h2, bg_good _ h2⟩)
/-! ===== memory ===== -/
abbrev MM : Type := (Nat → Nat → Int32) × (Nat → Nat → Int64)
def gI (M : MM) (c k : Nat) : Int32 := M.1 c k
def gL (M : MM) (c k : Nat) : Int64 := M.2 c k
def sI (M : MM) (c k : Nat) (v : Int32) : MM := (fun c' k' => if c' = c ∧ k' = k then v else M.1 c' k', M.2)
def sL (M : MM) (c k : Nat) (v : Int64) : MM := (M.1, fun c' k' => if c' = c ∧ k' = k then v else M.2 c' k')
abbrev ix (i : Int32) : Nat := i.toNatClampNeg
def ib (i : Int32) (n : Nat) : Bool := !(decide (i < 0)) && decide (i.toNatClampNeg < n)
theorem ib_in {i : Int32} {n : Nat} (h : ib i n = true) : vp_in i n := by
  simp only [ib, Bool.and_eq_true, Bool.not_eq_true', decide_eq_false_iff_not, decide_eq_true_eq] at h
  exact fun q => q.elim h.1 (fun q => absurd h.2 (Nat.not_lt.mpr q))
theorem ib_lt {i : Int32} {n : Nat} (h : ib i n = true) : ix i < n := by
  simp only [ib, Bool.and_eq_true, Bool.not_eq_true', decide_eq_false_iff_not, decide_eq_true_eq] at h
  exact h.2
def bo (x : Int32) : Int32 := if x = 0 then 0 else 1
def bI (b : Bool) : Int32 := match b with | true => 1 | false => 0
theorem bo_bo (x : Int32) : bo (bo x) = bo x := by unfold bo; split <;> rfl
theorem bo_bI (b : Bool) : bo (bI b) = bI b := by cases b <;> rfl
theorem bo_cases {v : Int32} (h : bo v = v) : v = 0 ∨ v = 1 := by
  unfold bo at h; split at h
  · exact Or.inl h.symm
  · exact Or.inr h.symm
theorem bo_nar {v : Int32} (h : bo v = v) : narrow .boolean (.int v) = .int v := by rcases bo_cases h with rfl | rfl <;> rfl
theorem bo_fit {v : Int32} (h : bo v = v) : fits .boolean (.int v) = true := by rcases bo_cases h with rfl | rfl <;> rfl
def gd {α : Type} (b : Bool) (x : Option α) : Option α := match b with | true => x | false => none
theorem gd_some {α : Type} {b : Bool} {x : Option α} {y : α} (h : gd b x = some y) : b = true ∧ x = some y := by cases b <;> first | exact ⟨rfl, h⟩ | cases h
def bnd {α β : Type} (a : α) (f : α → β) : β := f a
theorem bnd_some {α β : Type} {a : α} {f : α → β} {y : β} (h : bnd a f = y) : ∃ x, x = a ∧ f x = y := ⟨a, rfl, h⟩
def bn2 {α β γ : Type} (o : Option (α × β)) (f : α → β → Option γ) : Option γ := match o with | some (a, b) => f a b | none => none
theorem bn2_some {α β γ : Type} {o : Option (α × β)} {f : α → β → Option γ} {y : γ} (h : bn2 o f = some y) : ∃ a b, o = some (a, b) ∧ f a b = some y := by
  cases o with
  | none => cases h
  | some q => exact ⟨q.1, q.2, rfl, h⟩
def bn1 {α γ : Type} (o : Option α) (f : α → Option γ) : Option γ := match o with | some a => f a | none => none
theorem bn1_some {α γ : Type} {o : Option α} {f : α → Option γ} {y : γ} (h : bn1 o f = some y) : ∃ a, o = some a ∧ f a = some y := by
  cases o with
  | none => cases h
  | some q => exact ⟨q, rfl, h⟩
theorem ift {c : Prop} [Decidable c] {α : Type} {A B y : α} (h : c) (hf : (if c then A else B) = y) : A = y := by rw [if_pos h] at hf; exact hf
theorem iff_ {c : Prop} [Decidable c] {α : Type} {A B y : α} (h : ¬ c) (hf : (if c then A else B) = y) : B = y := by rw [if_neg h] at hf; exact hf
theorem ifnt {c : Prop} [Decidable c] {α : Type} {A B y : α} (h : ¬ c) (hf : (if c then A else B) = y) : B = y := by rw [if_neg h] at hf; exact hf
/-! ===== worlds ===== -/
abbrev EE : Type := va_G × (Nat → ClassId)
abbrev tysE (E : EE) : List (ClassId × FieldType) := [(E.2 0, .int), (E.2 1, .long), (E.2 2, .object "SurvivorPurse$Member"), (E.2 3, .object "SurvivorPurse$Rank"), (E.2 4, .object "SurvivorPurse$Share")]
def mw (ent : Nat → va_E) (ad : Nat → Nat) (n : Nat) : va_W := (List.range n).map (fun c => (ad c, ent c))
theorem mw_at {ent : Nat → va_E} {ad : Nat → Nat} {n c : Nat} (h : c < n) {e : va_E} (he : ent c = e) : (mw ent ad n)[c]? = some (ad c, e) := by
  subst he
  simp [mw, h]
theorem mw_get {ent : Nat → va_E} {ad : Nat → Nat} {n k : Nat} {q : Nat × va_E} (h : (mw ent ad n)[k]? = some q) : k < n ∧ q = (ad k, ent k) := by
  have hk : k < n := by
    have h1 := (List.getElem?_eq_some_iff.mp h).1
    simpa [mw] using h1
  exact ⟨hk, (Option.some.inj ((mw_at hk rfl).symm.trans h)).symm⟩
theorem mw_set {ent ent' : Nat → va_E} {ad : Nat → Nat} {n c : Nat} {e : va_E} (h1 : ent' c = e) (h2 : ∀ c', c' ≠ c → ent' c' = ent c') : (mw ent ad n).set c (ad c, e) = mw ent' ad n := by
  apply List.ext_getElem?
  intro i
  by_cases hi : i < n
  · rw [mw_at hi rfl, List.getElem?_set]
    by_cases hc : c = i
    · subst hc
      simp [mw, hi, h1]
    · rw [if_neg hc, mw_at hi rfl, h2 i (fun q => hc q.symm)]
  · rw [List.getElem?_eq_none (by simp [mw]; omega), List.getElem?_eq_none (by simp [mw]; omega)]
def ad_I (ad : Nat → Nat) (n : Nat) : Prop := ∀ i j, i < n → j < n → ad i = ad j → i = j
def AA (ad : Nat → Nat) (n sz : Nat) : Nat → Prop := fun q => (∃ c, c < n ∧ q = ad c) ∨ sz ≤ q
theorem mw_D {ent : Nat → va_E} {ad : Nat → Nat} {n sz : Nat} (hI : ad_I ad n) : va_D (AA ad n sz) (mw ent ad n) :=
  ⟨fun i j p q h1 h2 e => by
    obtain ⟨a1, rfl⟩ := mw_get h1
    obtain ⟨a2, rfl⟩ := mw_get h2
    exact hI i j a1 a2 e,
   fun k q h => by
    obtain ⟨a1, rfl⟩ := mw_get h
    exact Or.inl ⟨k, a1, rfl⟩⟩
theorem AA_mono {ad : Nat → Nat} {n a b : Nat} (h : a ≤ b) {q : Nat} (hq : AA ad n b q) : AA ad n a q := hq.elim Or.inl (fun h2 => Or.inr (Nat.le_trans h h2))
def nestL : List Cond := [(Jvm.Cond.methodLinkNest "SurvivorPurse$Book" (40 : Nat) ({ cls := "SurvivorPurse$Member", name := "<init>", desc := "()V" } : Jvm.MethodName) "SurvivorPurse"), (Jvm.Cond.methodLinkNest "SurvivorPurse$Book" (41 : Nat) ({ cls := "SurvivorPurse$Rank", name := "<init>", desc := "()V" } : Jvm.MethodName) "SurvivorPurse"), (Jvm.Cond.methodLinkNest "SurvivorPurse$Book" (42 : Nat) ({ cls := "SurvivorPurse$Share", name := "<init>", desc := "()V" } : Jvm.MethodName) "SurvivorPurse"), (Jvm.Cond.methodLinkNest "SurvivorPurse$Table" (16 : Nat) ({ cls := "SurvivorPurse", name := "isAge", desc := "(I)Z" } : Jvm.MethodName) "SurvivorPurse"), (Jvm.Cond.methodLinkNest "SurvivorPurse$Book" (142 : Nat) ({ cls := "SurvivorPurse", name := "isWithin", desc := "(III)Z" } : Jvm.MethodName) "SurvivorPurse"), (Jvm.Cond.methodLinkNest "SurvivorPurse$Share" (97 : Nat) ({ cls := "SurvivorPurse", name := "parted", desc := "(JJJ)J" } : Jvm.MethodName) "SurvivorPurse"), (Jvm.Cond.methodLinkNest "SurvivorPurse$Book" (174 : Nat) ({ cls := "SurvivorPurse", name := "parted", desc := "(JJJ)J" } : Jvm.MethodName) "SurvivorPurse"), (Jvm.Cond.methodLinkNest "SurvivorPurse$Share" (67 : Nat) ({ cls := "SurvivorPurse", name := "isWithin", desc := "(III)Z" } : Jvm.MethodName) "SurvivorPurse")]
def NW (U : State) : Prop := ∀ w ∈ nestL, va_Nw w U
theorem NW.warm {s U : State} (hW : s.WarmedH U.vm) (h : NW s) : NW U := by
  simp only [NW, nestL, List.forall_mem_cons] at h ⊢
  obtain ⟨h0, h1, h2, h3, h4, h5, h6, h7, h9⟩ := h
  exact ⟨va_Nw.warmM hW h0, va_Nw.warmM hW h1, va_Nw.warmM hW h2, va_Nw.warmM hW h3, va_Nw.warmM hW h4, va_Nw.warmM hW h5, va_Nw.warmM hW h6, va_Nw.warmM hW h7, fun _ h => absurd h List.not_mem_nil⟩
theorem NW.same {s U : State} (hv : s.vm = U.vm) (h : NW s) : NW U := by
  intro w hw
  have h2 := h w hw
  revert hw
  simp only [nestL, List.mem_cons, List.not_mem_nil, or_false]
  intro hw
  rcases hw with rfl | rfl | rfl | rfl | rfl | rfl | rfl | rfl <;> exact va_Nw.same rfl hv h2
def PB (E : EE) (ent : Nat → va_E) (ad : Nat → Nat) (n sz : Nat) (U : State) : Prop := U.heap.size = sz ∧ va_P E.1 vwCl (mw ent ad n) U.heap ∧ va_K E.1 vwCl (tysE E) U ∧ NW U
def QB (E : EE) (ent : Nat → va_E) (ad : Nat → Nat) (n : Nat) (t : State) : Prop := va_P E.1 vwCl (mw ent ad n) t.heap
def CtL (l : Launch) (y : MethodName) (b : ByteArray) (mx fr lo : Nat) (E : EE) (ent ent' : Nat → va_E) (ad : Nat → Nat) (n sz : Nat) (av : List Value) (r : Int64) : Prop :=
  Met l y (.code y b mx (some .long) :: bg_B) { frames := fr, cells := 0, slots := 0, locals := lo } (va_Pc av (PB E ent ad n sz)) (va_Ql (fun r0 (_ : Unit) => r0 = r) (fun _ t => QB E ent' ad n t) (AA ad n sz)) 0 0 (AA ad n sz)
def CtI (l : Launch) (y : MethodName) (b : ByteArray) (mx fr lo : Nat) (ty : FieldType) (E : EE) (ent ent' : Nat → va_E) (ad : Nat → Nat) (n sz : Nat) (av : List Value) (r : Int32) : Prop :=
  Met l y (.code y b mx (some ty) :: bg_B) { frames := fr, cells := 0, slots := 0, locals := lo } (va_Pc av (PB E ent ad n sz)) (va_Qi (fun r0 (_ : Unit) => r0 = r) (fun _ t => QB E ent' ad n t) (AA ad n sz)) 0 0 (AA ad n sz)
def CtV (l : Launch) (y : MethodName) (b : ByteArray) (mx fr lo : Nat) (E : EE) (ent ent' : Nat → va_E) (ad : Nat → Nat) (n sz : Nat) (av : List Value) : Prop :=
  Met l y (.code y b mx none :: bg_B) { frames := fr, cells := 0, slots := 0, locals := lo } (va_Pc av (PB E ent ad n sz)) (va_Qv (fun (_ : Unit) => True) (fun _ t => QB E ent' ad n t) (AA ad n sz)) 0 0 (AA ad n sz)
theorem PB_blind {E : EE} {ent : Nat → va_E} {ad : Nat → Nat} {n sz : Nat} {av : List Value} : FrameBlind (va_Pc av (PB E ent ad n sz)) := fun a U g mk q => by
  obtain ⟨q0, q1, qP, qK, qN⟩ := q
  exact ⟨q0, q1, qP, va_K.moved (u := U) (U := U.calling g mk a) (Vm.Alike.refl U.vm) qK, NW.same (s := U) (U := U.calling g mk a) rfl qN⟩
theorem PB_pre {E : EE} {ent : Nat → va_E} {ad : Nat → Nat} {n : Nat} {av : List Value} {s : State} {H : Heap} (hP : va_P E.1 vwCl (mw ent ad n) H) (hK : va_K E.1 vwCl (tysE E) s) (hN : NW s) : ∀ U : State, U.heap = H → s.WarmedH U.vm → va_Pc av (PB E ent ad n H.size) av.toArray U := fun U hU hW =>
  ⟨rfl, by rw [hU], by rw [hU]; exact hP, va_K.moved hW.alike hK, NW.warm hW hN⟩
/-! ===== a method's body ===== -/
section MyBody
variable {l : Launch} {y : MethodName} {b : ByteArray} {mx fr lo : Nat} {E : EE} {ent ent' : Nat → va_E} {ad : Nat → Nat} {n sz : Nat} {av : List Value}
theorem body_of {ret : Option FieldType} {Qc : Array Value → State → Outcome → State → Prop} (hy : plainName y.cls = true) (own : String) (ho : y.cls = own) (hmx : (lg_sl av).length ≤ mx)
    (body : ∀ p e s m below meth c, sz = s.heap.size → CallFix p m c b mx s av.toArray bg_B own → meth.sig.returnType = ret → meth.locks = false → va_P E.1 vwCl (mw ent ad n) s.heap → va_K E.1 vwCl (tysE E) s → NW s → ∀ ls, lv_has ls mx (lv_args 0 av) → W p l e { frames := fr, cells := 0, slots := 0, locals := lo } s m av.toArray below meth c s.heap [] 0 0 (MQ below Qc av.toArray s 0 0 (AA ad n sz)) (F0 m 0 ls [])) :
    Met l y (.code y b mx ret :: bg_B) { frames := fr, cells := 0, slots := 0, locals := lo } (va_Pc av (PB E ent ad n sz)) Qc 0 0 (AA ad n sz) := by
  refine Met.ofW (cc := b) (maxL := mx) (ret := ret) hy rfl ?_
  intro p e s m args below meth c s₁ B hml hv
  obtain ⟨rfl, hsz, hP, hK, hN⟩ := hv
  have hts := atoms_spec (ws := .code y b mx ret :: bg_B) B.pre
  have hl := lv_entry av (n := mx) hmx
  rw [lg_entry_eq]
  exact body p e s m below meth c hsz.symm ⟨B.exec, B.bytes, hml, ho ▸ findClass_of_methodNamed B.named, fun w h => hts w (List.mem_cons_of_mem _ h)⟩ B.returns B.notSynchronized hP hK hN _ hl
end MyBody
/-! ===== rows over a world ===== -/
section MyRows
variable {p : Program} {l : Launch} {e : Env} {R : Room} {s : State} {m : MethodId} {args : Array Value} {below : List Frame} {meth : Method} {c : Code} {H : Heap} {locs : List Loc} {cells slots : Nat} {Q : State → Prop}
variable {cc : ByteArray} {pc : Nat} {ls : Array Slot} {rest : List Value} {nL : Nat} {own : String} {E : EE} {ent ent' : Nat → va_E} {ad : Nat → Nat} {n sz : Nat} {H0 : Heap}
theorem lv_rei {x a : Int32} (ex : x = a) (k : W p l e R s m args below meth c H locs cells slots Q (F0 m pc ls (.int x :: rest))) : W p l e R s m args below meth c H locs cells slots Q (F0 m pc ls (.int a :: rest)) := ex ▸ k
theorem lv_rel {x a : Int64} (ex : x = a) (k : W p l e R s m args below meth c H locs cells slots Q (F0 m pc ls (.long x :: rest))) : W p l e R s m args below meth c H locs cells slots Q (F0 m pc ls (.long a :: rest)) := ex ▸ k
theorem lv_rer {x a : Nat} (ex : x = a) (k : W p l e R s m args below meth c H locs cells slots Q (F0 m pc ls (.ref x :: rest))) : W p l e R s m args below meth c H locs cells slots Q (F0 m pc ls (.ref a :: rest)) := ex ▸ k
theorem ll_eq (S : CallFix p m c cc nL s args bg_B own) {x y : Int64} {off : Int} {tgt : Nat} (h1 : decode cc pc = .ok (.lcmp, 1)) (h2 : decode cc (pc + 1) = .ok (.ifCond .eq off, 3)) (ht : ((pc + 1 : Nat) : Int) + off = (tgt : Int)) (kt : x = y → W p l e R s m args below meth c H locs cells slots Q (F0 m tgt ls rest)) (kf : ¬ x = y → W p l e R s m args below meth c H locs cells slots Q (F0 m (pc + 4) ls rest)) : W p l e R s m args below meth c H locs cells slots Q (F0 m pc ls (.long y :: .long x :: rest)) :=
  W.lcmp S.1 S.2.1 h1 (lv_if_eq S.1 S.2.1 h2 ht (fun h => kt ((lg_cmp_eq x y).mp h)) (fun h => kf (fun q => h ((lg_cmp_eq x y).mpr q))))
theorem ll_ne (S : CallFix p m c cc nL s args bg_B own) {x y : Int64} {off : Int} {tgt : Nat} (h1 : decode cc pc = .ok (.lcmp, 1)) (h2 : decode cc (pc + 1) = .ok (.ifCond .ne off, 3)) (ht : ((pc + 1 : Nat) : Int) + off = (tgt : Int)) (kt : ¬ x = y → W p l e R s m args below meth c H locs cells slots Q (F0 m tgt ls rest)) (kf : x = y → W p l e R s m args below meth c H locs cells slots Q (F0 m (pc + 4) ls rest)) : W p l e R s m args below meth c H locs cells slots Q (F0 m pc ls (.long y :: .long x :: rest)) :=
  W.lcmp S.1 S.2.1 h1 (lv_if_ne S.1 S.2.1 h2 ht (fun h => kt (fun q => h ((lg_cmp_eq x y).mpr q))) (fun h => kf ((lg_cmp_eq x y).mp h)))
theorem ll_lt (S : CallFix p m c cc nL s args bg_B own) {x y : Int64} {off : Int} {tgt : Nat} (h1 : decode cc pc = .ok (.lcmp, 1)) (h2 : decode cc (pc + 1) = .ok (.ifCond .lt off, 3)) (ht : ((pc + 1 : Nat) : Int) + off = (tgt : Int)) (kt : x < y → W p l e R s m args below meth c H locs cells slots Q (F0 m tgt ls rest)) (kf : ¬ x < y → W p l e R s m args below meth c H locs cells slots Q (F0 m (pc + 4) ls rest)) : W p l e R s m args below meth c H locs cells slots Q (F0 m pc ls (.long y :: .long x :: rest)) :=
  W.lcmp S.1 S.2.1 h1 (lv_if_lt S.1 S.2.1 h2 ht (fun h => kt ((lg_cmp_lt x y).mp h)) (fun h => kf (fun q => h ((lg_cmp_lt x y).mpr q))))
theorem ll_ge (S : CallFix p m c cc nL s args bg_B own) {x y : Int64} {off : Int} {tgt : Nat} (h1 : decode cc pc = .ok (.lcmp, 1)) (h2 : decode cc (pc + 1) = .ok (.ifCond .ge off, 3)) (ht : ((pc + 1 : Nat) : Int) + off = (tgt : Int)) (kt : y ≤ x → W p l e R s m args below meth c H locs cells slots Q (F0 m tgt ls rest)) (kf : ¬ y ≤ x → W p l e R s m args below meth c H locs cells slots Q (F0 m (pc + 4) ls rest)) : W p l e R s m args below meth c H locs cells slots Q (F0 m pc ls (.long y :: .long x :: rest)) :=
  W.lcmp S.1 S.2.1 h1 (lv_if_ge S.1 S.2.1 h2 ht (fun h => kt ((lg_cmp_ge x y).mp h)) (fun h => kf (fun q => h ((lg_cmp_ge x y).mpr q))))
theorem ll_gt (S : CallFix p m c cc nL s args bg_B own) {x y : Int64} {off : Int} {tgt : Nat} (h1 : decode cc pc = .ok (.lcmp, 1)) (h2 : decode cc (pc + 1) = .ok (.ifCond .gt off, 3)) (ht : ((pc + 1 : Nat) : Int) + off = (tgt : Int)) (kt : y < x → W p l e R s m args below meth c H locs cells slots Q (F0 m tgt ls rest)) (kf : ¬ y < x → W p l e R s m args below meth c H locs cells slots Q (F0 m (pc + 4) ls rest)) : W p l e R s m args below meth c H locs cells slots Q (F0 m pc ls (.long y :: .long x :: rest)) :=
  W.lcmp S.1 S.2.1 h1 (lv_if_gt S.1 S.2.1 h2 ht (fun h => kt ((lg_cmp_gt x y).mp h)) (fun h => kf (fun q => h ((lg_cmp_gt x y).mpr q))))
theorem ll_le (S : CallFix p m c cc nL s args bg_B own) {x y : Int64} {off : Int} {tgt : Nat} (h1 : decode cc pc = .ok (.lcmp, 1)) (h2 : decode cc (pc + 1) = .ok (.ifCond .le off, 3)) (ht : ((pc + 1 : Nat) : Int) + off = (tgt : Int)) (kt : x ≤ y → W p l e R s m args below meth c H locs cells slots Q (F0 m tgt ls rest)) (kf : ¬ x ≤ y → W p l e R s m args below meth c H locs cells slots Q (F0 m (pc + 4) ls rest)) : W p l e R s m args below meth c H locs cells slots Q (F0 m pc ls (.long y :: .long x :: rest)) :=
  W.lcmp S.1 S.2.1 h1 (lv_if_le S.1 S.2.1 h2 ht (fun h => kt ((lg_cmp_le x y).mp h)) (fun h => kf (fun q => h ((lg_cmp_le x y).mpr q))))
/-- a field is read -/
theorem x_get {C : String} {T : u_T} {N ci index : Nat} {ref : String} (S : CallFix p m c cc nL s args bg_B own) (hK : va_K E.1 vwCl (tysE E) s) (hP : va_P E.1 vwCl (mw ent ad n) H) (hin : ∀ w ∈ u_ws C T N, w ∈ bg_B) (hc : vwCl[ci]? = some (C, T, N)) (co : Nat) (hco : co < n) {fs : List Value} (he : ent co = .inr (ci, fs)) (k : Nat) (hk : k < N) (hlink : Cond.fieldLink own index ref (T k).2.1 (T k).2.2.1 ∈ bg_B) (hsame : (T k).1 = ref) {v : Value} (hv : fs[k]? = some v) (hdg : decode cc pc = .ok (.getfield index, 3))
    (kk : W p l e R s m args below meth c H locs cells slots Q (F0 m (pc + 3) ls (v :: rest))) : W p l e R s m args below meth c H locs cells slots Q (F0 m pc ls (.ref (ad co) :: rest)) :=
  va_get (D := E.1) (ci := ci) (v := v) (C := C) (T := T) (N := N) S.1 S.2.1 S.2.2.2.2 hin S.2.2.2.1 hK hP co (mw_at hco he) hc k hk (S.2.2.2.2 _ hlink) (fun _ h9 => by rw [hsame] at h9; exact h9) hv hdg kk
/-- a field is written -/
theorem x_put {C : String} {T : u_T} {N ci index : Nat} {ref : String} (S : CallFix p m c cc nL s args bg_B own) (hI : ad_I ad n) (hK : va_K E.1 vwCl (tysE E) s) (hP : va_P E.1 vwCl (mw ent ad n) H) (hS : va_S (AA ad n sz) H0 H locs) (hin : ∀ w ∈ u_ws C T N, w ∈ bg_B) (ty0 : Nat → FieldType) (hty : ∀ k, k < N → parseFieldDescriptor (T k).2.2.1 = some (ty0 k)) (hnm : ∀ a, a < N → ∀ b, b < N → a ≠ b → (T a).2.1 ≠ (T b).2.1) (hc : vwCl[ci]? = some (C, T, N)) (co : Nat) (hco : co < n) {fs : List Value} (he : ent co = .inr (ci, fs)) (k : Nat) (hk : k < N) (hlink : Cond.fieldLink own index ref (T k).2.1 (T k).2.2.1 ∈ bg_B) (hsame : (T k).1 = ref) (hfin : (T k).2.2.2 = false) {v : Value} (hn : narrow (ty0 k) v = v) (hfit : fits (ty0 k) v = true) (hl : k < fs.length) (ent' : Nat → va_E) (h1 : ent' co = .inr (ci, fs.set k v)) (h2 : ∀ c', c' ≠ co → ent' c' = ent c') (hdg : decode cc pc = .ok (.putfield index, 3))
    (kk : ∀ (H1 : Heap) (locs1 : List Loc), va_P E.1 vwCl (mw ent' ad n) H1 → va_S (AA ad n sz) H0 H1 locs1 → W p l e R s m args below meth c H1 locs1 cells slots Q (F0 m (pc + 3) ls rest)) : W p l e R s m args below meth c H locs cells slots Q (F0 m pc ls (v :: .ref (ad co) :: rest)) :=
  va_put (D := E.1) (ci := ci) (v := v) (C := C) (T := T) (N := N) S.1 S.2.1 S.2.2.2.2 hin ty0 hty hnm S.2.2.2.1 hK hP (mw_D hI) hS co (mw_at hco he) hc k hk (S.2.2.2.2 _ hlink) (fun _ h9 => by rw [hsame] at h9; exact h9) hfin (hty k hk) hn hfit hl hdg (fun H1 locs1 hP1 _ hS1 => kk H1 locs1 (by rw [mw_set h1 h2] at hP1; exact hP1) hS1)
/-- an element of a row of longs is read -/
theorem x_lald (S : CallFix p m c cc nL s args bg_B own) (hK : va_K E.1 vwCl (tysE E) s) (hP : va_P E.1 vwCl (mw ent ad n) H) (co : Nat) (hco : co < n) {k : Nat} {f : Nat → Int64} (he : ent co = .inl (E.2 1, k, .inr (.inl f))) {i : Int32} (hi : ib i k = true) (hdg : decode cc pc = .ok (.laload, 1))
    (kk : W p l e R s m args below meth c H locs cells slots Q (F0 m (pc + 1) ls (.long (f (ix i)) :: rest))) : W p l e R s m args below meth c H locs cells slots Q (F0 m pc ls (.int i :: .ref (ad co) :: rest)) :=
  va_lald S.1 S.2.1 hK hP co 1 (mw_at hco he) rfl (ib_in hi) hdg kk
theorem x_iald (S : CallFix p m c cc nL s args bg_B own) (hK : va_K E.1 vwCl (tysE E) s) (hP : va_P E.1 vwCl (mw ent ad n) H) (co : Nat) (hco : co < n) {k : Nat} {f : Nat → Int32} (he : ent co = .inl (E.2 0, k, .inl f)) {i : Int32} (hi : ib i k = true) (hdg : decode cc pc = .ok (.iaload, 1))
    (kk : W p l e R s m args below meth c H locs cells slots Q (F0 m (pc + 1) ls (.int (f (ix i)) :: rest))) : W p l e R s m args below meth c H locs cells slots Q (F0 m pc ls (.int i :: .ref (ad co) :: rest)) :=
  va_iald S.1 S.2.1 hK hP co 0 (mw_at hco he) rfl (ib_in hi) hdg kk
theorem x_aald (S : CallFix p m c cc nL s args bg_B own) (hK : va_K E.1 vwCl (tysE E) s) (hP : va_P E.1 vwCl (mw ent ad n) H) (co : Nat) (hco : co < n) {k : Nat} {cA : ClassId} {f : Nat → Nat} (he : ent co = .inl (cA, k, .inr (.inr (.inr (.inr (fun i => some (ad (f i)))))))) (t0 : Nat) {C : String} (ht : (tysE E)[t0]? = some (cA, .object C)) {i : Int32} (hi : ib i k = true) (hdg : decode cc pc = .ok (.aaload, 1))
    (kk : W p l e R s m args below meth c H locs cells slots Q (F0 m (pc + 1) ls (.ref (ad (f (ix i))) :: rest))) : W p l e R s m args below meth c H locs cells slots Q (F0 m pc ls (.int i :: .ref (ad co) :: rest)) :=
  va_aldq S.1 S.2.1 hK hP co t0 (mw_at hco he) ht (ib_in hi) hdg kk
theorem x_last (S : CallFix p m c cc nL s args bg_B own) (hI : ad_I ad n) (hK : va_K E.1 vwCl (tysE E) s) (hP : va_P E.1 vwCl (mw ent ad n) H) (hS : va_S (AA ad n sz) H0 H locs) (co : Nat) (hco : co < n) {k : Nat} {f : Nat → Int64} (he : ent co = .inl (E.2 1, k, .inr (.inl f))) {i : Int32} {x : Int64} (hi : ib i k = true) (ent' : Nat → va_E) (h1 : ent' co = .inl (E.2 1, k, .inr (.inl (vp_updL f (ix i) x)))) (h2 : ∀ c', c' ≠ co → ent' c' = ent c') (hdg : decode cc pc = .ok (.lastore, 1))
    (kk : ∀ (H1 : Heap) (locs1 : List Loc), va_P E.1 vwCl (mw ent' ad n) H1 → va_S (AA ad n sz) H0 H1 locs1 → W p l e R s m args below meth c H1 locs1 cells slots Q (F0 m (pc + 1) ls rest)) : W p l e R s m args below meth c H locs cells slots Q (F0 m pc ls (.long x :: .int i :: .ref (ad co) :: rest)) :=
  va_last S.1 S.2.1 hK hP (mw_D hI) hS co 1 (mw_at hco he) rfl (ib_in hi) hdg (fun H1 locs1 hP1 _ hS1 => kk H1 locs1 (by rw [mw_set h1 h2] at hP1; exact hP1) hS1)
theorem x_iast (S : CallFix p m c cc nL s args bg_B own) (hI : ad_I ad n) (hK : va_K E.1 vwCl (tysE E) s) (hP : va_P E.1 vwCl (mw ent ad n) H) (hS : va_S (AA ad n sz) H0 H locs) (co : Nat) (hco : co < n) {k : Nat} {f : Nat → Int32} (he : ent co = .inl (E.2 0, k, .inl f)) {i x : Int32} (hi : ib i k = true) (ent' : Nat → va_E) (h1 : ent' co = .inl (E.2 0, k, .inl (upd f (ix i) x))) (h2 : ∀ c', c' ≠ co → ent' c' = ent c') (hdg : decode cc pc = .ok (.iastore, 1))
    (kk : ∀ (H1 : Heap) (locs1 : List Loc), va_P E.1 vwCl (mw ent' ad n) H1 → va_S (AA ad n sz) H0 H1 locs1 → W p l e R s m args below meth c H1 locs1 cells slots Q (F0 m (pc + 1) ls rest)) : W p l e R s m args below meth c H locs cells slots Q (F0 m pc ls (.int x :: .int i :: .ref (ad co) :: rest)) :=
  va_iast S.1 S.2.1 hK hP (mw_D hI) hS co 0 (mw_at hco he) rfl (ib_in hi) hdg (fun H1 locs1 hP1 _ hS1 => kk H1 locs1 (by rw [mw_set h1 h2] at hP1; exact hP1) hS1)
/-! returns -/
theorem r_l {r : Int64} (S : CallFix p m c cc nL s args bg_B own) (hr : meth.sig.returnType = some .long) (hlocks : meth.locks = false) (hP : va_P E.1 vwCl (mw ent' ad n) H) (hS : va_S (AA ad n sz) s.heap H locs) (hdg : decode cc pc = .ok (.lreturn, 1)) : W p l e R s m args below meth c H locs cells slots (MQ below (va_Ql (fun r0 (_ : Unit) => r0 = r) (fun _ t => QB E ent' ad n t) (AA ad n sz)) args s cells slots (AA ad n sz)) (F0 m pc ls [.long r]) :=
  W.lret S.1 S.2.1 hr (fun t ht _ => ⟨⟨r, (), rfl, rfl, by subst ht; exact hP⟩, hS.F ht⟩) hS.2.2 hdg
theorem r_i {r : Int32} (S : CallFix p m c cc nL s args bg_B own) (hr : meth.sig.returnType = some .int) (hlocks : meth.locks = false) (hP : va_P E.1 vwCl (mw ent' ad n) H) (hS : va_S (AA ad n sz) s.heap H locs) (hdg : decode cc pc = .ok (.ireturn, 1)) : W p l e R s m args below meth c H locs cells slots (MQ below (va_Qi (fun r0 (_ : Unit) => r0 = r) (fun _ t => QB E ent' ad n t) (AA ad n sz)) args s cells slots (AA ad n sz)) (F0 m pc ls [.int r]) :=
  W.iret S.1 S.2.1 hr (fun t ht _ => ⟨⟨r, (), rfl, rfl, by subst ht; exact hP⟩, hS.F ht⟩) hS.2.2 hdg
theorem r_z {r : Bool} (S : CallFix p m c cc nL s args bg_B own) (hr : meth.sig.returnType = some .boolean) (hlocks : meth.locks = false) (hP : va_P E.1 vwCl (mw ent' ad n) H) (hS : va_S (AA ad n sz) s.heap H locs) (hdg : decode cc pc = .ok (.ireturn, 1)) : W p l e R s m args below meth c H locs cells slots (MQ below (va_Qi (fun r0 (_ : Unit) => r0 = bI r) (fun _ t => QB E ent' ad n t) (AA ad n sz)) args s cells slots (AA ad n sz)) (F0 m pc ls [.int (bI r)]) :=
  W.zret S.1 S.2.1 hr (bo_nar (bo_bI r)) (fun t ht _ => ⟨⟨bI r, (), rfl, rfl, by subst ht; exact hP⟩, hS.F ht⟩) hS.2.2 hdg
theorem r_v (S : CallFix p m c cc nL s args bg_B own) (hr : meth.sig.returnType = none) (hlocks : meth.locks = false) (hP : va_P E.1 vwCl (mw ent' ad n) H) (hS : va_S (AA ad n sz) s.heap H locs) (hdg : decode cc pc = .ok (.return_, 1)) : W p l e R s m args below meth c H locs cells slots (MQ below (va_Qv (fun (_ : Unit) => True) (fun _ t => QB E ent' ad n t) (AA ad n sz)) args s cells slots (AA ad n sz)) (F0 m pc ls []) :=
  W.vret S.1 S.2.1 hr (fun t ht _ => ⟨⟨(), rfl, trivial, by subst ht; exact hP⟩, hS.F ht⟩) hS.2.2 hdg
/-! calls -/
theorem cB {index : Nat} {y : MethodName} {b : ByteArray} {mx fr lo : Nat} {ret : Option FieldType} (k : Nat) (S : CallFix p m c cc nL s args bg_B own) (hcode : Cond.code y b mx ret ∈ bg_B) (hini : Cond.initialized y.cls ∈ bg_B) (hl : Cond.methodLink own index y ∈ bg_B) (hd : y.cls ≠ "java/lang/invoke/MethodHandle" ∧ y.cls ≠ "java/lang/invoke/VarHandle" ∧ (parseMethodDescriptor y.desc).map (fun d => d.parameters.length) = some k) (hR : fr + 1 ≤ R.frames ∧ 8 + (mx + 11) + lo ≤ R.locals) : CallB R s args own index y b mx ret (.code y b mx ret :: bg_B) { frames := fr, cells := 0, slots := 0, locals := lo } 0 0 k :=
  callB_of k S.2.2.2.2 (bg_ok hcode) rfl rfl rfl (S.2.2.2.2 _ hini) (S.2.2.2.2 _ hl) hd hR
theorem cV {index : Nat} {y : MethodName} {C : String} {b : ByteArray} {mx fr lo : Nat} {ret : Option FieldType} (k : Nat) (S : CallFix p m c cc nL s args bg_B own) (hcode : Cond.code y b mx ret ∈ bg_B) (hini : Cond.initialized y.cls ∈ bg_B) (hl : Cond.methodLink own index y ∈ bg_B) (him : Cond.instanceMethod y ∈ bg_B) (hse : Cond.selects C y y ∈ bg_B) (hd : y.cls ≠ "java/lang/invoke/MethodHandle" ∧ y.cls ≠ "java/lang/invoke/VarHandle" ∧ (parseMethodDescriptor y.desc).map (fun d => d.parameters.length) = some k) (hR : fr + 1 ≤ R.frames ∧ 8 + (mx + 11) + lo ≤ R.locals) : CallW R s args own C index y b mx ret (.code y b mx ret :: bg_B) { frames := fr, cells := 0, slots := 0, locals := lo } 0 0 k :=
  ⟨cB k S hcode hini hl hd hR, S.2.2.2.2 _ him, S.2.2.2.2 _ hse⟩
theorem cS {index : Nat} {y : MethodName} {b : ByteArray} {mx fr lo : Nat} {ret : Option FieldType} (k : Nat) (S : CallFix p m c cc nL s args bg_B own) (hcode : Cond.code y b mx ret ∈ bg_B) (hini : Cond.initialized y.cls ∈ bg_B) (hl : Cond.methodLink own index y ∈ bg_B) (hst : Cond.static y ∈ bg_B) (hd : y.cls ≠ "java/lang/invoke/MethodHandle" ∧ y.cls ≠ "java/lang/invoke/VarHandle" ∧ (parseMethodDescriptor y.desc).map (fun d => d.parameters.length) = some k) (hR : fr + 1 ≤ R.frames ∧ 8 + (mx + 11) + lo ≤ R.locals) : CallB R s args own index y b mx ret (.code y b mx ret :: bg_B) { frames := fr, cells := 0, slots := 0, locals := lo } 0 0 k ∧ (Cond.static y).before args s = true :=
  ⟨cB k S hcode hini hl hd hR, S.2.2.2.2 _ hst⟩
theorem cN {index : Nat} {y : MethodName} {host : String} {b : ByteArray} {mx fr lo : Nat} {ret : Option FieldType} (k : Nat) (S : CallFix p m c cc nL s args bg_B own) (hN : NW s) (hcode : Cond.code y b mx ret ∈ bg_B) (hini : Cond.initialized y.cls ∈ bg_B) (hl : Cond.methodLinkNest own index y host ∈ nestL) (hst : Cond.static y ∈ bg_B) (hd : y.cls ≠ "java/lang/invoke/MethodHandle" ∧ y.cls ≠ "java/lang/invoke/VarHandle" ∧ (parseMethodDescriptor y.desc).map (fun d => d.parameters.length) = some k) (hR : fr + 1 ≤ R.frames ∧ 8 + (mx + 11) + lo ≤ R.locals) : va_CN R s args own index y host b mx ret (.code y b mx ret :: bg_B) { frames := fr, cells := 0, slots := 0, locals := lo } 0 0 k ∧ (Cond.static y).before args s = true ∧ True :=
  ⟨va_cnB k S.2.2.2.2 (bg_ok hcode) rfl rfl rfl (hN _ hl) (S.2.2.2.2 _ hini) hd hR, S.2.2.2.2 _ hst, trivial⟩
variable {y : MethodName} {b : ByteArray} {mx fr lo index : Nat} {As : List Value} {host C : String}
theorem y_Vl {r : Int64} {k co ci : Nat} {fs : List Value} {qc : vw_C} (S : CallFix p m c cc nL s args bg_B own) (hK : va_K E.1 vwCl (tysE E) s) (hN : NW s) (hP : va_P E.1 vwCl (mw ent ad n) H) (hS : va_S (AA ad n sz) H0 H locs) (hsz : H0.size = sz) (hco : co < n) (he : ent co = .inr (ci, fs)) (hq : vwCl[ci]? = some qc) (hM : CtL l y b mx fr lo E ent ent' ad n H.size (.ref (ad co) :: As) r) (cw : CallW R s args own qc.1 index y b mx (some .long) (.code y b mx (some .long) :: bg_B) { frames := fr, cells := 0, slots := 0, locals := lo } 0 0 k) (hls : ls.size = nL) (hn : As.length = k) {st : List Value} (hst : st = As.reverse ++ .ref (ad co) :: rest) (hw : (rest.map fun v => v.category).sum ≤ 8) (hdg : decode cc pc = .ok (.invokevirtual index, 3)) (hcs : cells ≤ R.cells ∧ slots ≤ R.slots)
    (kk : ∀ (H1 : Heap) (locs1 : List Loc), va_P E.1 vwCl (mw ent' ad n) H1 → va_S (AA ad n sz) H0 H1 locs1 → W p l e R s m args below meth c H1 locs1 cells slots Q (F0 m (pc + 3) ls (.long r :: rest))) : W p l e R s m args below meth c H locs cells slots Q (F0 m pc ls st) := by
  subst hst
  refine va_calll (va_runV (As := As) (rest := rest) S hM cw ⟨PB_blind, va_recv hK hP hq (mw_at hco he), PB_pre hP hK hN⟩ rfl hn hls rfl (lv_room hw) hdg hcs) hS (fun q _ h => AA_mono (by rw [← hsz]; exact hS.1) h) (fun q h => AA_mono (by rw [← hsz]; exact hS.1) h) (fun r0 u t H1 locs1 ht _ hr hB _ _ hS1 => ?_)
  subst hr
  exact kk H1 locs1 (by subst ht; exact hB) hS1
theorem y_Vi {ty : FieldType} {r : Int32} {k co ci : Nat} {fs : List Value} {qc : vw_C} (S : CallFix p m c cc nL s args bg_B own) (hK : va_K E.1 vwCl (tysE E) s) (hN : NW s) (hP : va_P E.1 vwCl (mw ent ad n) H) (hS : va_S (AA ad n sz) H0 H locs) (hsz : H0.size = sz) (hco : co < n) (he : ent co = .inr (ci, fs)) (hq : vwCl[ci]? = some qc) (hM : CtI l y b mx fr lo ty E ent ent' ad n H.size (.ref (ad co) :: As) r) (cw : CallW R s args own qc.1 index y b mx (some ty) (.code y b mx (some ty) :: bg_B) { frames := fr, cells := 0, slots := 0, locals := lo } 0 0 k) (hls : ls.size = nL) (hn : As.length = k) {st : List Value} (hst : st = As.reverse ++ .ref (ad co) :: rest) (hw : (rest.map fun v => v.category).sum ≤ 8) (hdg : decode cc pc = .ok (.invokevirtual index, 3)) (hcs : cells ≤ R.cells ∧ slots ≤ R.slots)
    (kk : ∀ (H1 : Heap) (locs1 : List Loc), va_P E.1 vwCl (mw ent' ad n) H1 → va_S (AA ad n sz) H0 H1 locs1 → W p l e R s m args below meth c H1 locs1 cells slots Q (F0 m (pc + 3) ls (.int r :: rest))) : W p l e R s m args below meth c H locs cells slots Q (F0 m pc ls st) := by
  subst hst
  refine va_calli (va_runV (As := As) (rest := rest) S hM cw ⟨PB_blind, va_recv hK hP hq (mw_at hco he), PB_pre hP hK hN⟩ rfl hn hls rfl (lv_room hw) hdg hcs) hS (fun q _ h => AA_mono (by rw [← hsz]; exact hS.1) h) (fun q h => AA_mono (by rw [← hsz]; exact hS.1) h) (fun r0 u t H1 locs1 ht _ hr hB _ _ hS1 => ?_)
  subst hr
  exact kk H1 locs1 (by subst ht; exact hB) hS1
theorem y_Vv {k co ci : Nat} {fs : List Value} {qc : vw_C} (S : CallFix p m c cc nL s args bg_B own) (hK : va_K E.1 vwCl (tysE E) s) (hN : NW s) (hP : va_P E.1 vwCl (mw ent ad n) H) (hS : va_S (AA ad n sz) H0 H locs) (hsz : H0.size = sz) (hco : co < n) (he : ent co = .inr (ci, fs)) (hq : vwCl[ci]? = some qc) (hM : CtV l y b mx fr lo E ent ent' ad n H.size (.ref (ad co) :: As)) (cw : CallW R s args own qc.1 index y b mx none (.code y b mx none :: bg_B) { frames := fr, cells := 0, slots := 0, locals := lo } 0 0 k) (hls : ls.size = nL) (hn : As.length = k) {st : List Value} (hst : st = As.reverse ++ .ref (ad co) :: rest) (hw : (rest.map fun v => v.category).sum ≤ 8) (hdg : decode cc pc = .ok (.invokevirtual index, 3)) (hcs : cells ≤ R.cells ∧ slots ≤ R.slots)
    (kk : ∀ (H1 : Heap) (locs1 : List Loc), va_P E.1 vwCl (mw ent' ad n) H1 → va_S (AA ad n sz) H0 H1 locs1 → W p l e R s m args below meth c H1 locs1 cells slots Q (F0 m (pc + 3) ls rest)) : W p l e R s m args below meth c H locs cells slots Q (F0 m pc ls st) := by
  subst hst
  refine va_callv (va_runV (As := As) (rest := rest) S hM cw ⟨PB_blind, va_recv hK hP hq (mw_at hco he), PB_pre hP hK hN⟩ rfl hn hls rfl (lv_room hw) hdg hcs) hS (fun q _ h => AA_mono (by rw [← hsz]; exact hS.1) h) (fun q h => AA_mono (by rw [← hsz]; exact hS.1) h) (fun u t H1 locs1 ht _ hr hB _ _ hS1 => ?_)
  exact kk H1 locs1 (by subst ht; exact hB) hS1
theorem y_Sl {r : Int64} {k : Nat} (S : CallFix p m c cc nL s args bg_B own) (hK : va_K E.1 vwCl (tysE E) s) (hN : NW s) (hP : va_P E.1 vwCl (mw ent ad n) H) (hS : va_S (AA ad n sz) H0 H locs) (hsz : H0.size = sz) (hM : CtL l y b mx fr lo E ent ent' ad n H.size As r) (cw : CallB R s args own index y b mx (some .long) (.code y b mx (some .long) :: bg_B) { frames := fr, cells := 0, slots := 0, locals := lo } 0 0 k ∧ (Cond.static y).before args s = true) (hls : ls.size = nL) (hn : As.length = k) {st : List Value} (hst : st = As.reverse ++ rest) (hw : (rest.map fun v => v.category).sum ≤ 8) (hdg : decode cc pc = .ok (.invokestatic index, 3)) (hcs : cells ≤ R.cells ∧ slots ≤ R.slots)
    (kk : ∀ (H1 : Heap) (locs1 : List Loc), va_P E.1 vwCl (mw ent' ad n) H1 → va_S (AA ad n sz) H0 H1 locs1 → W p l e R s m args below meth c H1 locs1 cells slots Q (F0 m (pc + 3) ls (.long r :: rest))) : W p l e R s m args below meth c H locs cells slots Q (F0 m pc ls st) := by
  subst hst
  refine va_calll (va_runS (As := As) (rest := rest) S hM cw ⟨PB_blind, PB_pre hP hK hN⟩ rfl hn hls rfl (lv_room hw) hdg hcs) hS (fun q _ h => AA_mono (by rw [← hsz]; exact hS.1) h) (fun q h => AA_mono (by rw [← hsz]; exact hS.1) h) (fun r0 u t H1 locs1 ht _ hr hB _ _ hS1 => ?_)
  subst hr
  exact kk H1 locs1 (by subst ht; exact hB) hS1
theorem y_Si {ty : FieldType} {r : Int32} {k : Nat} (S : CallFix p m c cc nL s args bg_B own) (hK : va_K E.1 vwCl (tysE E) s) (hN : NW s) (hP : va_P E.1 vwCl (mw ent ad n) H) (hS : va_S (AA ad n sz) H0 H locs) (hsz : H0.size = sz) (hM : CtI l y b mx fr lo ty E ent ent' ad n H.size As r) (cw : CallB R s args own index y b mx (some ty) (.code y b mx (some ty) :: bg_B) { frames := fr, cells := 0, slots := 0, locals := lo } 0 0 k ∧ (Cond.static y).before args s = true) (hls : ls.size = nL) (hn : As.length = k) {st : List Value} (hst : st = As.reverse ++ rest) (hw : (rest.map fun v => v.category).sum ≤ 8) (hdg : decode cc pc = .ok (.invokestatic index, 3)) (hcs : cells ≤ R.cells ∧ slots ≤ R.slots)
    (kk : ∀ (H1 : Heap) (locs1 : List Loc), va_P E.1 vwCl (mw ent' ad n) H1 → va_S (AA ad n sz) H0 H1 locs1 → W p l e R s m args below meth c H1 locs1 cells slots Q (F0 m (pc + 3) ls (.int r :: rest))) : W p l e R s m args below meth c H locs cells slots Q (F0 m pc ls st) := by
  subst hst
  refine va_calli (va_runS (As := As) (rest := rest) S hM cw ⟨PB_blind, PB_pre hP hK hN⟩ rfl hn hls rfl (lv_room hw) hdg hcs) hS (fun q _ h => AA_mono (by rw [← hsz]; exact hS.1) h) (fun q h => AA_mono (by rw [← hsz]; exact hS.1) h) (fun r0 u t H1 locs1 ht _ hr hB _ _ hS1 => ?_)
  subst hr
  exact kk H1 locs1 (by subst ht; exact hB) hS1
theorem y_Sv {k : Nat} (S : CallFix p m c cc nL s args bg_B own) (hK : va_K E.1 vwCl (tysE E) s) (hN : NW s) (hP : va_P E.1 vwCl (mw ent ad n) H) (hS : va_S (AA ad n sz) H0 H locs) (hsz : H0.size = sz) (hM : CtV l y b mx fr lo E ent ent' ad n H.size As) (cw : CallB R s args own index y b mx none (.code y b mx none :: bg_B) { frames := fr, cells := 0, slots := 0, locals := lo } 0 0 k ∧ (Cond.static y).before args s = true) (hls : ls.size = nL) (hn : As.length = k) {st : List Value} (hst : st = As.reverse ++ rest) (hw : (rest.map fun v => v.category).sum ≤ 8) (hdg : decode cc pc = .ok (.invokestatic index, 3)) (hcs : cells ≤ R.cells ∧ slots ≤ R.slots)
    (kk : ∀ (H1 : Heap) (locs1 : List Loc), va_P E.1 vwCl (mw ent' ad n) H1 → va_S (AA ad n sz) H0 H1 locs1 → W p l e R s m args below meth c H1 locs1 cells slots Q (F0 m (pc + 3) ls rest)) : W p l e R s m args below meth c H locs cells slots Q (F0 m pc ls st) := by
  subst hst
  refine va_callv (va_runS (As := As) (rest := rest) S hM cw ⟨PB_blind, PB_pre hP hK hN⟩ rfl hn hls rfl (lv_room hw) hdg hcs) hS (fun q _ h => AA_mono (by rw [← hsz]; exact hS.1) h) (fun q h => AA_mono (by rw [← hsz]; exact hS.1) h) (fun u t H1 locs1 ht _ hr hB _ _ hS1 => ?_)
  exact kk H1 locs1 (by subst ht; exact hB) hS1
theorem y_Nl {r : Int64} {k : Nat} (S : CallFix p m c cc nL s args bg_B own) (hK : va_K E.1 vwCl (tysE E) s) (hN : NW s) (hP : va_P E.1 vwCl (mw ent ad n) H) (hS : va_S (AA ad n sz) H0 H locs) (hsz : H0.size = sz) (hM : CtL l y b mx fr lo E ent ent' ad n H.size As r) (cw : va_CN R s args own index y host b mx (some .long) (.code y b mx (some .long) :: bg_B) { frames := fr, cells := 0, slots := 0, locals := lo } 0 0 k ∧ (Cond.static y).before args s = true ∧ True) (hls : ls.size = nL) (hn : As.length = k) {st : List Value} (hst : st = As.reverse ++ rest) (hw : (rest.map fun v => v.category).sum ≤ 8) (hdg : decode cc pc = .ok (.invokestatic index, 3)) (hcs : cells ≤ R.cells ∧ slots ≤ R.slots)
    (kk : ∀ (H1 : Heap) (locs1 : List Loc), va_P E.1 vwCl (mw ent' ad n) H1 → va_S (AA ad n sz) H0 H1 locs1 → W p l e R s m args below meth c H1 locs1 cells slots Q (F0 m (pc + 3) ls (.long r :: rest))) : W p l e R s m args below meth c H locs cells slots Q (F0 m pc ls st) := by
  subst hst
  refine va_calll (va_runSN (As := As) (rest := rest) S hM cw ⟨PB_blind, PB_pre hP hK hN⟩ rfl hn hls rfl (lv_room hw) hdg hcs) hS (fun q _ h => AA_mono (by rw [← hsz]; exact hS.1) h) (fun q h => AA_mono (by rw [← hsz]; exact hS.1) h) (fun r0 u t H1 locs1 ht _ hr hB _ _ hS1 => ?_)
  subst hr
  exact kk H1 locs1 (by subst ht; exact hB) hS1
theorem y_Ni {ty : FieldType} {r : Int32} {k : Nat} (S : CallFix p m c cc nL s args bg_B own) (hK : va_K E.1 vwCl (tysE E) s) (hN : NW s) (hP : va_P E.1 vwCl (mw ent ad n) H) (hS : va_S (AA ad n sz) H0 H locs) (hsz : H0.size = sz) (hM : CtI l y b mx fr lo ty E ent ent' ad n H.size As r) (cw : va_CN R s args own index y host b mx (some ty) (.code y b mx (some ty) :: bg_B) { frames := fr, cells := 0, slots := 0, locals := lo } 0 0 k ∧ (Cond.static y).before args s = true ∧ True) (hls : ls.size = nL) (hn : As.length = k) {st : List Value} (hst : st = As.reverse ++ rest) (hw : (rest.map fun v => v.category).sum ≤ 8) (hdg : decode cc pc = .ok (.invokestatic index, 3)) (hcs : cells ≤ R.cells ∧ slots ≤ R.slots)
    (kk : ∀ (H1 : Heap) (locs1 : List Loc), va_P E.1 vwCl (mw ent' ad n) H1 → va_S (AA ad n sz) H0 H1 locs1 → W p l e R s m args below meth c H1 locs1 cells slots Q (F0 m (pc + 3) ls (.int r :: rest))) : W p l e R s m args below meth c H locs cells slots Q (F0 m pc ls st) := by
  subst hst
  refine va_calli (va_runSN (As := As) (rest := rest) S hM cw ⟨PB_blind, PB_pre hP hK hN⟩ rfl hn hls rfl (lv_room hw) hdg hcs) hS (fun q _ h => AA_mono (by rw [← hsz]; exact hS.1) h) (fun q h => AA_mono (by rw [← hsz]; exact hS.1) h) (fun r0 u t H1 locs1 ht _ hr hB _ _ hS1 => ?_)
  subst hr
  exact kk H1 locs1 (by subst ht; exact hB) hS1
end MyRows
end
section
theorem bg_c1 {w : Cond} (i : Nat) (h : tables_1_1[i]? = some w) (g : goodWord w = true) : w ∈ bg_B := bg_in (List.mem_append_right _ (List.mem_append_left _ (List.mem_of_getElem? h))) g
theorem bg_c2 {w : Cond} (i : Nat) (h : tables_1_2[i]? = some w) (g : goodWord w = true) : w ∈ bg_B := bg_in (List.mem_append_right _ (List.mem_append_right _ (List.mem_append_left _ (List.mem_of_getElem? h)))) g
theorem bg_c3 {w : Cond} (i : Nat) (h : tables_1_3[i]? = some w) (g : goodWord w = true) : w ∈ bg_B := bg_in (List.mem_append_right _ (List.mem_append_right _ (List.mem_append_right _ (List.mem_append_left _ (List.mem_of_getElem? h))))) g
theorem bg_c4 {w : Cond} (i : Nat) (h : tables_1_4[i]? = some w) (g : goodWord w = true) : w ∈ bg_B := bg_in (List.mem_append_right _ (List.mem_append_right _ (List.mem_append_right _ (List.mem_append_right _ (List.mem_of_getElem? h))))) g
theorem w_in_L : Cond.initialized "SurvivorPurseLaw" ∈ bg_B := bg_c1 0 rfl rfl
theorem w_in_X5 : Cond.initialized "SurvivorPurse" ∈ bg_B := bg_c1 1 rfl rfl
theorem w_in_X0 : Cond.initialized "SurvivorPurse$Book" ∈ bg_B := bg_c1 2 rfl rfl
theorem w_in_X4 : Cond.initialized "SurvivorPurse$Table" ∈ bg_B := bg_c1 3 rfl rfl
theorem w_in_X1 : Cond.initialized "SurvivorPurse$Member" ∈ bg_B := bg_c1 4 rfl rfl
theorem w_in_X2 : Cond.initialized "SurvivorPurse$Rank" ∈ bg_B := bg_c1 5 rfl rfl
theorem w_in_X3 : Cond.initialized "SurvivorPurse$Share" ∈ bg_B := bg_c1 6 rfl rfl
theorem w_in_X6 : Cond.initialized "SurvivorPurseModel" ∈ bg_B := bg_c1 7 rfl rfl
theorem w_in_J9 : Cond.initialized "java/lang/Math" ∈ bg_B := bg_c1 8 rfl rfl
theorem w_in_J7 : Cond.initialized "java/util/Arrays" ∈ bg_B := bg_c1 9 rfl rfl
theorem w_in_J10 : Cond.initialized "java/lang/System" ∈ bg_B := bg_c1 10 rfl rfl
theorem w_cl_L_7 : Cond.classLink "SurvivorPurseLaw" 7 "SurvivorPurse" ∈ bg_B := bg_c1 11 rfl rfl
theorem w_ni_X5 : Cond.instantiable "SurvivorPurse" 2 ∈ bg_B := bg_c1 12 rfl rfl
theorem w_ml_L_9 : Cond.methodLink "SurvivorPurseLaw" 9 yX5_init ∈ bg_B := bg_c1 13 rfl rfl
theorem w_im_yX5_init : Cond.instanceMethod yX5_init ∈ bg_B := bg_c1 14 rfl rfl
theorem w_co_yX5_init : Cond.code yX5_init cX5_init 1 none ∈ bg_B := bg_c1 15 rfl rfl
theorem w_ml_X5_1 : Cond.methodLink "SurvivorPurse" 1 objectInit ∈ bg_B := bg_c1 16 rfl rfl
theorem w_im_objectInit : Cond.instanceMethod objectInit ∈ bg_B := bg_c1 17 rfl rfl
theorem w_cl_X5_7 : Cond.classLink "SurvivorPurse" 7 "SurvivorPurse$Book" ∈ bg_B := bg_c1 19 rfl rfl
theorem w_ni_X0 : Cond.instantiable "SurvivorPurse$Book" 13 ∈ bg_B := bg_c1 20 rfl rfl
theorem w_ml_X5_9 : Cond.methodLink "SurvivorPurse" 9 yX0_init ∈ bg_B := bg_c1 21 rfl rfl
theorem w_im_yX0_init : Cond.instanceMethod yX0_init ∈ bg_B := bg_c1 22 rfl rfl
theorem w_co_yX0_init : Cond.code yX0_init cX0_init 2 none ∈ bg_B := bg_c1 23 rfl rfl
theorem w_ml_X0_3 : Cond.methodLink "SurvivorPurse$Book" 3 objectInit ∈ bg_B := bg_c1 24 rfl rfl
theorem w_cl_X0_9 : Cond.classLink "SurvivorPurse$Book" 9 "SurvivorPurse$Table" ∈ bg_B := bg_c1 25 rfl rfl
theorem w_ni_X4 : Cond.instantiable "SurvivorPurse$Table" 1 ∈ bg_B := bg_c1 26 rfl rfl
theorem w_ml_X0_11 : Cond.methodLink "SurvivorPurse$Book" 11 yX4_init ∈ bg_B := bg_c1 27 rfl rfl
theorem w_im_yX4_init : Cond.instanceMethod yX4_init ∈ bg_B := bg_c1 28 rfl rfl
theorem w_co_yX4_init : Cond.code yX4_init cX4_init 2 none ∈ bg_B := bg_c1 29 rfl rfl
theorem w_ml_X4_3 : Cond.methodLink "SurvivorPurse$Table" 3 objectInit ∈ bg_B := bg_c1 30 rfl rfl
theorem w_ki_X4_15 : Cond.constant "SurvivorPurse$Table" 15 (100000) ∈ bg_B := bg_c1 31 rfl rfl
theorem w_fl_X4_9 : Cond.fieldLink "SurvivorPurse$Table" 9 "SurvivorPurse$Table" "alive" "[I" ∈ bg_B := bg_c1 32 rfl rfl
theorem w_cl_X0_18 : Cond.classLink "SurvivorPurse$Book" 18 "SurvivorPurse$Member" ∈ bg_B := bg_c1 37 rfl rfl
theorem w_cl_X0_24 : Cond.classLink "SurvivorPurse$Book" 24 "SurvivorPurse$Rank" ∈ bg_B := bg_c1 39 rfl rfl
theorem w_cl_X0_30 : Cond.classLink "SurvivorPurse$Book" 30 "SurvivorPurse$Share" ∈ bg_B := bg_c1 41 rfl rfl
theorem w_ni_X1 : Cond.instantiable "SurvivorPurse$Member" 7 ∈ bg_B := bg_c1 43 rfl rfl
theorem w_ml_X0_40 : Cond.methodLinkNest "SurvivorPurse$Book" 40 yX1_init "SurvivorPurse" ∈ nestL := by decide +kernel
theorem w_im_yX1_init : Cond.instanceMethod yX1_init ∈ bg_B := bg_c1 45 rfl rfl
theorem w_co_yX1_init : Cond.code yX1_init cX1_init 1 none ∈ bg_B := bg_c1 46 rfl rfl
theorem w_ml_X1_3 : Cond.methodLink "SurvivorPurse$Member" 3 objectInit ∈ bg_B := bg_c1 47 rfl rfl
theorem w_fl_X1_9 : Cond.fieldLink "SurvivorPurse$Member" 9 "SurvivorPurse$Member" "birth" "I" ∈ bg_B := bg_c1 48 rfl rfl
theorem w_fl_X0_127 : Cond.fieldLink "SurvivorPurse$Book" 127 "SurvivorPurse$Member" "birth" "I" ∈ bg_B := bg_c1 49 rfl rfl
theorem w_fl_X5_203 : Cond.fieldLink "SurvivorPurse" 203 "SurvivorPurse$Member" "birth" "I" ∈ bg_B := bg_c1 50 rfl rfl
theorem w_fl_X1_15 : Cond.fieldLink "SurvivorPurse$Member" 15 "SurvivorPurse$Member" "purse" "J" ∈ bg_B := bg_c1 51 rfl rfl
theorem w_fl_X0_191 : Cond.fieldLink "SurvivorPurse$Book" 191 "SurvivorPurse$Member" "purse" "J" ∈ bg_B := bg_c1 52 rfl rfl
theorem w_fl_X5_224 : Cond.fieldLink "SurvivorPurse" 224 "SurvivorPurse$Member" "purse" "J" ∈ bg_B := bg_c1 53 rfl rfl
theorem w_fl_X1_19 : Cond.fieldLink "SurvivorPurse$Member" 19 "SurvivorPurse$Member" "debt" "J" ∈ bg_B := bg_c1 54 rfl rfl
theorem w_fl_X0_178 : Cond.fieldLink "SurvivorPurse$Book" 178 "SurvivorPurse$Member" "debt" "J" ∈ bg_B := bg_c1 55 rfl rfl
theorem w_fl_X5_227 : Cond.fieldLink "SurvivorPurse" 227 "SurvivorPurse$Member" "debt" "J" ∈ bg_B := bg_c1 56 rfl rfl
theorem w_fl_X1_22 : Cond.fieldLink "SurvivorPurse$Member" 22 "SurvivorPurse$Member" "heirNumber" "I" ∈ bg_B := bg_c1 57 rfl rfl
theorem w_fl_X5_92 : Cond.fieldLink "SurvivorPurse" 92 "SurvivorPurse$Member" "heirNumber" "I" ∈ bg_B := bg_c1 58 rfl rfl
theorem w_fl_X0_260 : Cond.fieldLink "SurvivorPurse$Book" 260 "SurvivorPurse$Member" "heirNumber" "I" ∈ bg_B := bg_c1 59 rfl rfl
theorem w_fl_X1_25 : Cond.fieldLink "SurvivorPurse$Member" 25 "SurvivorPurse$Member" "proved" "Z" ∈ bg_B := bg_c1 60 rfl rfl
theorem w_fl_X0_146 : Cond.fieldLink "SurvivorPurse$Book" 146 "SurvivorPurse$Member" "proved" "Z" ∈ bg_B := bg_c1 61 rfl rfl
theorem w_fl_X5_197 : Cond.fieldLink "SurvivorPurse" 197 "SurvivorPurse$Member" "proved" "Z" ∈ bg_B := bg_c1 62 rfl rfl
theorem w_fl_X1_29 : Cond.fieldLink "SurvivorPurse$Member" 29 "SurvivorPurse$Member" "dead" "Z" ∈ bg_B := bg_c1 63 rfl rfl
theorem w_fl_X0_123 : Cond.fieldLink "SurvivorPurse$Book" 123 "SurvivorPurse$Member" "dead" "Z" ∈ bg_B := bg_c1 64 rfl rfl
theorem w_fl_X5_193 : Cond.fieldLink "SurvivorPurse" 193 "SurvivorPurse$Member" "dead" "Z" ∈ bg_B := bg_c1 65 rfl rfl
theorem w_fl_X1_32 : Cond.fieldLink "SurvivorPurse$Member" 32 "SurvivorPurse$Member" "died" "I" ∈ bg_B := bg_c1 66 rfl rfl
theorem w_fl_X0_169 : Cond.fieldLink "SurvivorPurse$Book" 169 "SurvivorPurse$Member" "died" "I" ∈ bg_B := bg_c1 67 rfl rfl
theorem w_fl_X5_230 : Cond.fieldLink "SurvivorPurse" 230 "SurvivorPurse$Member" "died" "I" ∈ bg_B := bg_c1 68 rfl rfl
theorem w_ni_X2 : Cond.instantiable "SurvivorPurse$Rank" 6 ∈ bg_B := bg_c1 84 rfl rfl
theorem w_ml_X0_41 : Cond.methodLinkNest "SurvivorPurse$Book" 41 yX2_init "SurvivorPurse" ∈ nestL := by decide +kernel
theorem w_im_yX2_init : Cond.instanceMethod yX2_init ∈ bg_B := bg_c1 86 rfl rfl
theorem w_co_yX2_init : Cond.code yX2_init cX2_init 1 none ∈ bg_B := bg_c1 87 rfl rfl
theorem w_ml_X2_1 : Cond.methodLink "SurvivorPurse$Rank" 1 objectInit ∈ bg_B := bg_c1 88 rfl rfl
theorem w_fl_X2_7 : Cond.fieldLink "SurvivorPurse$Rank" 7 "SurvivorPurse$Rank" "low" "I" ∈ bg_B := bg_c1 89 rfl rfl
theorem w_fl_X5_62 : Cond.fieldLink "SurvivorPurse" 62 "SurvivorPurse$Rank" "low" "I" ∈ bg_B := bg_c1 90 rfl rfl
theorem w_fl_X0_136 : Cond.fieldLink "SurvivorPurse$Book" 136 "SurvivorPurse$Rank" "low" "I" ∈ bg_B := bg_c1 91 rfl rfl
theorem w_fl_X2_13 : Cond.fieldLink "SurvivorPurse$Rank" 13 "SurvivorPurse$Rank" "high" "I" ∈ bg_B := bg_c1 92 rfl rfl
theorem w_fl_X0_139 : Cond.fieldLink "SurvivorPurse$Book" 139 "SurvivorPurse$Rank" "high" "I" ∈ bg_B := bg_c1 93 rfl rfl
theorem w_fl_X5_233 : Cond.fieldLink "SurvivorPurse" 233 "SurvivorPurse$Rank" "high" "I" ∈ bg_B := bg_c1 94 rfl rfl
theorem w_fl_X2_16 : Cond.fieldLink "SurvivorPurse$Rank" 16 "SurvivorPurse$Rank" "price" "I" ∈ bg_B := bg_c1 95 rfl rfl
theorem w_fl_X5_72 : Cond.fieldLink "SurvivorPurse" 72 "SurvivorPurse$Rank" "price" "I" ∈ bg_B := bg_c1 96 rfl rfl
theorem w_fl_X0_104 : Cond.fieldLink "SurvivorPurse$Book" 104 "SurvivorPurse$Rank" "price" "I" ∈ bg_B := bg_c1 97 rfl rfl
theorem w_fl_X2_19 : Cond.fieldLink "SurvivorPurse$Rank" 19 "SurvivorPurse$Rank" "stock" "J" ∈ bg_B := bg_c1 98 rfl rfl
theorem w_fl_X0_110 : Cond.fieldLink "SurvivorPurse$Book" 110 "SurvivorPurse$Rank" "stock" "J" ∈ bg_B := bg_c1 99 rfl rfl
theorem w_fl_X5_236 : Cond.fieldLink "SurvivorPurse" 236 "SurvivorPurse$Rank" "stock" "J" ∈ bg_B := bg_c1 100 rfl rfl
theorem w_fl_X2_23 : Cond.fieldLink "SurvivorPurse$Rank" 23 "SurvivorPurse$Rank" "toPart" "J" ∈ bg_B := bg_c1 101 rfl rfl
theorem w_fl_X0_235 : Cond.fieldLink "SurvivorPurse$Book" 235 "SurvivorPurse$Rank" "toPart" "J" ∈ bg_B := bg_c1 102 rfl rfl
theorem w_fl_X2_26 : Cond.fieldLink "SurvivorPurse$Rank" 26 "SurvivorPurse$Rank" "partUnits" "J" ∈ bg_B := bg_c1 103 rfl rfl
theorem w_fl_X0_232 : Cond.fieldLink "SurvivorPurse$Book" 232 "SurvivorPurse$Rank" "partUnits" "J" ∈ bg_B := bg_c1 104 rfl rfl
theorem w_ni_X3 : Cond.instantiable "SurvivorPurse$Share" 16 ∈ bg_B := bg_c1 118 rfl rfl
theorem w_ml_X0_42 : Cond.methodLinkNest "SurvivorPurse$Book" 42 yX3_init "SurvivorPurse" ∈ nestL := by decide +kernel
theorem w_im_yX3_init : Cond.instanceMethod yX3_init ∈ bg_B := bg_c1 120 rfl rfl
theorem w_co_yX3_init : Cond.code yX3_init cX3_init 1 none ∈ bg_B := bg_c1 121 rfl rfl
theorem w_ml_X3_3 : Cond.methodLink "SurvivorPurse$Share" 3 objectInit ∈ bg_B := bg_c1 122 rfl rfl
theorem w_fl_X0_89 : Cond.fieldLink "SurvivorPurse$Book" 89 "SurvivorPurse$Share" "holder" "I" ∈ bg_B := bg_c1 123 rfl rfl
theorem w_fl_X3_79 : Cond.fieldLink "SurvivorPurse$Share" 79 "SurvivorPurse$Share" "holder" "I" ∈ bg_B := bg_c1 124 rfl rfl
theorem w_fl_X5_144 : Cond.fieldLink "SurvivorPurse" 144 "SurvivorPurse$Share" "holder" "I" ∈ bg_B := bg_c1 125 rfl rfl
theorem w_fl_X3_51 : Cond.fieldLink "SurvivorPurse$Share" 51 "SurvivorPurse$Share" "life" "I" ∈ bg_B := bg_c1 126 rfl rfl
theorem w_fl_X0_92 : Cond.fieldLink "SurvivorPurse$Book" 92 "SurvivorPurse$Share" "life" "I" ∈ bg_B := bg_c1 127 rfl rfl
theorem w_fl_X5_162 : Cond.fieldLink "SurvivorPurse" 162 "SurvivorPurse$Share" "life" "I" ∈ bg_B := bg_c1 128 rfl rfl
theorem w_fl_X3_54 : Cond.fieldLink "SurvivorPurse$Share" 54 "SurvivorPurse$Share" "other" "I" ∈ bg_B := bg_c1 129 rfl rfl
theorem w_fl_X0_95 : Cond.fieldLink "SurvivorPurse$Book" 95 "SurvivorPurse$Share" "other" "I" ∈ bg_B := bg_c1 130 rfl rfl
theorem w_fl_X5_165 : Cond.fieldLink "SurvivorPurse" 165 "SurvivorPurse$Share" "other" "I" ∈ bg_B := bg_c1 131 rfl rfl
theorem w_fl_X0_98 : Cond.fieldLink "SurvivorPurse$Book" 98 "SurvivorPurse$Share" "units" "I" ∈ bg_B := bg_c1 132 rfl rfl
theorem w_fl_X3_82 : Cond.fieldLink "SurvivorPurse$Share" 82 "SurvivorPurse$Share" "units" "I" ∈ bg_B := bg_c1 133 rfl rfl
theorem w_fl_X5_147 : Cond.fieldLink "SurvivorPurse" 147 "SurvivorPurse$Share" "units" "I" ∈ bg_B := bg_c1 134 rfl rfl
theorem w_fl_X0_101 : Cond.fieldLink "SurvivorPurse$Book" 101 "SurvivorPurse$Share" "rank" "I" ∈ bg_B := bg_c1 135 rfl rfl
theorem w_fl_X3_85 : Cond.fieldLink "SurvivorPurse$Share" 85 "SurvivorPurse$Share" "rank" "I" ∈ bg_B := bg_c1 136 rfl rfl
theorem w_fl_X5_168 : Cond.fieldLink "SurvivorPurse" 168 "SurvivorPurse$Share" "rank" "I" ∈ bg_B := bg_c1 137 rfl rfl
theorem w_fl_X3_15 : Cond.fieldLink "SurvivorPurse$Share" 15 "SurvivorPurse$Share" "kind" "I" ∈ bg_B := bg_c1 138 rfl rfl
theorem w_fl_X5_133 : Cond.fieldLink "SurvivorPurse" 133 "SurvivorPurse$Share" "kind" "I" ∈ bg_B := bg_c1 139 rfl rfl
theorem w_fl_X0_249 : Cond.fieldLink "SurvivorPurse$Book" 249 "SurvivorPurse$Share" "kind" "I" ∈ bg_B := bg_c1 140 rfl rfl
theorem w_fl_X0_107 : Cond.fieldLink "SurvivorPurse$Book" 107 "SurvivorPurse$Share" "paid" "J" ∈ bg_B := bg_c1 141 rfl rfl
theorem w_fl_X3_88 : Cond.fieldLink "SurvivorPurse$Share" 88 "SurvivorPurse$Share" "paid" "J" ∈ bg_B := bg_c1 142 rfl rfl
theorem w_fl_X5_171 : Cond.fieldLink "SurvivorPurse" 171 "SurvivorPurse$Share" "paid" "J" ∈ bg_B := bg_c1 143 rfl rfl
theorem w_fl_X3_19 : Cond.fieldLink "SurvivorPurse$Share" 19 "SurvivorPurse$Share" "drawn" "J" ∈ bg_B := bg_c1 144 rfl rfl
theorem w_fl_X5_174 : Cond.fieldLink "SurvivorPurse" 174 "SurvivorPurse$Share" "drawn" "J" ∈ bg_B := bg_c1 145 rfl rfl
theorem w_fl_X0_194 : Cond.fieldLink "SurvivorPurse$Book" 194 "SurvivorPurse$Share" "drawn" "J" ∈ bg_B := bg_c1 146 rfl rfl
theorem w_fl_X3_23 : Cond.fieldLink "SurvivorPurse$Share" 23 "SurvivorPurse$Share" "since" "I" ∈ bg_B := bg_c1 147 rfl rfl
theorem w_fl_X5_180 : Cond.fieldLink "SurvivorPurse" 180 "SurvivorPurse$Share" "since" "I" ∈ bg_B := bg_c1 148 rfl rfl
theorem w_fl_X3_26 : Cond.fieldLink "SurvivorPurse$Share" 26 "SurvivorPurse$Share" "sureUntil" "I" ∈ bg_B := bg_c1 149 rfl rfl
theorem w_fl_X5_138 : Cond.fieldLink "SurvivorPurse" 138 "SurvivorPurse$Share" "sureUntil" "I" ∈ bg_B := bg_c1 150 rfl rfl
theorem w_fl_X0_155 : Cond.fieldLink "SurvivorPurse$Book" 155 "SurvivorPurse$Share" "sureUntil" "I" ∈ bg_B := bg_c1 151 rfl rfl
theorem w_fl_X3_29 : Cond.fieldLink "SurvivorPurse$Share" 29 "SurvivorPurse$Share" "unproved" "I" ∈ bg_B := bg_c1 152 rfl rfl
theorem w_fl_X5_183 : Cond.fieldLink "SurvivorPurse" 183 "SurvivorPurse$Share" "unproved" "I" ∈ bg_B := bg_c1 153 rfl rfl
theorem w_fl_X0_162 : Cond.fieldLink "SurvivorPurse$Book" 162 "SurvivorPurse$Share" "unproved" "I" ∈ bg_B := bg_c1 154 rfl rfl
theorem w_fl_X3_32 : Cond.fieldLink "SurvivorPurse$Share" 32 "SurvivorPurse$Share" "pledged" "J" ∈ bg_B := bg_c1 155 rfl rfl
theorem w_fl_X5_155 : Cond.fieldLink "SurvivorPurse" 155 "SurvivorPurse$Share" "pledged" "J" ∈ bg_B := bg_c1 156 rfl rfl
theorem w_fl_X0_188 : Cond.fieldLink "SurvivorPurse$Book" 188 "SurvivorPurse$Share" "pledged" "J" ∈ bg_B := bg_c1 157 rfl rfl
theorem w_fl_X3_35 : Cond.fieldLink "SurvivorPurse$Share" 35 "SurvivorPurse$Share" "pledgedTo" "I" ∈ bg_B := bg_c1 158 rfl rfl
theorem w_fl_X5_159 : Cond.fieldLink "SurvivorPurse" 159 "SurvivorPurse$Share" "pledgedTo" "I" ∈ bg_B := bg_c1 159 rfl rfl
theorem w_fl_X0_185 : Cond.fieldLink "SurvivorPurse$Book" 185 "SurvivorPurse$Share" "pledgedTo" "I" ∈ bg_B := bg_c1 160 rfl rfl
theorem w_fl_X3_38 : Cond.fieldLink "SurvivorPurse$Share" 38 "SurvivorPurse$Share" "backWent" "Z" ∈ bg_B := bg_c1 161 rfl rfl
theorem w_fl_X0_252 : Cond.fieldLink "SurvivorPurse$Book" 252 "SurvivorPurse$Share" "backWent" "Z" ∈ bg_B := bg_c1 162 rfl rfl
theorem w_fl_X3_42 : Cond.fieldLink "SurvivorPurse$Share" 42 "SurvivorPurse$Share" "heldFrom" "I" ∈ bg_B := bg_c1 163 rfl rfl
theorem w_fl_X0_246 : Cond.fieldLink "SurvivorPurse$Book" 246 "SurvivorPurse$Share" "heldFrom" "I" ∈ bg_B := bg_c1 164 rfl rfl
theorem w_fl_X3_9 : Cond.fieldLink "SurvivorPurse$Share" 9 "SurvivorPurse$Share" "draws" "[J" ∈ bg_B := bg_c1 165 rfl rfl
theorem w_fl_X0_12 : Cond.fieldLink "SurvivorPurse$Book" 12 "SurvivorPurse$Book" "table" "LSurvivorPurse$Table;" ∈ bg_B := bg_c1 200 rfl rfl
theorem w_fl_X5_24 : Cond.fieldLink "SurvivorPurse" 24 "SurvivorPurse$Book" "table" "LSurvivorPurse$Table;" ∈ bg_B := bg_c1 201 rfl rfl
theorem w_fl_X0_20 : Cond.fieldLink "SurvivorPurse$Book" 20 "SurvivorPurse$Book" "members" "[LSurvivorPurse$Member;" ∈ bg_B := bg_c1 202 rfl rfl
theorem w_fl_X5_88 : Cond.fieldLink "SurvivorPurse" 88 "SurvivorPurse$Book" "members" "[LSurvivorPurse$Member;" ∈ bg_B := bg_c1 203 rfl rfl
theorem w_fl_X0_26 : Cond.fieldLink "SurvivorPurse$Book" 26 "SurvivorPurse$Book" "ranks" "[LSurvivorPurse$Rank;" ∈ bg_B := bg_c1 204 rfl rfl
theorem w_fl_X5_58 : Cond.fieldLink "SurvivorPurse" 58 "SurvivorPurse$Book" "ranks" "[LSurvivorPurse$Rank;" ∈ bg_B := bg_c1 205 rfl rfl
theorem w_fl_X0_32 : Cond.fieldLink "SurvivorPurse$Book" 32 "SurvivorPurse$Book" "shares" "[LSurvivorPurse$Share;" ∈ bg_B := bg_c1 206 rfl rfl
theorem w_fl_X5_129 : Cond.fieldLink "SurvivorPurse" 129 "SurvivorPurse$Book" "shares" "[LSurvivorPurse$Share;" ∈ bg_B := bg_c1 207 rfl rfl
theorem w_fl_X0_47 : Cond.fieldLink "SurvivorPurse$Book" 47 "SurvivorPurse$Book" "memberCount" "I" ∈ bg_B := bg_c1 208 rfl rfl
theorem w_fl_X5_78 : Cond.fieldLink "SurvivorPurse" 78 "SurvivorPurse$Book" "memberCount" "I" ∈ bg_B := bg_c1 209 rfl rfl
theorem w_fl_X0_50 : Cond.fieldLink "SurvivorPurse$Book" 50 "SurvivorPurse$Book" "rankCount" "I" ∈ bg_B := bg_c1 210 rfl rfl
theorem w_fl_X5_101 : Cond.fieldLink "SurvivorPurse" 101 "SurvivorPurse$Book" "rankCount" "I" ∈ bg_B := bg_c1 211 rfl rfl
theorem w_fl_X0_53 : Cond.fieldLink "SurvivorPurse$Book" 53 "SurvivorPurse$Book" "shareCount" "I" ∈ bg_B := bg_c1 212 rfl rfl
theorem w_fl_X5_122 : Cond.fieldLink "SurvivorPurse" 122 "SurvivorPurse$Book" "shareCount" "I" ∈ bg_B := bg_c1 213 rfl rfl
theorem w_fl_X0_56 : Cond.fieldLink "SurvivorPurse$Book" 56 "SurvivorPurse$Book" "year" "I" ∈ bg_B := bg_c1 214 rfl rfl
theorem w_fl_X5_75 : Cond.fieldLink "SurvivorPurse" 75 "SurvivorPurse$Book" "year" "I" ∈ bg_B := bg_c1 215 rfl rfl
theorem w_fl_X0_36 : Cond.fieldLink "SurvivorPurse$Book" 36 "SurvivorPurse$Book" "patience" "I" ∈ bg_B := bg_c1 216 rfl rfl
theorem w_fl_X5_108 : Cond.fieldLink "SurvivorPurse" 108 "SurvivorPurse$Book" "patience" "I" ∈ bg_B := bg_c1 217 rfl rfl
theorem w_fl_X0_59 : Cond.fieldLink "SurvivorPurse$Book" 59 "SurvivorPurse$Book" "tax" "I" ∈ bg_B := bg_c1 218 rfl rfl
theorem w_fl_X5_111 : Cond.fieldLink "SurvivorPurse" 111 "SurvivorPurse$Book" "tax" "I" ∈ bg_B := bg_c1 219 rfl rfl
theorem w_fl_X0_62 : Cond.fieldLink "SurvivorPurse$Book" 62 "SurvivorPurse$Book" "carry" "J" ∈ bg_B := bg_c1 220 rfl rfl
theorem w_fl_X5_245 : Cond.fieldLink "SurvivorPurse" 245 "SurvivorPurse$Book" "carry" "J" ∈ bg_B := bg_c1 221 rfl rfl
theorem w_fl_X0_66 : Cond.fieldLink "SurvivorPurse$Book" 66 "SurvivorPurse$Book" "taxes" "J" ∈ bg_B := bg_c1 222 rfl rfl
theorem w_fl_X5_248 : Cond.fieldLink "SurvivorPurse" 248 "SurvivorPurse$Book" "taxes" "J" ∈ bg_B := bg_c1 223 rfl rfl
theorem w_fl_X0_69 : Cond.fieldLink "SurvivorPurse$Book" 69 "SurvivorPurse$Book" "cameIn" "J" ∈ bg_B := bg_c1 224 rfl rfl
theorem w_fl_X5_263 : Cond.fieldLink "SurvivorPurse" 263 "SurvivorPurse$Book" "cameIn" "J" ∈ bg_B := bg_c1 225 rfl rfl
theorem w_fl_X5_10 : Cond.fieldLink "SurvivorPurse" 10 "SurvivorPurse" "book" "LSurvivorPurse$Book;" ∈ bg_B := bg_c2 13 rfl rfl
theorem w_fl_X5_16 : Cond.fieldLink "SurvivorPurse" 16 "SurvivorPurse" "kept" "LSurvivorPurse$Book;" ∈ bg_B := bg_c2 14 rfl rfl
theorem w_ml_L_13 : Cond.methodLink "SurvivorPurseLaw" 13 yX5_living ∈ bg_B := bg_c2 20 rfl rfl
theorem w_im_yX5_living : Cond.instanceMethod yX5_living ∈ bg_B := bg_c2 21 rfl rfl
theorem w_se_yX5_living : Cond.selects "SurvivorPurse" yX5_living yX5_living ∈ bg_B := bg_c2 22 rfl rfl
theorem w_co_yX5_living : Cond.code yX5_living cX5_living 3 (some .long) ∈ bg_B := bg_c2 23 rfl rfl
theorem w_ml_X5_19 : Cond.methodLink "SurvivorPurse" 19 yX5_isAge ∈ bg_B := bg_c2 24 rfl rfl
theorem w_st_yX5_isAge : Cond.static yX5_isAge ∈ bg_B := bg_c2 25 rfl rfl
theorem w_co_yX5_isAge : Cond.code yX5_isAge cX5_isAge 1 (some .boolean) ∈ bg_B := bg_c2 26 rfl rfl
theorem w_ml_X5_97 : Cond.methodLink "SurvivorPurse" 97 yX5_isWithin ∈ bg_B := bg_c2 27 rfl rfl
theorem w_st_yX5_isWithin : Cond.static yX5_isWithin ∈ bg_B := bg_c2 28 rfl rfl
theorem w_co_yX5_isWithin : Cond.code yX5_isWithin cX5_isWithin 3 (some .boolean) ∈ bg_B := bg_c2 29 rfl rfl
theorem w_ki_X5_23 : Cond.constant "SurvivorPurse" 23 (100000) ∈ bg_B := bg_c2 30 rfl rfl
theorem w_ml_X5_28 : Cond.methodLink "SurvivorPurse" 28 yX4_fits ∈ bg_B := bg_c2 31 rfl rfl
theorem w_im_yX4_fits : Cond.instanceMethod yX4_fits ∈ bg_B := bg_c2 32 rfl rfl
theorem w_se_yX4_fits : Cond.selects "SurvivorPurse$Table" yX4_fits yX4_fits ∈ bg_B := bg_c2 33 rfl rfl
theorem w_co_yX4_fits : Cond.code yX4_fits cX4_fits 5 (some .boolean) ∈ bg_B := bg_c2 34 rfl rfl
theorem w_ml_X4_20 : Cond.methodLink "SurvivorPurse$Table" 20 yX4_at ∈ bg_B := bg_c2 35 rfl rfl
theorem w_im_yX4_at : Cond.instanceMethod yX4_at ∈ bg_B := bg_c2 36 rfl rfl
theorem w_se_yX4_at : Cond.selects "SurvivorPurse$Table" yX4_at yX4_at ∈ bg_B := bg_c2 37 rfl rfl
theorem w_co_yX4_at : Cond.code yX4_at cX4_at 2 (some .long) ∈ bg_B := bg_c2 38 rfl rfl
theorem w_ml_X4_16 : Cond.methodLinkNest "SurvivorPurse$Table" 16 yX5_isAge "SurvivorPurse" ∈ nestL := by decide +kernel
theorem w_kl_X5_34 : Cond.constantLong "SurvivorPurse" 34 (-1000000000000000) ∈ bg_B := bg_c2 40 rfl rfl
theorem w_ml_X5_36 : Cond.methodLink "SurvivorPurse" 36 yX4_replace ∈ bg_B := bg_c2 41 rfl rfl
theorem w_im_yX4_replace : Cond.instanceMethod yX4_replace ∈ bg_B := bg_c2 42 rfl rfl
theorem w_se_yX4_replace : Cond.selects "SurvivorPurse$Table" yX4_replace yX4_replace ∈ bg_B := bg_c2 43 rfl rfl
theorem w_co_yX4_replace : Cond.code yX4_replace cX4_replace 5 (some .long) ∈ bg_B := bg_c2 44 rfl rfl
theorem w_ml_L_18 : Cond.methodLink "SurvivorPurseLaw" 18 yX5_foretell ∈ bg_B := bg_c2 45 rfl rfl
theorem w_im_yX5_foretell : Cond.instanceMethod yX5_foretell ∈ bg_B := bg_c2 46 rfl rfl
theorem w_se_yX5_foretell : Cond.selects "SurvivorPurse" yX5_foretell yX5_foretell ∈ bg_B := bg_c2 47 rfl rfl
theorem w_co_yX5_foretell : Cond.code yX5_foretell cX5_foretell 3 (some .long) ∈ bg_B := bg_c2 48 rfl rfl
theorem w_kl_X5_40 : Cond.constantLong "SurvivorPurse" 40 (1000000) ∈ bg_B := bg_c2 49 rfl rfl
theorem w_ml_X5_42 : Cond.methodLink "SurvivorPurse" 42 yX4_at ∈ bg_B := bg_c2 50 rfl rfl
theorem w_ml_X5_46 : Cond.methodLink "SurvivorPurse" 46 yX5_parted ∈ bg_B := bg_c2 51 rfl rfl
theorem w_st_yX5_parted : Cond.static yX5_parted ∈ bg_B := bg_c2 52 rfl rfl
theorem w_co_yX5_parted : Cond.code yX5_parted cX5_parted 6 (some .long) ∈ bg_B := bg_c2 53 rfl rfl
theorem w_ml_L_22 : Cond.methodLink "SurvivorPurseLaw" 22 yX5_mean ∈ bg_B := bg_c2 54 rfl rfl
theorem w_im_yX5_mean : Cond.instanceMethod yX5_mean ∈ bg_B := bg_c2 55 rfl rfl
theorem w_se_yX5_mean : Cond.selects "SurvivorPurse" yX5_mean yX5_mean ∈ bg_B := bg_c2 56 rfl rfl
theorem w_co_yX5_mean : Cond.code yX5_mean cX5_mean 2 (some .long) ∈ bg_B := bg_c2 57 rfl rfl
theorem w_kl_X5_50 : Cond.constantLong "SurvivorPurse" 50 (1000) ∈ bg_B := bg_c2 58 rfl rfl
theorem w_ml_X5_52 : Cond.methodLink "SurvivorPurse" 52 yX4_sumAbove ∈ bg_B := bg_c2 59 rfl rfl
theorem w_im_yX4_sumAbove : Cond.instanceMethod yX4_sumAbove ∈ bg_B := bg_c2 60 rfl rfl
theorem w_se_yX4_sumAbove : Cond.selects "SurvivorPurse$Table" yX4_sumAbove yX4_sumAbove ∈ bg_B := bg_c2 61 rfl rfl
theorem w_co_yX4_sumAbove : Cond.code yX4_sumAbove cX4_sumAbove 5 (some .long) ∈ bg_B := bg_c2 62 rfl rfl
theorem w_ml_L_27 : Cond.methodLink "SurvivorPurseLaw" 27 yX5_dearer ∈ bg_B := bg_c2 63 rfl rfl
theorem w_im_yX5_dearer : Cond.instanceMethod yX5_dearer ∈ bg_B := bg_c2 64 rfl rfl
theorem w_se_yX5_dearer : Cond.selects "SurvivorPurse" yX5_dearer yX5_dearer ∈ bg_B := bg_c2 65 rfl rfl
theorem w_co_yX5_dearer : Cond.code yX5_dearer cX5_dearer 9 (some .long) ∈ bg_B := bg_c2 66 rfl rfl
theorem w_ml_X5_55 : Cond.methodLink "SurvivorPurse" 55 yX0_isRank ∈ bg_B := bg_c2 67 rfl rfl
theorem w_im_yX0_isRank : Cond.instanceMethod yX0_isRank ∈ bg_B := bg_c2 68 rfl rfl
theorem w_se_yX0_isRank : Cond.selects "SurvivorPurse$Book" yX0_isRank yX0_isRank ∈ bg_B := bg_c2 69 rfl rfl
theorem w_co_yX0_isRank : Cond.code yX0_isRank cX0_isRank 2 (some .boolean) ∈ bg_B := bg_c2 70 rfl rfl
theorem w_ml_X5_68 : Cond.methodLink "SurvivorPurse" 68 yX5_sign ∈ bg_B := bg_c2 71 rfl rfl
theorem w_st_yX5_sign : Cond.static yX5_sign ∈ bg_B := bg_c2 72 rfl rfl
theorem w_co_yX5_sign : Cond.code yX5_sign cX5_sign 4 (some .long) ∈ bg_B := bg_c2 73 rfl rfl
theorem w_kl_X5_270 : Cond.constantLong "SurvivorPurse" 270 (-1) ∈ bg_B := bg_c2 74 rfl rfl
theorem w_ml_L_31 : Cond.methodLink "SurvivorPurseLaw" 31 yX5_member ∈ bg_B := bg_c2 75 rfl rfl
theorem w_im_yX5_member : Cond.instanceMethod yX5_member ∈ bg_B := bg_c2 76 rfl rfl
theorem w_se_yX5_member : Cond.selects "SurvivorPurse" yX5_member yX5_member ∈ bg_B := bg_c2 77 rfl rfl
theorem w_co_yX5_member : Cond.code yX5_member cX5_member 2 (some .long) ∈ bg_B := bg_c2 78 rfl rfl
theorem w_ml_X5_81 : Cond.methodLink "SurvivorPurse" 81 yX0_addMember ∈ bg_B := bg_c2 79 rfl rfl
theorem w_im_yX0_addMember : Cond.instanceMethod yX0_addMember ∈ bg_B := bg_c2 80 rfl rfl
theorem w_se_yX0_addMember : Cond.selects "SurvivorPurse$Book" yX0_addMember yX0_addMember ∈ bg_B := bg_c2 81 rfl rfl
theorem w_co_yX0_addMember : Cond.code yX0_addMember cX0_addMember 2 (some .int) ∈ bg_B := bg_c2 82 rfl rfl
theorem w_ml_X0_81 : Cond.methodLink "SurvivorPurse$Book" 81 yX1_begin ∈ bg_B := bg_c2 83 rfl rfl
theorem w_im_yX1_begin : Cond.instanceMethod yX1_begin ∈ bg_B := bg_c2 84 rfl rfl
theorem w_se_yX1_begin : Cond.selects "SurvivorPurse$Member" yX1_begin yX1_begin ∈ bg_B := bg_c2 85 rfl rfl
theorem w_co_yX1_begin : Cond.code yX1_begin cX1_begin 2 none ∈ bg_B := bg_c2 86 rfl rfl
theorem w_ml_L_35 : Cond.methodLink "SurvivorPurseLaw" 35 yX5_heir ∈ bg_B := bg_c2 87 rfl rfl
theorem w_im_yX5_heir : Cond.instanceMethod yX5_heir ∈ bg_B := bg_c2 88 rfl rfl
theorem w_se_yX5_heir : Cond.selects "SurvivorPurse" yX5_heir yX5_heir ∈ bg_B := bg_c2 89 rfl rfl
theorem w_co_yX5_heir : Cond.code yX5_heir cX5_heir 4 (some .long) ∈ bg_B := bg_c2 90 rfl rfl
theorem w_ml_X5_85 : Cond.methodLink "SurvivorPurse" 85 yX0_isMember ∈ bg_B := bg_c2 91 rfl rfl
theorem w_im_yX0_isMember : Cond.instanceMethod yX0_isMember ∈ bg_B := bg_c2 92 rfl rfl
theorem w_se_yX0_isMember : Cond.selects "SurvivorPurse$Book" yX0_isMember yX0_isMember ∈ bg_B := bg_c2 93 rfl rfl
theorem w_co_yX0_isMember : Cond.code yX0_isMember cX0_isMember 2 (some .boolean) ∈ bg_B := bg_c2 94 rfl rfl
theorem w_ml_L_39 : Cond.methodLink "SurvivorPurseLaw" 39 yX5_group ∈ bg_B := bg_c2 95 rfl rfl
theorem w_im_yX5_group : Cond.instanceMethod yX5_group ∈ bg_B := bg_c2 96 rfl rfl
theorem w_se_yX5_group : Cond.selects "SurvivorPurse" yX5_group yX5_group ∈ bg_B := bg_c2 97 rfl rfl
theorem w_co_yX5_group : Cond.code yX5_group cX5_group 4 (some .long) ∈ bg_B := bg_c2 98 rfl rfl
theorem w_ml_X5_104 : Cond.methodLink "SurvivorPurse" 104 yX0_addRank ∈ bg_B := bg_c2 99 rfl rfl
theorem w_im_yX0_addRank : Cond.instanceMethod yX0_addRank ∈ bg_B := bg_c2 100 rfl rfl
theorem w_se_yX0_addRank : Cond.selects "SurvivorPurse$Book" yX0_addRank yX0_addRank ∈ bg_B := bg_c2 101 rfl rfl
theorem w_co_yX0_addRank : Cond.code yX0_addRank cX0_addRank 4 (some .int) ∈ bg_B := bg_c2 102 rfl rfl
theorem w_ml_X0_85 : Cond.methodLink "SurvivorPurse$Book" 85 yX2_begin ∈ bg_B := bg_c2 103 rfl rfl
theorem w_im_yX2_begin : Cond.instanceMethod yX2_begin ∈ bg_B := bg_c2 104 rfl rfl
theorem w_se_yX2_begin : Cond.selects "SurvivorPurse$Rank" yX2_begin yX2_begin ∈ bg_B := bg_c2 105 rfl rfl
theorem w_co_yX2_begin : Cond.code yX2_begin cX2_begin 4 none ∈ bg_B := bg_c2 106 rfl rfl
theorem w_ml_L_44 : Cond.methodLink "SurvivorPurseLaw" 44 yX5_set ∈ bg_B := bg_c2 107 rfl rfl
theorem w_im_yX5_set : Cond.instanceMethod yX5_set ∈ bg_B := bg_c2 108 rfl rfl
theorem w_se_yX5_set : Cond.selects "SurvivorPurse" yX5_set yX5_set ∈ bg_B := bg_c2 109 rfl rfl
theorem w_co_yX5_set : Cond.code yX5_set cX5_set 4 (some .long) ∈ bg_B := bg_c2 110 rfl rfl
theorem w_ml_L_48 : Cond.methodLink "SurvivorPurseLaw" 48 yX5_buy ∈ bg_B := bg_c2 111 rfl rfl
theorem w_im_yX5_buy : Cond.instanceMethod yX5_buy ∈ bg_B := bg_c2 112 rfl rfl
theorem w_se_yX5_buy : Cond.selects "SurvivorPurse" yX5_buy yX5_buy ∈ bg_B := bg_c2 113 rfl rfl
theorem w_co_yX5_buy : Cond.code yX5_buy cX5_buy 11 (some .long) ∈ bg_B := bg_c2 114 rfl rfl
theorem w_ml_X5_114 : Cond.methodLink "SurvivorPurse" 114 yX0_canBeLives ∈ bg_B := bg_c2 115 rfl rfl
theorem w_im_yX0_canBeLives : Cond.instanceMethod yX0_canBeLives ∈ bg_B := bg_c2 116 rfl rfl
theorem w_se_yX0_canBeLives : Cond.selects "SurvivorPurse$Book" yX0_canBeLives yX0_canBeLives ∈ bg_B := bg_c2 117 rfl rfl
theorem w_co_yX0_canBeLives : Cond.code yX0_canBeLives cX0_canBeLives 4 (some .boolean) ∈ bg_B := bg_c2 118 rfl rfl
theorem w_ml_X0_119 : Cond.methodLink "SurvivorPurse$Book" 119 yX0_isMember ∈ bg_B := bg_c2 119 rfl rfl
theorem w_ml_X5_118 : Cond.methodLink "SurvivorPurse" 118 yX0_rankFor ∈ bg_B := bg_c2 120 rfl rfl
theorem w_im_yX0_rankFor : Cond.instanceMethod yX0_rankFor ∈ bg_B := bg_c2 121 rfl rfl
theorem w_se_yX0_rankFor : Cond.selects "SurvivorPurse$Book" yX0_rankFor yX0_rankFor ∈ bg_B := bg_c2 122 rfl rfl
theorem w_co_yX0_rankFor : Cond.code yX0_rankFor cX0_rankFor 5 (some .int) ∈ bg_B := bg_c2 123 rfl rfl
theorem w_ml_X0_130 : Cond.methodLink "SurvivorPurse$Book" 130 yJ9_max_7cf53 ∈ bg_B := bg_c2 124 rfl rfl
theorem w_st_yJ9_max_7cf53 : Cond.static yJ9_max_7cf53 ∈ bg_B := bg_c2 125 rfl rfl
theorem w_co_yJ9_max_7cf53 : Cond.code yJ9_max_7cf53 cJ9_max_7cf53 2 (some .int) ∈ bg_B := bg_c2 126 rfl rfl
theorem w_ml_X0_142 : Cond.methodLinkNest "SurvivorPurse$Book" 142 yX5_isWithin "SurvivorPurse" ∈ nestL := by decide +kernel
theorem w_ml_X5_125 : Cond.methodLink "SurvivorPurse" 125 yX0_addShare ∈ bg_B := bg_c2 128 rfl rfl
theorem w_im_yX0_addShare : Cond.instanceMethod yX0_addShare ∈ bg_B := bg_c2 129 rfl rfl
theorem w_se_yX0_addShare : Cond.selects "SurvivorPurse$Book" yX0_addShare yX0_addShare ∈ bg_B := bg_c2 130 rfl rfl
theorem w_co_yX0_addShare : Cond.code yX0_addShare cX0_addShare 7 (some .int) ∈ bg_B := bg_c2 131 rfl rfl
theorem w_ml_X0_88 : Cond.methodLink "SurvivorPurse$Book" 88 yX3_begin ∈ bg_B := bg_c2 132 rfl rfl
theorem w_im_yX3_begin : Cond.instanceMethod yX3_begin ∈ bg_B := bg_c2 133 rfl rfl
theorem w_se_yX3_begin : Cond.selects "SurvivorPurse$Share" yX3_begin yX3_begin ∈ bg_B := bg_c2 134 rfl rfl
theorem w_co_yX3_begin : Cond.code yX3_begin cX3_begin 2 none ∈ bg_B := bg_c2 135 rfl rfl
theorem w_ml_X3_45 : Cond.methodLink "SurvivorPurse$Share" 45 yJ7_fill_d0a16 ∈ bg_B := bg_c2 136 rfl rfl
theorem w_st_yJ7_fill_d0a16 : Cond.static yJ7_fill_d0a16 ∈ bg_B := bg_c2 137 rfl rfl
theorem w_co_yJ7_fill_d0a16 : Cond.code yJ7_fill_d0a16 cJ7_fill_d0a16 5 none ∈ bg_B := bg_c2 138 rfl rfl
theorem w_ml_L_53 : Cond.methodLink "SurvivorPurseLaw" 53 yX5_sell ∈ bg_B := bg_c2 139 rfl rfl
theorem w_im_yX5_sell : Cond.instanceMethod yX5_sell ∈ bg_B := bg_c2 140 rfl rfl
theorem w_se_yX5_sell : Cond.selects "SurvivorPurse" yX5_sell yX5_sell ∈ bg_B := bg_c2 141 rfl rfl
theorem w_co_yX5_sell : Cond.code yX5_sell cX5_sell 4 (some .long) ∈ bg_B := bg_c2 142 rfl rfl
theorem w_ml_X5_141 : Cond.methodLink "SurvivorPurse" 141 yX0_isShare ∈ bg_B := bg_c2 143 rfl rfl
theorem w_im_yX0_isShare : Cond.instanceMethod yX0_isShare ∈ bg_B := bg_c2 144 rfl rfl
theorem w_se_yX0_isShare : Cond.selects "SurvivorPurse$Book" yX0_isShare yX0_isShare ∈ bg_B := bg_c2 145 rfl rfl
theorem w_co_yX0_isShare : Cond.code yX0_isShare cX0_isShare 2 (some .boolean) ∈ bg_B := bg_c2 146 rfl rfl
theorem w_ml_L_57 : Cond.methodLink "SurvivorPurseLaw" 57 yX5_split ∈ bg_B := bg_c2 147 rfl rfl
theorem w_im_yX5_split : Cond.instanceMethod yX5_split ∈ bg_B := bg_c2 148 rfl rfl
theorem w_se_yX5_split : Cond.selects "SurvivorPurse" yX5_split yX5_split ∈ bg_B := bg_c2 149 rfl rfl
theorem w_co_yX5_split : Cond.code yX5_split cX5_split 3 (some .long) ∈ bg_B := bg_c2 150 rfl rfl
theorem w_ml_X5_150 : Cond.methodLink "SurvivorPurse" 150 yX0_addPart ∈ bg_B := bg_c2 151 rfl rfl
theorem w_im_yX0_addPart : Cond.instanceMethod yX0_addPart ∈ bg_B := bg_c2 152 rfl rfl
theorem w_se_yX0_addPart : Cond.selects "SurvivorPurse$Book" yX0_addPart yX0_addPart ∈ bg_B := bg_c2 153 rfl rfl
theorem w_co_yX0_addPart : Cond.code yX0_addPart cX0_addPart 4 (some .int) ∈ bg_B := bg_c2 154 rfl rfl
theorem w_ml_X0_78 : Cond.methodLink "SurvivorPurse$Book" 78 yX3_copyFrom ∈ bg_B := bg_c2 155 rfl rfl
theorem w_im_yX3_copyFrom : Cond.instanceMethod yX3_copyFrom ∈ bg_B := bg_c2 156 rfl rfl
theorem w_se_yX3_copyFrom : Cond.selects "SurvivorPurse$Share" yX3_copyFrom yX3_copyFrom ∈ bg_B := bg_c2 157 rfl rfl
theorem w_co_yX3_copyFrom : Cond.code yX3_copyFrom cX3_copyFrom 2 none ∈ bg_B := bg_c2 158 rfl rfl
theorem w_ml_X3_91 : Cond.methodLink "SurvivorPurse$Share" 91 arraycopyName ∈ bg_B := bg_c2 159 rfl rfl
theorem w_st_arraycopyName : Cond.static arraycopyName ∈ bg_B := bg_c2 160 rfl rfl
theorem w_na_arraycopyName : Cond.native arraycopyName ∈ bg_B := bg_c2 161 rfl rfl
theorem w_ml_X0_113 : Cond.methodLink "SurvivorPurse$Book" 113 yX3_shrinkTo ∈ bg_B := bg_c2 162 rfl rfl
theorem w_im_yX3_shrinkTo : Cond.instanceMethod yX3_shrinkTo ∈ bg_B := bg_c2 163 rfl rfl
theorem w_se_yX3_shrinkTo : Cond.selects "SurvivorPurse$Share" yX3_shrinkTo yX3_shrinkTo ∈ bg_B := bg_c2 164 rfl rfl
theorem w_co_yX3_shrinkTo : Cond.code yX3_shrinkTo cX3_shrinkTo 3 none ∈ bg_B := bg_c2 165 rfl rfl
theorem w_ml_X3_97 : Cond.methodLinkNest "SurvivorPurse$Share" 97 yX5_parted "SurvivorPurse" ∈ nestL := by decide +kernel
theorem w_ml_X0_116 : Cond.methodLink "SurvivorPurse$Book" 116 yX3_loseTo ∈ bg_B := bg_c2 167 rfl rfl
theorem w_im_yX3_loseTo : Cond.instanceMethod yX3_loseTo ∈ bg_B := bg_c2 168 rfl rfl
theorem w_se_yX3_loseTo : Cond.selects "SurvivorPurse$Share" yX3_loseTo yX3_loseTo ∈ bg_B := bg_c2 169 rfl rfl
theorem w_co_yX3_loseTo : Cond.code yX3_loseTo cX3_loseTo 3 none ∈ bg_B := bg_c2 170 rfl rfl
theorem w_ml_L_61 : Cond.methodLink "SurvivorPurseLaw" 61 yX5_pledge ∈ bg_B := bg_c2 171 rfl rfl
theorem w_im_yX5_pledge : Cond.instanceMethod yX5_pledge ∈ bg_B := bg_c2 172 rfl rfl
theorem w_se_yX5_pledge : Cond.selects "SurvivorPurse" yX5_pledge yX5_pledge ∈ bg_B := bg_c2 173 rfl rfl
theorem w_co_yX5_pledge : Cond.code yX5_pledge cX5_pledge 7 (some .long) ∈ bg_B := bg_c2 174 rfl rfl
theorem w_ki_X5_154 : Cond.constant "SurvivorPurse" 154 (1000000000) ∈ bg_B := bg_c2 175 rfl rfl
theorem w_ml_L_65 : Cond.methodLink "SurvivorPurseLaw" 65 yX5_share ∈ bg_B := bg_c2 176 rfl rfl
theorem w_im_yX5_share : Cond.instanceMethod yX5_share ∈ bg_B := bg_c2 177 rfl rfl
theorem w_se_yX5_share : Cond.selects "SurvivorPurse" yX5_share yX5_share ∈ bg_B := bg_c2 178 rfl rfl
theorem w_co_yX5_share : Cond.code yX5_share cX5_share 4 (some .long) ∈ bg_B := bg_c2 179 rfl rfl
theorem w_ml_X5_177 : Cond.methodLink "SurvivorPurse" 177 yX3_heldAt ∈ bg_B := bg_c2 180 rfl rfl
theorem w_im_yX3_heldAt : Cond.instanceMethod yX3_heldAt ∈ bg_B := bg_c2 181 rfl rfl
theorem w_se_yX3_heldAt : Cond.selects "SurvivorPurse$Share" yX3_heldAt yX3_heldAt ∈ bg_B := bg_c2 182 rfl rfl
theorem w_co_yX3_heldAt : Cond.code yX3_heldAt cX3_heldAt 2 (some .long) ∈ bg_B := bg_c2 183 rfl rfl
theorem w_ml_X3_63 : Cond.methodLink "SurvivorPurse$Share" 63 yX3_drewIn ∈ bg_B := bg_c2 184 rfl rfl
theorem w_im_yX3_drewIn : Cond.instanceMethod yX3_drewIn ∈ bg_B := bg_c2 185 rfl rfl
theorem w_se_yX3_drewIn : Cond.selects "SurvivorPurse$Share" yX3_drewIn yX3_drewIn ∈ bg_B := bg_c2 186 rfl rfl
theorem w_co_yX3_drewIn : Cond.code yX3_drewIn cX3_drewIn 6 (some .long) ∈ bg_B := bg_c2 187 rfl rfl
theorem w_ml_X3_57 : Cond.methodLink "SurvivorPurse$Share" 57 yJ9_max_7cf53 ∈ bg_B := bg_c2 188 rfl rfl
theorem w_ml_X5_186 : Cond.methodLink "SurvivorPurse" 186 yX0_howItIs ∈ bg_B := bg_c2 189 rfl rfl
theorem w_im_yX0_howItIs : Cond.instanceMethod yX0_howItIs ∈ bg_B := bg_c2 190 rfl rfl
theorem w_se_yX0_howItIs : Cond.selects "SurvivorPurse$Book" yX0_howItIs yX0_howItIs ∈ bg_B := bg_c2 191 rfl rfl
theorem w_co_yX0_howItIs : Cond.code yX0_howItIs cX0_howItIs 2 (some .int) ∈ bg_B := bg_c2 192 rfl rfl
theorem w_ml_X0_152 : Cond.methodLink "SurvivorPurse$Book" 152 yX0_isProved ∈ bg_B := bg_c2 193 rfl rfl
theorem w_im_yX0_isProved : Cond.instanceMethod yX0_isProved ∈ bg_B := bg_c2 194 rfl rfl
theorem w_se_yX0_isProved : Cond.selects "SurvivorPurse$Book" yX0_isProved yX0_isProved ∈ bg_B := bg_c2 195 rfl rfl
theorem w_co_yX0_isProved : Cond.code yX0_isProved cX0_isProved 2 (some .boolean) ∈ bg_B := bg_c2 196 rfl rfl
theorem w_ml_X0_158 : Cond.methodLink "SurvivorPurse$Book" 158 yX0_isAllDead ∈ bg_B := bg_c2 197 rfl rfl
theorem w_im_yX0_isAllDead : Cond.instanceMethod yX0_isAllDead ∈ bg_B := bg_c2 198 rfl rfl
theorem w_se_yX0_isAllDead : Cond.selects "SurvivorPurse$Book" yX0_isAllDead yX0_isAllDead ∈ bg_B := bg_c2 199 rfl rfl
theorem w_co_yX0_isAllDead : Cond.code yX0_isAllDead cX0_isAllDead 2 (some .boolean) ∈ bg_B := bg_c2 200 rfl rfl
theorem w_ml_X0_149 : Cond.methodLink "SurvivorPurse$Book" 149 yX0_isDead ∈ bg_B := bg_c2 201 rfl rfl
theorem w_im_yX0_isDead : Cond.instanceMethod yX0_isDead ∈ bg_B := bg_c2 202 rfl rfl
theorem w_se_yX0_isDead : Cond.selects "SurvivorPurse$Book" yX0_isDead yX0_isDead ∈ bg_B := bg_c2 203 rfl rfl
theorem w_co_yX0_isDead : Cond.code yX0_isDead cX0_isDead 2 (some .boolean) ∈ bg_B := bg_c2 204 rfl rfl
theorem w_ml_L_69 : Cond.methodLink "SurvivorPurseLaw" 69 yX5_drew ∈ bg_B := bg_c2 205 rfl rfl
theorem w_im_yX5_drew : Cond.instanceMethod yX5_drew ∈ bg_B := bg_c2 206 rfl rfl
theorem w_se_yX5_drew : Cond.selects "SurvivorPurse" yX5_drew yX5_drew ∈ bg_B := bg_c2 207 rfl rfl
theorem w_co_yX5_drew : Cond.code yX5_drew cX5_drew 3 (some .long) ∈ bg_B := bg_c2 208 rfl rfl
theorem w_ml_X5_190 : Cond.methodLink "SurvivorPurse" 190 yX3_drewIn ∈ bg_B := bg_c2 209 rfl rfl
theorem w_ml_L_73 : Cond.methodLink "SurvivorPurseLaw" 73 yX5_proof ∈ bg_B := bg_c2 210 rfl rfl
theorem w_im_yX5_proof : Cond.instanceMethod yX5_proof ∈ bg_B := bg_c2 211 rfl rfl
theorem w_se_yX5_proof : Cond.selects "SurvivorPurse" yX5_proof yX5_proof ∈ bg_B := bg_c2 212 rfl rfl
theorem w_co_yX5_proof : Cond.code yX5_proof cX5_proof 2 (some .long) ∈ bg_B := bg_c2 213 rfl rfl
theorem w_ml_X5_200 : Cond.methodLink "SurvivorPurse" 200 yX0_prove ∈ bg_B := bg_c2 214 rfl rfl
theorem w_im_yX0_prove : Cond.instanceMethod yX0_prove ∈ bg_B := bg_c2 215 rfl rfl
theorem w_se_yX0_prove : Cond.selects "SurvivorPurse$Book" yX0_prove yX0_prove ∈ bg_B := bg_c2 216 rfl rfl
theorem w_co_yX0_prove : Cond.code yX0_prove cX0_prove 5 (some .long) ∈ bg_B := bg_c2 217 rfl rfl
theorem w_ml_X0_205 : Cond.methodLink "SurvivorPurse$Book" 205 yX3_hasLife ∈ bg_B := bg_c2 218 rfl rfl
theorem w_im_yX3_hasLife : Cond.instanceMethod yX3_hasLife ∈ bg_B := bg_c2 219 rfl rfl
theorem w_se_yX3_hasLife : Cond.selects "SurvivorPurse$Share" yX3_hasLife yX3_hasLife ∈ bg_B := bg_c2 220 rfl rfl
theorem w_co_yX3_hasLife : Cond.code yX3_hasLife cX3_hasLife 2 (some .boolean) ∈ bg_B := bg_c2 221 rfl rfl
theorem w_ml_X0_208 : Cond.methodLink "SurvivorPurse$Book" 208 yX0_payHeld ∈ bg_B := bg_c2 222 rfl rfl
theorem w_im_yX0_payHeld : Cond.instanceMethod yX0_payHeld ∈ bg_B := bg_c2 223 rfl rfl
theorem w_se_yX0_payHeld : Cond.selects "SurvivorPurse$Book" yX0_payHeld yX0_payHeld ∈ bg_B := bg_c2 224 rfl rfl
theorem w_co_yX0_payHeld : Cond.code yX0_payHeld cX0_payHeld 4 (some .long) ∈ bg_B := bg_c2 225 rfl rfl
theorem w_ml_X0_197 : Cond.methodLink "SurvivorPurse$Book" 197 yX3_release ∈ bg_B := bg_c2 226 rfl rfl
theorem w_im_yX3_release : Cond.instanceMethod yX3_release ∈ bg_B := bg_c2 227 rfl rfl
theorem w_se_yX3_release : Cond.selects "SurvivorPurse$Share" yX3_release yX3_release ∈ bg_B := bg_c2 228 rfl rfl
theorem w_co_yX3_release : Cond.code yX3_release cX3_release 4 (some .long) ∈ bg_B := bg_c2 229 rfl rfl
theorem w_ml_X3_71 : Cond.methodLink "SurvivorPurse$Share" 71 yX3_heldAt ∈ bg_B := bg_c2 230 rfl rfl
theorem w_ml_X0_201 : Cond.methodLink "SurvivorPurse$Book" 201 yX0_payOut ∈ bg_B := bg_c2 231 rfl rfl
theorem w_im_yX0_payOut : Cond.instanceMethod yX0_payOut ∈ bg_B := bg_c2 232 rfl rfl
theorem w_se_yX0_payOut : Cond.selects "SurvivorPurse$Book" yX0_payOut yX0_payOut ∈ bg_B := bg_c2 233 rfl rfl
theorem w_co_yX0_payOut : Cond.code yX0_payOut cX0_payOut 13 none ∈ bg_B := bg_c2 234 rfl rfl
theorem w_kl_X0_172 : Cond.constantLong "SurvivorPurse$Book" 172 (1000) ∈ bg_B := bg_c2 235 rfl rfl
theorem w_ml_X0_174 : Cond.methodLinkNest "SurvivorPurse$Book" 174 yX5_parted "SurvivorPurse" ∈ nestL := by decide +kernel
theorem w_ml_X0_181 : Cond.methodLink "SurvivorPurse$Book" 181 yJ9_min_f86c9 ∈ bg_B := bg_c2 237 rfl rfl
theorem w_st_yJ9_min_f86c9 : Cond.static yJ9_min_f86c9 ∈ bg_B := bg_c2 238 rfl rfl
theorem w_co_yJ9_min_f86c9 : Cond.code yJ9_min_f86c9 cJ9_min_f86c9 4 (some .long) ∈ bg_B := bg_c2 239 rfl rfl
theorem w_ml_L_77 : Cond.methodLink "SurvivorPurseLaw" 77 yX5_death ∈ bg_B := bg_c3 0 rfl rfl
theorem w_im_yX5_death : Cond.instanceMethod yX5_death ∈ bg_B := bg_c3 1 rfl rfl
theorem w_se_yX5_death : Cond.selects "SurvivorPurse" yX5_death yX5_death ∈ bg_B := bg_c3 2 rfl rfl
theorem w_co_yX5_death : Cond.code yX5_death cX5_death 3 (some .long) ∈ bg_B := bg_c3 3 rfl rfl
theorem w_ml_X5_206 : Cond.methodLink "SurvivorPurse" 206 yX0_learnDeath ∈ bg_B := bg_c3 4 rfl rfl
theorem w_im_yX0_learnDeath : Cond.instanceMethod yX0_learnDeath ∈ bg_B := bg_c3 5 rfl rfl
theorem w_se_yX0_learnDeath : Cond.selects "SurvivorPurse$Book" yX0_learnDeath yX0_learnDeath ∈ bg_B := bg_c3 6 rfl rfl
theorem w_co_yX0_learnDeath : Cond.code yX0_learnDeath cX0_learnDeath 6 (some .long) ∈ bg_B := bg_c3 7 rfl rfl
theorem w_ml_X0_212 : Cond.methodLink "SurvivorPurse$Book" 212 yX0_settle ∈ bg_B := bg_c3 8 rfl rfl
theorem w_im_yX0_settle : Cond.instanceMethod yX0_settle ∈ bg_B := bg_c3 9 rfl rfl
theorem w_se_yX0_settle : Cond.selects "SurvivorPurse$Book" yX0_settle yX0_settle ∈ bg_B := bg_c3 10 rfl rfl
theorem w_co_yX0_settle : Cond.code yX0_settle cX0_settle 5 (some .long) ∈ bg_B := bg_c3 11 rfl rfl
theorem w_ml_X0_215 : Cond.methodLink "SurvivorPurse$Book" 215 yX0_endOf ∈ bg_B := bg_c3 12 rfl rfl
theorem w_im_yX0_endOf : Cond.instanceMethod yX0_endOf ∈ bg_B := bg_c3 13 rfl rfl
theorem w_se_yX0_endOf : Cond.selects "SurvivorPurse$Book" yX0_endOf yX0_endOf ∈ bg_B := bg_c3 14 rfl rfl
theorem w_co_yX0_endOf : Cond.code yX0_endOf cX0_endOf 3 (some .int) ∈ bg_B := bg_c3 15 rfl rfl
theorem w_ml_X0_218 : Cond.methodLink "SurvivorPurse$Book" 218 yX3_forgetHeldAbove ∈ bg_B := bg_c3 16 rfl rfl
theorem w_im_yX3_forgetHeldAbove : Cond.instanceMethod yX3_forgetHeldAbove ∈ bg_B := bg_c3 17 rfl rfl
theorem w_se_yX3_forgetHeldAbove : Cond.selects "SurvivorPurse$Share" yX3_forgetHeldAbove yX3_forgetHeldAbove ∈ bg_B := bg_c3 18 rfl rfl
theorem w_co_yX3_forgetHeldAbove : Cond.code yX3_forgetHeldAbove cX3_forgetHeldAbove 7 (some .long) ∈ bg_B := bg_c3 19 rfl rfl
theorem w_ml_X3_75 : Cond.methodLink "SurvivorPurse$Share" 75 yX3_note ∈ bg_B := bg_c3 20 rfl rfl
theorem w_im_yX3_note : Cond.instanceMethod yX3_note ∈ bg_B := bg_c3 21 rfl rfl
theorem w_se_yX3_note : Cond.selects "SurvivorPurse$Share" yX3_note yX3_note ∈ bg_B := bg_c3 22 rfl rfl
theorem w_co_yX3_note : Cond.code yX3_note cX3_note 4 none ∈ bg_B := bg_c3 23 rfl rfl
theorem w_ml_X3_67 : Cond.methodLinkNest "SurvivorPurse$Share" 67 yX5_isWithin "SurvivorPurse" ∈ nestL := by decide +kernel
theorem w_ml_X0_222 : Cond.methodLink "SurvivorPurse$Book" 222 yX3_drewIn ∈ bg_B := bg_c3 25 rfl rfl
theorem w_ml_L_81 : Cond.methodLink "SurvivorPurseLaw" 81 yX5_close ∈ bg_B := bg_c3 26 rfl rfl
theorem w_im_yX5_close : Cond.instanceMethod yX5_close ∈ bg_B := bg_c3 27 rfl rfl
theorem w_se_yX5_close : Cond.selects "SurvivorPurse" yX5_close yX5_close ∈ bg_B := bg_c3 28 rfl rfl
theorem w_co_yX5_close : Cond.code yX5_close cX5_close 4 (some .long) ∈ bg_B := bg_c3 29 rfl rfl
theorem w_ki_X5_209 : Cond.constant "SurvivorPurse" 209 (100000000) ∈ bg_B := bg_c3 30 rfl rfl
theorem w_ml_X5_210 : Cond.methodLink "SurvivorPurse" 210 yX0_partPot ∈ bg_B := bg_c3 31 rfl rfl
theorem w_im_yX0_partPot : Cond.instanceMethod yX0_partPot ∈ bg_B := bg_c3 32 rfl rfl
theorem w_se_yX0_partPot : Cond.selects "SurvivorPurse$Book" yX0_partPot yX0_partPot ∈ bg_B := bg_c3 33 rfl rfl
theorem w_co_yX0_partPot : Cond.code yX0_partPot cX0_partPot 8 none ∈ bg_B := bg_c3 34 rfl rfl
theorem w_ml_X0_225 : Cond.methodLink "SurvivorPurse$Book" 225 yX0_allStocks ∈ bg_B := bg_c3 35 rfl rfl
theorem w_im_yX0_allStocks : Cond.instanceMethod yX0_allStocks ∈ bg_B := bg_c3 36 rfl rfl
theorem w_se_yX0_allStocks : Cond.selects "SurvivorPurse$Book" yX0_allStocks yX0_allStocks ∈ bg_B := bg_c3 37 rfl rfl
theorem w_co_yX0_allStocks : Cond.code yX0_allStocks cX0_allStocks 4 (some .long) ∈ bg_B := bg_c3 38 rfl rfl
theorem w_ml_X0_229 : Cond.methodLink "SurvivorPurse$Book" 229 yX0_drawingUnits ∈ bg_B := bg_c3 39 rfl rfl
theorem w_im_yX0_drawingUnits : Cond.instanceMethod yX0_drawingUnits ∈ bg_B := bg_c3 40 rfl rfl
theorem w_se_yX0_drawingUnits : Cond.selects "SurvivorPurse$Book" yX0_drawingUnits yX0_drawingUnits ∈ bg_B := bg_c3 41 rfl rfl
theorem w_co_yX0_drawingUnits : Cond.code yX0_drawingUnits cX0_drawingUnits 5 (some .long) ∈ bg_B := bg_c3 42 rfl rfl
theorem w_ml_X0_263 : Cond.methodLink "SurvivorPurse$Book" 263 yX0_isDrawing ∈ bg_B := bg_c3 43 rfl rfl
theorem w_im_yX0_isDrawing : Cond.instanceMethod yX0_isDrawing ∈ bg_B := bg_c3 44 rfl rfl
theorem w_se_yX0_isDrawing : Cond.selects "SurvivorPurse$Book" yX0_isDrawing yX0_isDrawing ∈ bg_B := bg_c3 45 rfl rfl
theorem w_co_yX0_isDrawing : Cond.code yX0_isDrawing cX0_isDrawing 3 (some .boolean) ∈ bg_B := bg_c3 46 rfl rfl
theorem w_ml_X0_165 : Cond.methodLink "SurvivorPurse$Book" 165 yX0_howItIs ∈ bg_B := bg_c3 47 rfl rfl
theorem w_ml_X5_214 : Cond.methodLink "SurvivorPurse" 214 yX0_drawAll ∈ bg_B := bg_c3 48 rfl rfl
theorem w_im_yX0_drawAll : Cond.instanceMethod yX0_drawAll ∈ bg_B := bg_c3 49 rfl rfl
theorem w_se_yX0_drawAll : Cond.selects "SurvivorPurse$Book" yX0_drawAll yX0_drawAll ∈ bg_B := bg_c3 50 rfl rfl
theorem w_co_yX0_drawAll : Cond.code yX0_drawAll cX0_drawAll 6 (some .long) ∈ bg_B := bg_c3 51 rfl rfl
theorem w_ml_X0_238 : Cond.methodLink "SurvivorPurse$Book" 238 yX0_draw ∈ bg_B := bg_c3 52 rfl rfl
theorem w_im_yX0_draw : Cond.instanceMethod yX0_draw ∈ bg_B := bg_c3 53 rfl rfl
theorem w_se_yX0_draw : Cond.selects "SurvivorPurse$Book" yX0_draw yX0_draw ∈ bg_B := bg_c3 54 rfl rfl
theorem w_co_yX0_draw : Cond.code yX0_draw cX0_draw 6 (some .long) ∈ bg_B := bg_c3 55 rfl rfl
theorem w_ml_X0_242 : Cond.methodLink "SurvivorPurse$Book" 242 yX3_note ∈ bg_B := bg_c3 56 rfl rfl
theorem w_ml_X5_218 : Cond.methodLink "SurvivorPurse" 218 yX0_beginNextYear ∈ bg_B := bg_c3 57 rfl rfl
theorem w_im_yX0_beginNextYear : Cond.instanceMethod yX0_beginNextYear ∈ bg_B := bg_c3 58 rfl rfl
theorem w_se_yX0_beginNextYear : Cond.selects "SurvivorPurse$Book" yX0_beginNextYear yX0_beginNextYear ∈ bg_B := bg_c3 59 rfl rfl
theorem w_co_yX0_beginNextYear : Cond.code yX0_beginNextYear cX0_beginNextYear 2 none ∈ bg_B := bg_c3 60 rfl rfl
theorem w_ml_X5_221 : Cond.methodLink "SurvivorPurse" 221 yX0_giveBack ∈ bg_B := bg_c3 61 rfl rfl
theorem w_im_yX0_giveBack : Cond.instanceMethod yX0_giveBack ∈ bg_B := bg_c3 62 rfl rfl
theorem w_se_yX0_giveBack : Cond.selects "SurvivorPurse$Book" yX0_giveBack yX0_giveBack ∈ bg_B := bg_c3 63 rfl rfl
theorem w_co_yX0_giveBack : Cond.code yX0_giveBack cX0_giveBack 3 none ∈ bg_B := bg_c3 64 rfl rfl
theorem w_ml_X0_255 : Cond.methodLink "SurvivorPurse$Book" 255 yX0_giveBackOf ∈ bg_B := bg_c3 65 rfl rfl
theorem w_im_yX0_giveBackOf : Cond.instanceMethod yX0_giveBackOf ∈ bg_B := bg_c3 66 rfl rfl
theorem w_se_yX0_giveBackOf : Cond.selects "SurvivorPurse$Book" yX0_giveBackOf yX0_giveBackOf ∈ bg_B := bg_c3 67 rfl rfl
theorem w_co_yX0_giveBackOf : Cond.code yX0_giveBackOf cX0_giveBackOf 6 none ∈ bg_B := bg_c3 68 rfl rfl
theorem w_ml_X0_258 : Cond.methodLink "SurvivorPurse$Book" 258 yJ9_max_f86c9 ∈ bg_B := bg_c3 69 rfl rfl
theorem w_st_yJ9_max_f86c9 : Cond.static yJ9_max_f86c9 ∈ bg_B := bg_c3 70 rfl rfl
theorem w_co_yJ9_max_f86c9 : Cond.code yJ9_max_f86c9 cJ9_max_f86c9 4 (some .long) ∈ bg_B := bg_c3 71 rfl rfl
theorem w_ml_L_85 : Cond.methodLink "SurvivorPurseLaw" 85 yX5_of ∈ bg_B := bg_c3 72 rfl rfl
theorem w_im_yX5_of : Cond.instanceMethod yX5_of ∈ bg_B := bg_c3 73 rfl rfl
theorem w_se_yX5_of : Cond.selects "SurvivorPurse" yX5_of yX5_of ∈ bg_B := bg_c3 74 rfl rfl
theorem w_co_yX5_of : Cond.code yX5_of cX5_of 4 (some .long) ∈ bg_B := bg_c3 75 rfl rfl
theorem w_ml_L_89 : Cond.methodLink "SurvivorPurseLaw" 89 yX5_about ∈ bg_B := bg_c3 76 rfl rfl
theorem w_im_yX5_about : Cond.instanceMethod yX5_about ∈ bg_B := bg_c3 77 rfl rfl
theorem w_se_yX5_about : Cond.selects "SurvivorPurse" yX5_about yX5_about ∈ bg_B := bg_c3 78 rfl rfl
theorem w_co_yX5_about : Cond.code yX5_about cX5_about 4 (some .long) ∈ bg_B := bg_c3 79 rfl rfl
theorem w_ml_X5_239 : Cond.methodLink "SurvivorPurse" 239 yX0_drawingUnits ∈ bg_B := bg_c3 80 rfl rfl
theorem w_ml_X5_242 : Cond.methodLink "SurvivorPurse" 242 yX0_sharesIn ∈ bg_B := bg_c3 81 rfl rfl
theorem w_im_yX0_sharesIn : Cond.instanceMethod yX0_sharesIn ∈ bg_B := bg_c3 82 rfl rfl
theorem w_se_yX0_sharesIn : Cond.selects "SurvivorPurse$Book" yX0_sharesIn yX0_sharesIn ∈ bg_B := bg_c3 83 rfl rfl
theorem w_co_yX0_sharesIn : Cond.code yX0_sharesIn cX0_sharesIn 5 (some .long) ∈ bg_B := bg_c3 84 rfl rfl
theorem w_ml_L_93 : Cond.methodLink "SurvivorPurseLaw" 93 yX5_told ∈ bg_B := bg_c3 85 rfl rfl
theorem w_im_yX5_told : Cond.instanceMethod yX5_told ∈ bg_B := bg_c3 86 rfl rfl
theorem w_se_yX5_told : Cond.selects "SurvivorPurse" yX5_told yX5_told ∈ bg_B := bg_c3 87 rfl rfl
theorem w_co_yX5_told : Cond.code yX5_told cX5_told 2 (some .long) ∈ bg_B := bg_c3 88 rfl rfl
theorem w_ml_X5_251 : Cond.methodLink "SurvivorPurse" 251 yX0_allHeld ∈ bg_B := bg_c3 89 rfl rfl
theorem w_im_yX0_allHeld : Cond.instanceMethod yX0_allHeld ∈ bg_B := bg_c3 90 rfl rfl
theorem w_se_yX0_allHeld : Cond.selects "SurvivorPurse$Book" yX0_allHeld yX0_allHeld ∈ bg_B := bg_c3 91 rfl rfl
theorem w_co_yX0_allHeld : Cond.code yX0_allHeld cX0_allHeld 4 (some .long) ∈ bg_B := bg_c3 92 rfl rfl
theorem w_ml_X0_266 : Cond.methodLink "SurvivorPurse$Book" 266 yX3_heldAt ∈ bg_B := bg_c3 93 rfl rfl
theorem w_ml_X5_254 : Cond.methodLink "SurvivorPurse" 254 yX0_allPurses ∈ bg_B := bg_c3 94 rfl rfl
theorem w_im_yX0_allPurses : Cond.instanceMethod yX0_allPurses ∈ bg_B := bg_c3 95 rfl rfl
theorem w_se_yX0_allPurses : Cond.selects "SurvivorPurse$Book" yX0_allPurses yX0_allPurses ∈ bg_B := bg_c3 96 rfl rfl
theorem w_co_yX0_allPurses : Cond.code yX0_allPurses cX0_allPurses 4 (some .long) ∈ bg_B := bg_c3 97 rfl rfl
theorem w_ml_X5_257 : Cond.methodLink "SurvivorPurse" 257 yX0_allStocks ∈ bg_B := bg_c3 98 rfl rfl
theorem w_ml_X5_260 : Cond.methodLink "SurvivorPurse" 260 yX0_allDebts ∈ bg_B := bg_c3 99 rfl rfl
theorem w_im_yX0_allDebts : Cond.instanceMethod yX0_allDebts ∈ bg_B := bg_c3 100 rfl rfl
theorem w_se_yX0_allDebts : Cond.selects "SurvivorPurse$Book" yX0_allDebts yX0_allDebts ∈ bg_B := bg_c3 101 rfl rfl
theorem w_co_yX0_allDebts : Cond.code yX0_allDebts cX0_allDebts 4 (some .long) ∈ bg_B := bg_c3 102 rfl rfl
theorem w_ml_L_97 : Cond.methodLink "SurvivorPurseLaw" 97 yX5_keep ∈ bg_B := bg_c3 103 rfl rfl
theorem w_im_yX5_keep : Cond.instanceMethod yX5_keep ∈ bg_B := bg_c3 104 rfl rfl
theorem w_se_yX5_keep : Cond.selects "SurvivorPurse" yX5_keep yX5_keep ∈ bg_B := bg_c3 105 rfl rfl
theorem w_co_yX5_keep : Cond.code yX5_keep cX5_keep 1 (some .long) ∈ bg_B := bg_c3 106 rfl rfl
theorem w_ml_X5_266 : Cond.methodLink "SurvivorPurse" 266 yX0_copyFrom ∈ bg_B := bg_c3 107 rfl rfl
theorem w_im_yX0_copyFrom : Cond.instanceMethod yX0_copyFrom ∈ bg_B := bg_c3 108 rfl rfl
theorem w_se_yX0_copyFrom : Cond.selects "SurvivorPurse$Book" yX0_copyFrom yX0_copyFrom ∈ bg_B := bg_c3 109 rfl rfl
theorem w_co_yX0_copyFrom : Cond.code yX0_copyFrom cX0_copyFrom 3 none ∈ bg_B := bg_c3 110 rfl rfl
theorem w_ml_X0_43 : Cond.methodLink "SurvivorPurse$Book" 43 yX4_copyFrom ∈ bg_B := bg_c3 111 rfl rfl
theorem w_im_yX4_copyFrom : Cond.instanceMethod yX4_copyFrom ∈ bg_B := bg_c3 112 rfl rfl
theorem w_se_yX4_copyFrom : Cond.selects "SurvivorPurse$Table" yX4_copyFrom yX4_copyFrom ∈ bg_B := bg_c3 113 rfl rfl
theorem w_co_yX4_copyFrom : Cond.code yX4_copyFrom cX4_copyFrom 2 none ∈ bg_B := bg_c3 114 rfl rfl
theorem w_ml_X4_24 : Cond.methodLink "SurvivorPurse$Table" 24 arraycopyName ∈ bg_B := bg_c3 115 rfl rfl
theorem w_ml_X0_72 : Cond.methodLink "SurvivorPurse$Book" 72 yX1_copyFrom ∈ bg_B := bg_c3 116 rfl rfl
theorem w_im_yX1_copyFrom : Cond.instanceMethod yX1_copyFrom ∈ bg_B := bg_c3 117 rfl rfl
theorem w_se_yX1_copyFrom : Cond.selects "SurvivorPurse$Member" yX1_copyFrom yX1_copyFrom ∈ bg_B := bg_c3 118 rfl rfl
theorem w_co_yX1_copyFrom : Cond.code yX1_copyFrom cX1_copyFrom 2 none ∈ bg_B := bg_c3 119 rfl rfl
theorem w_ml_X0_75 : Cond.methodLink "SurvivorPurse$Book" 75 yX2_copyFrom ∈ bg_B := bg_c3 120 rfl rfl
theorem w_im_yX2_copyFrom : Cond.instanceMethod yX2_copyFrom ∈ bg_B := bg_c3 121 rfl rfl
theorem w_se_yX2_copyFrom : Cond.selects "SurvivorPurse$Rank" yX2_copyFrom yX2_copyFrom ∈ bg_B := bg_c3 122 rfl rfl
theorem w_co_yX2_copyFrom : Cond.code yX2_copyFrom cX2_copyFrom 2 none ∈ bg_B := bg_c3 123 rfl rfl
theorem w_ml_L_102 : Cond.methodLink "SurvivorPurseLaw" 102 yX5_back ∈ bg_B := bg_c3 124 rfl rfl
theorem w_im_yX5_back : Cond.instanceMethod yX5_back ∈ bg_B := bg_c3 125 rfl rfl
theorem w_se_yX5_back : Cond.selects "SurvivorPurse" yX5_back yX5_back ∈ bg_B := bg_c3 126 rfl rfl
theorem w_co_yX5_back : Cond.code yX5_back cX5_back 1 (some .long) ∈ bg_B := bg_c3 127 rfl rfl
theorem w_cl_L_10 : Cond.classLink "SurvivorPurseLaw" 10 "SurvivorPurseModel" ∈ bg_B := bg_c3 128 rfl rfl
theorem w_ni_X6 : Cond.instantiable "SurvivorPurseModel" 7 ∈ bg_B := bg_c3 129 rfl rfl
theorem w_ml_L_12 : Cond.methodLink "SurvivorPurseLaw" 12 yX6_init ∈ bg_B := bg_c3 130 rfl rfl
theorem w_im_yX6_init : Cond.instanceMethod yX6_init ∈ bg_B := bg_c3 131 rfl rfl
theorem w_co_yX6_init : Cond.code yX6_init cX6_init 2 none ∈ bg_B := bg_c3 132 rfl rfl
theorem w_ml_X6_1 : Cond.methodLink "SurvivorPurseModel" 1 objectInit ∈ bg_B := bg_c3 133 rfl rfl
theorem w_kl_X6_29 : Cond.constantLong "SurvivorPurseModel" 29 (100000) ∈ bg_B := bg_c3 134 rfl rfl
theorem w_kl_X6_31 : Cond.constantLong "SurvivorPurseModel" 31 (900) ∈ bg_B := bg_c3 135 rfl rfl
theorem w_kl_X6_33 : Cond.constantLong "SurvivorPurseModel" 33 (2) ∈ bg_B := bg_c3 136 rfl rfl
theorem w_fl_X6_7 : Cond.fieldLink "SurvivorPurseModel" 7 "SurvivorPurseModel" "now" "[J" ∈ bg_B := bg_c3 137 rfl rfl
theorem w_fl_X6_13 : Cond.fieldLink "SurvivorPurseModel" 13 "SurvivorPurseModel" "kept" "[J" ∈ bg_B := bg_c3 138 rfl rfl
theorem w_fl_X6_136 : Cond.fieldLink "SurvivorPurseModel" 136 "SurvivorPurseModel" "hasKept" "Z" ∈ bg_B := bg_c3 139 rfl rfl
theorem w_fl_X6_16 : Cond.fieldLink "SurvivorPurseModel" 16 "SurvivorPurseModel" "pots" "[J" ∈ bg_B := bg_c3 140 rfl rfl
theorem w_fl_X6_19 : Cond.fieldLink "SurvivorPurseModel" 19 "SurvivorPurseModel" "units" "[J" ∈ bg_B := bg_c3 141 rfl rfl
theorem w_fl_X6_22 : Cond.fieldLink "SurvivorPurseModel" 22 "SurvivorPurseModel" "draws" "[J" ∈ bg_B := bg_c3 142 rfl rfl
theorem w_fl_X6_25 : Cond.fieldLink "SurvivorPurseModel" 25 "SurvivorPurseModel" "how" "[I" ∈ bg_B := bg_c3 143 rfl rfl
theorem w_ml_L_17 : Cond.methodLink "SurvivorPurseLaw" 17 yX6_living ∈ bg_B := bg_c3 159 rfl rfl
theorem w_im_yX6_living : Cond.instanceMethod yX6_living ∈ bg_B := bg_c3 160 rfl rfl
theorem w_se_yX6_living : Cond.selects "SurvivorPurseModel" yX6_living yX6_living ∈ bg_B := bg_c3 161 rfl rfl
theorem w_co_yX6_living : Cond.code yX6_living cX6_living 5 (some .long) ∈ bg_B := bg_c3 162 rfl rfl
theorem w_kl_X6_39 : Cond.constantLong "SurvivorPurseModel" 39 (110) ∈ bg_B := bg_c3 163 rfl rfl
theorem w_ml_X6_35 : Cond.methodLink "SurvivorPurseModel" 35 yX6_in ∈ bg_B := bg_c3 164 rfl rfl
theorem w_st_yX6_in : Cond.static yX6_in ∈ bg_B := bg_c3 165 rfl rfl
theorem w_co_yX6_in : Cond.code yX6_in cX6_in 6 (some .boolean) ∈ bg_B := bg_c3 166 rfl rfl
theorem w_kl_X6_41 : Cond.constantLong "SurvivorPurseModel" 41 (-1000000000000000) ∈ bg_B := bg_c3 167 rfl rfl
theorem w_ml_L_21 : Cond.methodLink "SurvivorPurseLaw" 21 yX6_foretell ∈ bg_B := bg_c3 168 rfl rfl
theorem w_im_yX6_foretell : Cond.instanceMethod yX6_foretell ∈ bg_B := bg_c3 169 rfl rfl
theorem w_se_yX6_foretell : Cond.selects "SurvivorPurseModel" yX6_foretell yX6_foretell ∈ bg_B := bg_c3 170 rfl rfl
theorem w_co_yX6_foretell : Cond.code yX6_foretell cX6_foretell 5 (some .long) ∈ bg_B := bg_c3 171 rfl rfl
theorem w_kl_X6_43 : Cond.constantLong "SurvivorPurseModel" 43 (1000000) ∈ bg_B := bg_c3 172 rfl rfl
theorem w_ml_L_26 : Cond.methodLink "SurvivorPurseLaw" 26 yX6_mean ∈ bg_B := bg_c3 173 rfl rfl
theorem w_im_yX6_mean : Cond.instanceMethod yX6_mean ∈ bg_B := bg_c3 174 rfl rfl
theorem w_se_yX6_mean : Cond.selects "SurvivorPurseModel" yX6_mean yX6_mean ∈ bg_B := bg_c3 175 rfl rfl
theorem w_co_yX6_mean : Cond.code yX6_mean cX6_mean 2 (some .long) ∈ bg_B := bg_c3 176 rfl rfl
theorem w_kl_X6_45 : Cond.constantLong "SurvivorPurseModel" 45 (1000) ∈ bg_B := bg_c3 177 rfl rfl
theorem w_ml_X6_47 : Cond.methodLink "SurvivorPurseModel" 47 yX6_later ∈ bg_B := bg_c3 178 rfl rfl
theorem w_im_yX6_later : Cond.instanceMethod yX6_later ∈ bg_B := bg_c3 180 rfl rfl
theorem w_co_yX6_later : Cond.code yX6_later cX6_later 5 (some .long) ∈ bg_B := bg_c3 181 rfl rfl
theorem w_ml_L_30 : Cond.methodLink "SurvivorPurseLaw" 30 yX6_dearer ∈ bg_B := bg_c3 182 rfl rfl
theorem w_im_yX6_dearer : Cond.instanceMethod yX6_dearer ∈ bg_B := bg_c3 183 rfl rfl
theorem w_se_yX6_dearer : Cond.selects "SurvivorPurseModel" yX6_dearer yX6_dearer ∈ bg_B := bg_c3 184 rfl rfl
theorem w_co_yX6_dearer : Cond.code yX6_dearer cX6_dearer 13 (some .long) ∈ bg_B := bg_c3 185 rfl rfl
theorem w_ml_X6_51 : Cond.methodLink "SurvivorPurseModel" 51 yX6_isClass ∈ bg_B := bg_c3 186 rfl rfl
theorem w_im_yX6_isClass : Cond.instanceMethod yX6_isClass ∈ bg_B := bg_c3 188 rfl rfl
theorem w_co_yX6_isClass : Cond.code yX6_isClass cX6_isClass 2 (some .boolean) ∈ bg_B := bg_c3 189 rfl rfl
theorem w_ml_X6_55 : Cond.methodLink "SurvivorPurseModel" 55 yX6_groupCell ∈ bg_B := bg_c3 190 rfl rfl
theorem w_st_yX6_groupCell : Cond.static yX6_groupCell ∈ bg_B := bg_c3 191 rfl rfl
theorem w_co_yX6_groupCell : Cond.code yX6_groupCell cX6_groupCell 2 (some .int) ∈ bg_B := bg_c3 192 rfl rfl
theorem w_kl_X6_59 : Cond.constantLong "SurvivorPurseModel" 59 (-1) ∈ bg_B := bg_c3 193 rfl rfl
theorem w_ml_L_34 : Cond.methodLink "SurvivorPurseLaw" 34 yX6_member ∈ bg_B := bg_c3 194 rfl rfl
theorem w_im_yX6_member : Cond.instanceMethod yX6_member ∈ bg_B := bg_c3 195 rfl rfl
theorem w_se_yX6_member : Cond.selects "SurvivorPurseModel" yX6_member yX6_member ∈ bg_B := bg_c3 196 rfl rfl
theorem w_co_yX6_member : Cond.code yX6_member cX6_member 4 (some .long) ∈ bg_B := bg_c3 197 rfl rfl
theorem w_kl_X6_61 : Cond.constantLong "SurvivorPurseModel" 61 (24) ∈ bg_B := bg_c3 198 rfl rfl
theorem w_ml_X6_63 : Cond.methodLink "SurvivorPurseModel" 63 yX6_cellOf ∈ bg_B := bg_c3 199 rfl rfl
theorem w_st_yX6_cellOf : Cond.static yX6_cellOf ∈ bg_B := bg_c3 200 rfl rfl
theorem w_co_yX6_cellOf : Cond.code yX6_cellOf cX6_cellOf 2 (some .int) ∈ bg_B := bg_c3 201 rfl rfl
theorem w_ml_L_38 : Cond.methodLink "SurvivorPurseLaw" 38 yX6_heir ∈ bg_B := bg_c3 202 rfl rfl
theorem w_im_yX6_heir : Cond.instanceMethod yX6_heir ∈ bg_B := bg_c3 203 rfl rfl
theorem w_se_yX6_heir : Cond.selects "SurvivorPurseModel" yX6_heir yX6_heir ∈ bg_B := bg_c3 204 rfl rfl
theorem w_co_yX6_heir : Cond.code yX6_heir cX6_heir 5 (some .long) ∈ bg_B := bg_c3 205 rfl rfl
theorem w_ml_X6_66 : Cond.methodLink "SurvivorPurseModel" 66 yX6_isMember ∈ bg_B := bg_c3 206 rfl rfl
theorem w_im_yX6_isMember : Cond.instanceMethod yX6_isMember ∈ bg_B := bg_c3 208 rfl rfl
theorem w_co_yX6_isMember : Cond.code yX6_isMember cX6_isMember 2 (some .boolean) ∈ bg_B := bg_c3 209 rfl rfl
theorem w_ml_L_43 : Cond.methodLink "SurvivorPurseLaw" 43 yX6_group ∈ bg_B := bg_c3 210 rfl rfl
theorem w_im_yX6_group : Cond.instanceMethod yX6_group ∈ bg_B := bg_c3 211 rfl rfl
theorem w_se_yX6_group : Cond.selects "SurvivorPurseModel" yX6_group yX6_group ∈ bg_B := bg_c3 212 rfl rfl
theorem w_co_yX6_group : Cond.code yX6_group cX6_group 5 (some .long) ∈ bg_B := bg_c3 213 rfl rfl
theorem w_kl_X6_69 : Cond.constantLong "SurvivorPurseModel" 69 (10000) ∈ bg_B := bg_c3 214 rfl rfl
theorem w_kl_X6_71 : Cond.constantLong "SurvivorPurseModel" 71 (6) ∈ bg_B := bg_c3 215 rfl rfl
theorem w_ml_L_47 : Cond.methodLink "SurvivorPurseLaw" 47 yX6_set ∈ bg_B := bg_c3 216 rfl rfl
theorem w_im_yX6_set : Cond.instanceMethod yX6_set ∈ bg_B := bg_c3 217 rfl rfl
theorem w_se_yX6_set : Cond.selects "SurvivorPurseModel" yX6_set yX6_set ∈ bg_B := bg_c3 218 rfl rfl
theorem w_co_yX6_set : Cond.code yX6_set cX6_set 6 (some .long) ∈ bg_B := bg_c3 219 rfl rfl
theorem w_kl_X6_73 : Cond.constantLong "SurvivorPurseModel" 73 (5) ∈ bg_B := bg_c3 220 rfl rfl
theorem w_ml_L_52 : Cond.methodLink "SurvivorPurseLaw" 52 yX6_buy ∈ bg_B := bg_c3 221 rfl rfl
theorem w_im_yX6_buy : Cond.instanceMethod yX6_buy ∈ bg_B := bg_c3 222 rfl rfl
theorem w_se_yX6_buy : Cond.selects "SurvivorPurseModel" yX6_buy yX6_buy ∈ bg_B := bg_c3 223 rfl rfl
theorem w_co_yX6_buy : Cond.code yX6_buy cX6_buy 13 (some .long) ∈ bg_B := bg_c3 224 rfl rfl
theorem w_ml_X6_75 : Cond.methodLink "SurvivorPurseModel" 75 yX6_isDead ∈ bg_B := bg_c3 225 rfl rfl
theorem w_im_yX6_isDead : Cond.instanceMethod yX6_isDead ∈ bg_B := bg_c3 227 rfl rfl
theorem w_co_yX6_isDead : Cond.code yX6_isDead cX6_isDead 3 (some .boolean) ∈ bg_B := bg_c3 228 rfl rfl
theorem w_kl_X6_79 : Cond.constantLong "SurvivorPurseModel" 79 (3) ∈ bg_B := bg_c3 229 rfl rfl
theorem w_kl_X6_81 : Cond.constantLong "SurvivorPurseModel" 81 (30) ∈ bg_B := bg_c3 230 rfl rfl
theorem w_ml_X6_83 : Cond.methodLink "SurvivorPurseModel" 83 yX6_classFor ∈ bg_B := bg_c3 231 rfl rfl
theorem w_im_yX6_classFor : Cond.instanceMethod yX6_classFor ∈ bg_B := bg_c3 233 rfl rfl
theorem w_co_yX6_classFor : Cond.code yX6_classFor cX6_classFor 4 (some .int) ∈ bg_B := bg_c3 234 rfl rfl
theorem w_kl_X6_87 : Cond.constantLong "SurvivorPurseModel" 87 (40) ∈ bg_B := bg_c3 235 rfl rfl
theorem w_ml_X6_89 : Cond.methodLink "SurvivorPurseModel" 89 yX6_part ∈ bg_B := bg_c3 236 rfl rfl
theorem w_st_yX6_part : Cond.static yX6_part ∈ bg_B := bg_c3 237 rfl rfl
theorem w_co_yX6_part : Cond.code yX6_part cX6_part 2 (some .int) ∈ bg_B := bg_c3 238 rfl rfl
theorem w_ml_L_56 : Cond.methodLink "SurvivorPurseLaw" 56 yX6_sell ∈ bg_B := bg_c3 239 rfl rfl
theorem w_im_yX6_sell : Cond.instanceMethod yX6_sell ∈ bg_B := bg_c4 0 rfl rfl
theorem w_se_yX6_sell : Cond.selects "SurvivorPurseModel" yX6_sell yX6_sell ∈ bg_B := bg_c4 1 rfl rfl
theorem w_co_yX6_sell : Cond.code yX6_sell cX6_sell 5 (some .long) ∈ bg_B := bg_c4 2 rfl rfl
theorem w_ml_X6_92 : Cond.methodLink "SurvivorPurseModel" 92 yX6_isShare ∈ bg_B := bg_c4 3 rfl rfl
theorem w_im_yX6_isShare : Cond.instanceMethod yX6_isShare ∈ bg_B := bg_c4 5 rfl rfl
theorem w_co_yX6_isShare : Cond.code yX6_isShare cX6_isShare 2 (some .boolean) ∈ bg_B := bg_c4 6 rfl rfl
theorem w_ml_L_60 : Cond.methodLink "SurvivorPurseLaw" 60 yX6_split ∈ bg_B := bg_c4 7 rfl rfl
theorem w_im_yX6_split : Cond.instanceMethod yX6_split ∈ bg_B := bg_c4 8 rfl rfl
theorem w_se_yX6_split : Cond.selects "SurvivorPurseModel" yX6_split yX6_split ∈ bg_B := bg_c4 9 rfl rfl
theorem w_co_yX6_split : Cond.code yX6_split cX6_split 7 (some .long) ∈ bg_B := bg_c4 10 rfl rfl
theorem w_ml_X6_95 : Cond.methodLink "SurvivorPurseModel" 95 yX6_parts ∈ bg_B := bg_c4 11 rfl rfl
theorem w_im_yX6_parts : Cond.instanceMethod yX6_parts ∈ bg_B := bg_c4 13 rfl rfl
theorem w_co_yX6_parts : Cond.code yX6_parts cX6_parts 9 none ∈ bg_B := bg_c4 14 rfl rfl
theorem w_ml_L_64 : Cond.methodLink "SurvivorPurseLaw" 64 yX6_pledge ∈ bg_B := bg_c4 15 rfl rfl
theorem w_im_yX6_pledge : Cond.instanceMethod yX6_pledge ∈ bg_B := bg_c4 16 rfl rfl
theorem w_se_yX6_pledge : Cond.selects "SurvivorPurseModel" yX6_pledge yX6_pledge ∈ bg_B := bg_c4 17 rfl rfl
theorem w_co_yX6_pledge : Cond.code yX6_pledge cX6_pledge 6 (some .long) ∈ bg_B := bg_c4 18 rfl rfl
theorem w_kl_X6_99 : Cond.constantLong "SurvivorPurseModel" 99 (1000000000) ∈ bg_B := bg_c4 19 rfl rfl
theorem w_ml_L_68 : Cond.methodLink "SurvivorPurseLaw" 68 yX6_share ∈ bg_B := bg_c4 20 rfl rfl
theorem w_im_yX6_share : Cond.instanceMethod yX6_share ∈ bg_B := bg_c4 21 rfl rfl
theorem w_se_yX6_share : Cond.selects "SurvivorPurseModel" yX6_share yX6_share ∈ bg_B := bg_c4 22 rfl rfl
theorem w_co_yX6_share : Cond.code yX6_share cX6_share 3 (some .long) ∈ bg_B := bg_c4 23 rfl rfl
theorem w_kl_X6_112 : Cond.constantLong "SurvivorPurseModel" 112 (12) ∈ bg_B := bg_c4 24 rfl rfl
theorem w_ml_X6_114 : Cond.methodLink "SurvivorPurseModel" 114 yX6_heldBy ∈ bg_B := bg_c4 25 rfl rfl
theorem w_im_yX6_heldBy : Cond.instanceMethod yX6_heldBy ∈ bg_B := bg_c4 27 rfl rfl
theorem w_co_yX6_heldBy : Cond.code yX6_heldBy cX6_heldBy 5 (some .long) ∈ bg_B := bg_c4 28 rfl rfl
theorem w_ml_X6_117 : Cond.methodLink "SurvivorPurseModel" 117 yX6_stands ∈ bg_B := bg_c4 29 rfl rfl
theorem w_im_yX6_stands : Cond.instanceMethod yX6_stands ∈ bg_B := bg_c4 31 rfl rfl
theorem w_co_yX6_stands : Cond.code yX6_stands cX6_stands 4 (some .int) ∈ bg_B := bg_c4 32 rfl rfl
theorem w_ml_X6_101 : Cond.methodLink "SurvivorPurseModel" 101 yX6_hasLife ∈ bg_B := bg_c4 33 rfl rfl
theorem w_im_yX6_hasLife : Cond.instanceMethod yX6_hasLife ∈ bg_B := bg_c4 35 rfl rfl
theorem w_co_yX6_hasLife : Cond.code yX6_hasLife cX6_hasLife 3 (some .boolean) ∈ bg_B := bg_c4 36 rfl rfl
theorem w_ml_X6_105 : Cond.methodLink "SurvivorPurseModel" 105 yX6_isSure ∈ bg_B := bg_c4 37 rfl rfl
theorem w_im_yX6_isSure : Cond.instanceMethod yX6_isSure ∈ bg_B := bg_c4 39 rfl rfl
theorem w_co_yX6_isSure : Cond.code yX6_isSure cX6_isSure 4 (some .boolean) ∈ bg_B := bg_c4 40 rfl rfl
theorem w_ml_X6_109 : Cond.methodLink "SurvivorPurseModel" 109 yX6_areDead ∈ bg_B := bg_c4 41 rfl rfl
theorem w_im_yX6_areDead : Cond.instanceMethod yX6_areDead ∈ bg_B := bg_c4 43 rfl rfl
theorem w_co_yX6_areDead : Cond.code yX6_areDead cX6_areDead 4 (some .boolean) ∈ bg_B := bg_c4 44 rfl rfl
theorem w_ml_L_72 : Cond.methodLink "SurvivorPurseLaw" 72 yX6_drew ∈ bg_B := bg_c4 45 rfl rfl
theorem w_im_yX6_drew : Cond.instanceMethod yX6_drew ∈ bg_B := bg_c4 46 rfl rfl
theorem w_se_yX6_drew : Cond.selects "SurvivorPurseModel" yX6_drew yX6_drew ∈ bg_B := bg_c4 47 rfl rfl
theorem w_co_yX6_drew : Cond.code yX6_drew cX6_drew 3 (some .long) ∈ bg_B := bg_c4 48 rfl rfl
theorem w_ml_L_76 : Cond.methodLink "SurvivorPurseLaw" 76 yX6_proof ∈ bg_B := bg_c4 49 rfl rfl
theorem w_im_yX6_proof : Cond.instanceMethod yX6_proof ∈ bg_B := bg_c4 50 rfl rfl
theorem w_se_yX6_proof : Cond.selects "SurvivorPurseModel" yX6_proof yX6_proof ∈ bg_B := bg_c4 51 rfl rfl
theorem w_co_yX6_proof : Cond.code yX6_proof cX6_proof 8 (some .long) ∈ bg_B := bg_c4 52 rfl rfl
theorem w_ml_X6_121 : Cond.methodLink "SurvivorPurseModel" 121 yX6_pays ∈ bg_B := bg_c4 53 rfl rfl
theorem w_im_yX6_pays : Cond.instanceMethod yX6_pays ∈ bg_B := bg_c4 55 rfl rfl
theorem w_co_yX6_pays : Cond.code yX6_pays cX6_pays 13 none ∈ bg_B := bg_c4 56 rfl rfl
theorem w_ml_L_80 : Cond.methodLink "SurvivorPurseLaw" 80 yX6_death ∈ bg_B := bg_c4 57 rfl rfl
theorem w_im_yX6_death : Cond.instanceMethod yX6_death ∈ bg_B := bg_c4 58 rfl rfl
theorem w_se_yX6_death : Cond.selects "SurvivorPurseModel" yX6_death yX6_death ∈ bg_B := bg_c4 59 rfl rfl
theorem w_co_yX6_death : Cond.code yX6_death cX6_death 6 (some .long) ∈ bg_B := bg_c4 60 rfl rfl
theorem w_ml_X6_125 : Cond.methodLink "SurvivorPurseModel" 125 yX6_ends ∈ bg_B := bg_c4 61 rfl rfl
theorem w_im_yX6_ends : Cond.instanceMethod yX6_ends ∈ bg_B := bg_c4 63 rfl rfl
theorem w_co_yX6_ends : Cond.code yX6_ends cX6_ends 11 (some .long) ∈ bg_B := bg_c4 64 rfl rfl
theorem w_ml_L_84 : Cond.methodLink "SurvivorPurseLaw" 84 yX6_close ∈ bg_B := bg_c4 65 rfl rfl
theorem w_im_yX6_close : Cond.instanceMethod yX6_close ∈ bg_B := bg_c4 66 rfl rfl
theorem w_se_yX6_close : Cond.selects "SurvivorPurseModel" yX6_close yX6_close ∈ bg_B := bg_c4 67 rfl rfl
theorem w_co_yX6_close : Cond.code yX6_close cX6_close 14 (some .long) ∈ bg_B := bg_c4 68 rfl rfl
theorem w_kl_X6_128 : Cond.constantLong "SurvivorPurseModel" 128 (100000000) ∈ bg_B := bg_c4 69 rfl rfl
theorem w_kl_X6_130 : Cond.constantLong "SurvivorPurseModel" 130 (60) ∈ bg_B := bg_c4 70 rfl rfl
theorem w_ml_X6_132 : Cond.methodLink "SurvivorPurseModel" 132 yX6_backGoes ∈ bg_B := bg_c4 71 rfl rfl
theorem w_im_yX6_backGoes : Cond.instanceMethod yX6_backGoes ∈ bg_B := bg_c4 73 rfl rfl
theorem w_co_yX6_backGoes : Cond.code yX6_backGoes cX6_backGoes 7 none ∈ bg_B := bg_c4 74 rfl rfl
theorem w_ml_L_88 : Cond.methodLink "SurvivorPurseLaw" 88 yX6_of ∈ bg_B := bg_c4 75 rfl rfl
theorem w_im_yX6_of : Cond.instanceMethod yX6_of ∈ bg_B := bg_c4 76 rfl rfl
theorem w_se_yX6_of : Cond.selects "SurvivorPurseModel" yX6_of yX6_of ∈ bg_B := bg_c4 77 rfl rfl
theorem w_co_yX6_of : Cond.code yX6_of cX6_of 3 (some .long) ∈ bg_B := bg_c4 78 rfl rfl
theorem w_ml_L_92 : Cond.methodLink "SurvivorPurseLaw" 92 yX6_about ∈ bg_B := bg_c4 79 rfl rfl
theorem w_im_yX6_about : Cond.instanceMethod yX6_about ∈ bg_B := bg_c4 80 rfl rfl
theorem w_se_yX6_about : Cond.selects "SurvivorPurseModel" yX6_about yX6_about ∈ bg_B := bg_c4 81 rfl rfl
theorem w_co_yX6_about : Cond.code yX6_about cX6_about 6 (some .long) ∈ bg_B := bg_c4 82 rfl rfl
theorem w_ml_L_96 : Cond.methodLink "SurvivorPurseLaw" 96 yX6_told ∈ bg_B := bg_c4 83 rfl rfl
theorem w_im_yX6_told : Cond.instanceMethod yX6_told ∈ bg_B := bg_c4 84 rfl rfl
theorem w_se_yX6_told : Cond.selects "SurvivorPurseModel" yX6_told yX6_told ∈ bg_B := bg_c4 85 rfl rfl
theorem w_co_yX6_told : Cond.code yX6_told cX6_told 5 (some .long) ∈ bg_B := bg_c4 86 rfl rfl
theorem w_ml_L_101 : Cond.methodLink "SurvivorPurseLaw" 101 yX6_keep ∈ bg_B := bg_c4 87 rfl rfl
theorem w_im_yX6_keep : Cond.instanceMethod yX6_keep ∈ bg_B := bg_c4 88 rfl rfl
theorem w_se_yX6_keep : Cond.selects "SurvivorPurseModel" yX6_keep yX6_keep ∈ bg_B := bg_c4 89 rfl rfl
theorem w_co_yX6_keep : Cond.code yX6_keep cX6_keep 2 (some .long) ∈ bg_B := bg_c4 90 rfl rfl
theorem w_ml_L_105 : Cond.methodLink "SurvivorPurseLaw" 105 yX6_back ∈ bg_B := bg_c4 91 rfl rfl
theorem w_im_yX6_back : Cond.instanceMethod yX6_back ∈ bg_B := bg_c4 92 rfl rfl
theorem w_se_yX6_back : Cond.selects "SurvivorPurseModel" yX6_back yX6_back ∈ bg_B := bg_c4 93 rfl rfl
theorem w_co_yX6_back : Cond.code yX6_back cX6_back 2 (some .long) ∈ bg_B := bg_c4 94 rfl rfl
theorem w_se_yX6_later : Cond.selects "SurvivorPurseModel" yX6_later yX6_later ∈ bg_B := bg_sel 0 (by decide +kernel) rfl
theorem w_se_yX6_isClass : Cond.selects "SurvivorPurseModel" yX6_isClass yX6_isClass ∈ bg_B := bg_sel 1 (by decide +kernel) rfl
theorem w_se_yX6_isMember : Cond.selects "SurvivorPurseModel" yX6_isMember yX6_isMember ∈ bg_B := bg_sel 2 (by decide +kernel) rfl
theorem w_se_yX6_isDead : Cond.selects "SurvivorPurseModel" yX6_isDead yX6_isDead ∈ bg_B := bg_sel 3 (by decide +kernel) rfl
theorem w_se_yX6_classFor : Cond.selects "SurvivorPurseModel" yX6_classFor yX6_classFor ∈ bg_B := bg_sel 4 (by decide +kernel) rfl
theorem w_se_yX6_isShare : Cond.selects "SurvivorPurseModel" yX6_isShare yX6_isShare ∈ bg_B := bg_sel 5 (by decide +kernel) rfl
theorem w_se_yX6_parts : Cond.selects "SurvivorPurseModel" yX6_parts yX6_parts ∈ bg_B := bg_sel 6 (by decide +kernel) rfl
theorem w_se_yX6_heldBy : Cond.selects "SurvivorPurseModel" yX6_heldBy yX6_heldBy ∈ bg_B := bg_sel 7 (by decide +kernel) rfl
theorem w_se_yX6_stands : Cond.selects "SurvivorPurseModel" yX6_stands yX6_stands ∈ bg_B := bg_sel 8 (by decide +kernel) rfl
theorem w_se_yX6_hasLife : Cond.selects "SurvivorPurseModel" yX6_hasLife yX6_hasLife ∈ bg_B := bg_sel 9 (by decide +kernel) rfl
theorem w_se_yX6_isSure : Cond.selects "SurvivorPurseModel" yX6_isSure yX6_isSure ∈ bg_B := bg_sel 10 (by decide +kernel) rfl
theorem w_se_yX6_areDead : Cond.selects "SurvivorPurseModel" yX6_areDead yX6_areDead ∈ bg_B := bg_sel 11 (by decide +kernel) rfl
theorem w_se_yX6_pays : Cond.selects "SurvivorPurseModel" yX6_pays yX6_pays ∈ bg_B := bg_sel 12 (by decide +kernel) rfl
theorem w_se_yX6_ends : Cond.selects "SurvivorPurseModel" yX6_ends yX6_ends ∈ bg_B := bg_sel 13 (by decide +kernel) rfl
theorem w_se_yX6_backGoes : Cond.selects "SurvivorPurseModel" yX6_backGoes yX6_backGoes ∈ bg_B := bg_sel 14 (by decide +kernel) rfl
set_option maxRecDepth 20000 in
theorem w_lay_X0 : ∀ w ∈ u_ws RX0 TX0 13, w ∈ bg_B := fun w h => bg_in (List.mem_append_right _ ((show ∀ w ∈ u_ws RX0 TX0 13, w ∈ tables_1 by decide +kernel) w h)) ((List.all_eq_true.mp (show (u_ws RX0 TX0 13).all goodWord = true by decide +kernel)) w h)
set_option maxRecDepth 20000 in
theorem w_lay_X1 : ∀ w ∈ u_ws RX1 TX1 7, w ∈ bg_B := fun w h => bg_in (List.mem_append_right _ ((show ∀ w ∈ u_ws RX1 TX1 7, w ∈ tables_1 by decide +kernel) w h)) ((List.all_eq_true.mp (show (u_ws RX1 TX1 7).all goodWord = true by decide +kernel)) w h)
set_option maxRecDepth 20000 in
theorem w_lay_X2 : ∀ w ∈ u_ws RX2 TX2 6, w ∈ bg_B := fun w h => bg_in (List.mem_append_right _ ((show ∀ w ∈ u_ws RX2 TX2 6, w ∈ tables_1 by decide +kernel) w h)) ((List.all_eq_true.mp (show (u_ws RX2 TX2 6).all goodWord = true by decide +kernel)) w h)
set_option maxRecDepth 20000 in
theorem w_lay_X3 : ∀ w ∈ u_ws RX3 TX3 16, w ∈ bg_B := fun w h => bg_in (List.mem_append_right _ ((show ∀ w ∈ u_ws RX3 TX3 16, w ∈ tables_1 by decide +kernel) w h)) ((List.all_eq_true.mp (show (u_ws RX3 TX3 16).all goodWord = true by decide +kernel)) w h)
set_option maxRecDepth 20000 in
theorem w_lay_X4 : ∀ w ∈ u_ws RX4 TX4 1, w ∈ bg_B := fun w h => bg_in (List.mem_append_right _ ((show ∀ w ∈ u_ws RX4 TX4 1, w ∈ tables_1 by decide +kernel) w h)) ((List.all_eq_true.mp (show (u_ws RX4 TX4 1).all goodWord = true by decide +kernel)) w h)
set_option maxRecDepth 20000 in
theorem w_lay_X5 : ∀ w ∈ u_ws RX5 TX5 2, w ∈ bg_B := fun w h => bg_in (List.mem_append_right _ ((show ∀ w ∈ u_ws RX5 TX5 2, w ∈ tables_1 by decide +kernel) w h)) ((List.all_eq_true.mp (show (u_ws RX5 TX5 2).all goodWord = true by decide +kernel)) w h)
set_option maxRecDepth 20000 in
theorem w_lay_X6 : ∀ w ∈ u_ws RX6 TX6 7, w ∈ bg_B := fun w h => bg_in (List.mem_append_right _ ((show ∀ w ∈ u_ws RX6 TX6 7, w ∈ tables_1 by decide +kernel) w h)) ((List.all_eq_true.mp (show (u_ws RX6 TX6 7).all goodWord = true by decide +kernel)) w h)
end
section
def fsX0 (ad : Nat → Nat) (M : MM) (c : Nat) : List Value := [.ref (ad (c + 1)), .ref (ad (c + 3)), .ref (ad (c + 4)), .ref (ad (c + 5)), .int (gI M c 4), .int (gI M c 5), .int (gI M c 6), .int (gI M c 7), .int (gI M c 8), .int (gI M c 9), .long (gL M c 10), .long (gL M c 11), .long (gL M c 12)]
def fsX1 (ad : Nat → Nat) (M : MM) (c : Nat) : List Value := [.int (gI M c 0), .long (gL M c 1), .long (gL M c 2), .int (gI M c 3), .int (bo (gI M c 4)), .int (bo (gI M c 5)), .int (gI M c 6)]
def fsX2 (ad : Nat → Nat) (M : MM) (c : Nat) : List Value := [.int (gI M c 0), .int (gI M c 1), .int (gI M c 2), .long (gL M c 3), .long (gL M c 4), .long (gL M c 5)]
def fsX3 (ad : Nat → Nat) (M : MM) (c : Nat) : List Value := [.int (gI M c 0), .int (gI M c 1), .int (gI M c 2), .int (gI M c 3), .int (gI M c 4), .int (gI M c 5), .long (gL M c 6), .long (gL M c 7), .int (gI M c 8), .int (gI M c 9), .int (gI M c 10), .long (gL M c 11), .int (gI M c 12), .int (bo (gI M c 13)), .int (gI M c 14), .ref (ad (c + 40))]
def fsX4 (ad : Nat → Nat) (M : MM) (c : Nat) : List Value := [.ref (ad (c + 1))]
def fsX5 (ad : Nat → Nat) (n : Nat) : List Value := [.ref (ad 1), if n ≤ 117 then .null else .ref (ad 117)]
def kd (c : Nat) : Nat := if c = 0 then 5 else if (c - 1) % 116 = 0 then 0 else if (c - 1) % 116 = 1 then 4 else if (c - 1) % 116 = 2 then 7 else if (c - 1) % 116 = 3 then 9 else if (c - 1) % 116 = 4 then 10 else if (c - 1) % 116 = 5 then 11 else if (c - 1) % 116 < 30 then 1 else if (c - 1) % 116 < 36 then 2 else if (c - 1) % 116 < 76 then 3 else 8
def entC (E : EE) (ad : Nat → Nat) (n : Nat) (M : MM) (c : Nat) : va_E :=
  if kd c = 0 then .inr (0, fsX0 ad M c) else if kd c = 1 then .inr (1, fsX1 ad M c) else if kd c = 2 then .inr (2, fsX2 ad M c) else if kd c = 3 then .inr (3, fsX3 ad M c) else if kd c = 4 then .inr (4, fsX4 ad M c) else if kd c = 5 then .inr (5, fsX5 ad n)
  else if kd c = 7 then .inl (E.2 0, 111, .inl (gI M c)) else if kd c = 8 then .inl (E.2 1, 60, .inr (.inl (gL M c)))
  else if kd c = 9 then .inl (E.2 2, 24, .inr (.inr (.inr (.inr (fun i => some (ad (c + 3 + i)))))))
  else if kd c = 10 then .inl (E.2 3, 6, .inr (.inr (.inr (.inr (fun i => some (ad (c + 26 + i)))))))
  else .inl (E.2 4, 40, .inr (.inr (.inr (.inr (fun i => some (ad (c + 31 + i)))))))
section EntC
variable {E : EE} {ad : Nat → Nat} {n : Nat} {M : MM} {c : Nat}
theorem e0 (h : kd c = 0) : entC E ad n M c = .inr (0, fsX0 ad M c) := by simp [entC, h]
theorem e1 (h : kd c = 1) : entC E ad n M c = .inr (1, fsX1 ad M c) := by simp [entC, h]
theorem e2 (h : kd c = 2) : entC E ad n M c = .inr (2, fsX2 ad M c) := by simp [entC, h]
theorem e3 (h : kd c = 3) : entC E ad n M c = .inr (3, fsX3 ad M c) := by simp [entC, h]
theorem e4 (h : kd c = 4) : entC E ad n M c = .inr (4, fsX4 ad M c) := by simp [entC, h]
theorem e5 (h : kd c = 5) : entC E ad n M c = .inr (5, fsX5 ad n) := by simp [entC, h]
theorem e7 (h : kd c = 7) : entC E ad n M c = .inl (E.2 0, 111, .inl (gI M c)) := by simp [entC, h]
theorem e8 (h : kd c = 8) : entC E ad n M c = .inl (E.2 1, 60, .inr (.inl (gL M c))) := by simp [entC, h]
theorem e9 (h : kd c = 9) : entC E ad n M c = .inl (E.2 2, 24, .inr (.inr (.inr (.inr (fun i => some (ad (c + 3 + i))))))) := by simp [entC, h]
theorem e10 (h : kd c = 10) : entC E ad n M c = .inl (E.2 3, 6, .inr (.inr (.inr (.inr (fun i => some (ad (c + 26 + i))))))) := by simp [entC, h]
theorem e11 (h : kd c = 11) : entC E ad n M c = .inl (E.2 4, 40, .inr (.inr (.inr (.inr (fun i => some (ad (c + 31 + i))))))) := by simp [entC, h]
theorem e9_1 : entC E ad n M 4 = .inl (E.2 2, 24, .inr (.inr (.inr (.inr (fun i => some (ad (7 + i))))))) := e9 rfl
theorem e10_1 : entC E ad n M 5 = .inl (E.2 3, 6, .inr (.inr (.inr (.inr (fun i => some (ad (31 + i))))))) := e10 rfl
theorem e11_1 : entC E ad n M 6 = .inl (E.2 4, 40, .inr (.inr (.inr (.inr (fun i => some (ad (37 + i))))))) := e11 rfl
theorem gI_ne {k : Nat} {v : Int32} {c' : Nat} (h : c' ≠ c) : gI (sI M c k v) c' = gI M c' := by funext j; simp [gI, sI, h]
theorem gL_ne {k : Nat} {v : Int64} {c' : Nat} (h : c' ≠ c) : gL (sL M c k v) c' = gL M c' := by funext j; simp [gL, sL, h]
theorem gL_sI {k : Nat} {v : Int32} : gL (sI M c k v) = gL M := rfl
theorem gI_sL {k : Nat} {v : Int64} : gI (sL M c k v) = gI M := rfl
theorem gI_upd {k : Nat} {v : Int32} : gI (sI M c k v) c = upd (gI M c) k v := by funext j; simp [gI, sI, upd]
theorem gL_upd {k : Nat} {v : Int64} : gL (sL M c k v) c = vp_updL (gL M c) k v := by funext j; simp [gL, sL, vp_updL]
theorem entC_sI {k : Nat} {v : Int32} (c' : Nat) (h : c' ≠ c) : entC E ad n (sI M c k v) c' = entC E ad n M c' := by
  simp only [entC, fsX0, fsX1, fsX2, fsX3, fsX4, gI_ne h, gL_sI]
theorem entC_sL {k : Nat} {v : Int64} (c' : Nat) (h : c' ≠ c) : entC E ad n (sL M c k v) c' = entC E ad n M c' := by
  simp only [entC, fsX0, fsX1, fsX2, fsX3, fsX4, gL_ne h, gI_sL]
theorem h1_X0_4 {v : Int32} (h : kd c = 0) : entC E ad n (sI M c 4 v) c = .inr (0, (fsX0 ad M c).set 4 (.int v)) := by rw [e0 h]; simp [fsX0, gI, gL, sI]
theorem h1_X0_5 {v : Int32} (h : kd c = 0) : entC E ad n (sI M c 5 v) c = .inr (0, (fsX0 ad M c).set 5 (.int v)) := by rw [e0 h]; simp [fsX0, gI, gL, sI]
theorem h1_X0_6 {v : Int32} (h : kd c = 0) : entC E ad n (sI M c 6 v) c = .inr (0, (fsX0 ad M c).set 6 (.int v)) := by rw [e0 h]; simp [fsX0, gI, gL, sI]
theorem h1_X0_7 {v : Int32} (h : kd c = 0) : entC E ad n (sI M c 7 v) c = .inr (0, (fsX0 ad M c).set 7 (.int v)) := by rw [e0 h]; simp [fsX0, gI, gL, sI]
theorem h1_X0_8 {v : Int32} (h : kd c = 0) : entC E ad n (sI M c 8 v) c = .inr (0, (fsX0 ad M c).set 8 (.int v)) := by rw [e0 h]; simp [fsX0, gI, gL, sI]
theorem h1_X0_9 {v : Int32} (h : kd c = 0) : entC E ad n (sI M c 9 v) c = .inr (0, (fsX0 ad M c).set 9 (.int v)) := by rw [e0 h]; simp [fsX0, gI, gL, sI]
theorem h1_X0_10 {v : Int64} (h : kd c = 0) : entC E ad n (sL M c 10 v) c = .inr (0, (fsX0 ad M c).set 10 (.long v)) := by rw [e0 h]; simp [fsX0, gI, gL, sL]
theorem h1_X0_11 {v : Int64} (h : kd c = 0) : entC E ad n (sL M c 11 v) c = .inr (0, (fsX0 ad M c).set 11 (.long v)) := by rw [e0 h]; simp [fsX0, gI, gL, sL]
theorem h1_X0_12 {v : Int64} (h : kd c = 0) : entC E ad n (sL M c 12 v) c = .inr (0, (fsX0 ad M c).set 12 (.long v)) := by rw [e0 h]; simp [fsX0, gI, gL, sL]
theorem h1_X1_0 {v : Int32} (h : kd c = 1) : entC E ad n (sI M c 0 v) c = .inr (1, (fsX1 ad M c).set 0 (.int v)) := by rw [e1 h]; simp [fsX1, gI, gL, sI]
theorem h1_X1_1 {v : Int64} (h : kd c = 1) : entC E ad n (sL M c 1 v) c = .inr (1, (fsX1 ad M c).set 1 (.long v)) := by rw [e1 h]; simp [fsX1, gI, gL, sL]
theorem h1_X1_2 {v : Int64} (h : kd c = 1) : entC E ad n (sL M c 2 v) c = .inr (1, (fsX1 ad M c).set 2 (.long v)) := by rw [e1 h]; simp [fsX1, gI, gL, sL]
theorem h1_X1_3 {v : Int32} (h : kd c = 1) : entC E ad n (sI M c 3 v) c = .inr (1, (fsX1 ad M c).set 3 (.int v)) := by rw [e1 h]; simp [fsX1, gI, gL, sI]
theorem h1_X1_4 {v : Int32} (h : kd c = 1) (hv : bo v = v) : entC E ad n (sI M c 4 v) c = .inr (1, (fsX1 ad M c).set 4 (.int v)) := by rw [e1 h]; simp [fsX1, gI, gL, sI, hv]
theorem h1_X1_5 {v : Int32} (h : kd c = 1) (hv : bo v = v) : entC E ad n (sI M c 5 v) c = .inr (1, (fsX1 ad M c).set 5 (.int v)) := by rw [e1 h]; simp [fsX1, gI, gL, sI, hv]
theorem h1_X1_6 {v : Int32} (h : kd c = 1) : entC E ad n (sI M c 6 v) c = .inr (1, (fsX1 ad M c).set 6 (.int v)) := by rw [e1 h]; simp [fsX1, gI, gL, sI]
theorem h1_X2_0 {v : Int32} (h : kd c = 2) : entC E ad n (sI M c 0 v) c = .inr (2, (fsX2 ad M c).set 0 (.int v)) := by rw [e2 h]; simp [fsX2, gI, gL, sI]
theorem h1_X2_1 {v : Int32} (h : kd c = 2) : entC E ad n (sI M c 1 v) c = .inr (2, (fsX2 ad M c).set 1 (.int v)) := by rw [e2 h]; simp [fsX2, gI, gL, sI]
theorem h1_X2_2 {v : Int32} (h : kd c = 2) : entC E ad n (sI M c 2 v) c = .inr (2, (fsX2 ad M c).set 2 (.int v)) := by rw [e2 h]; simp [fsX2, gI, gL, sI]
theorem h1_X2_3 {v : Int64} (h : kd c = 2) : entC E ad n (sL M c 3 v) c = .inr (2, (fsX2 ad M c).set 3 (.long v)) := by rw [e2 h]; simp [fsX2, gI, gL, sL]
theorem h1_X2_4 {v : Int64} (h : kd c = 2) : entC E ad n (sL M c 4 v) c = .inr (2, (fsX2 ad M c).set 4 (.long v)) := by rw [e2 h]; simp [fsX2, gI, gL, sL]
theorem h1_X2_5 {v : Int64} (h : kd c = 2) : entC E ad n (sL M c 5 v) c = .inr (2, (fsX2 ad M c).set 5 (.long v)) := by rw [e2 h]; simp [fsX2, gI, gL, sL]
theorem h1_X3_0 {v : Int32} (h : kd c = 3) : entC E ad n (sI M c 0 v) c = .inr (3, (fsX3 ad M c).set 0 (.int v)) := by rw [e3 h]; simp [fsX3, gI, gL, sI]
theorem h1_X3_1 {v : Int32} (h : kd c = 3) : entC E ad n (sI M c 1 v) c = .inr (3, (fsX3 ad M c).set 1 (.int v)) := by rw [e3 h]; simp [fsX3, gI, gL, sI]
theorem h1_X3_2 {v : Int32} (h : kd c = 3) : entC E ad n (sI M c 2 v) c = .inr (3, (fsX3 ad M c).set 2 (.int v)) := by rw [e3 h]; simp [fsX3, gI, gL, sI]
theorem h1_X3_3 {v : Int32} (h : kd c = 3) : entC E ad n (sI M c 3 v) c = .inr (3, (fsX3 ad M c).set 3 (.int v)) := by rw [e3 h]; simp [fsX3, gI, gL, sI]
theorem h1_X3_4 {v : Int32} (h : kd c = 3) : entC E ad n (sI M c 4 v) c = .inr (3, (fsX3 ad M c).set 4 (.int v)) := by rw [e3 h]; simp [fsX3, gI, gL, sI]
theorem h1_X3_5 {v : Int32} (h : kd c = 3) : entC E ad n (sI M c 5 v) c = .inr (3, (fsX3 ad M c).set 5 (.int v)) := by rw [e3 h]; simp [fsX3, gI, gL, sI]
theorem h1_X3_6 {v : Int64} (h : kd c = 3) : entC E ad n (sL M c 6 v) c = .inr (3, (fsX3 ad M c).set 6 (.long v)) := by rw [e3 h]; simp [fsX3, gI, gL, sL]
theorem h1_X3_7 {v : Int64} (h : kd c = 3) : entC E ad n (sL M c 7 v) c = .inr (3, (fsX3 ad M c).set 7 (.long v)) := by rw [e3 h]; simp [fsX3, gI, gL, sL]
theorem h1_X3_8 {v : Int32} (h : kd c = 3) : entC E ad n (sI M c 8 v) c = .inr (3, (fsX3 ad M c).set 8 (.int v)) := by rw [e3 h]; simp [fsX3, gI, gL, sI]
theorem h1_X3_9 {v : Int32} (h : kd c = 3) : entC E ad n (sI M c 9 v) c = .inr (3, (fsX3 ad M c).set 9 (.int v)) := by rw [e3 h]; simp [fsX3, gI, gL, sI]
theorem h1_X3_10 {v : Int32} (h : kd c = 3) : entC E ad n (sI M c 10 v) c = .inr (3, (fsX3 ad M c).set 10 (.int v)) := by rw [e3 h]; simp [fsX3, gI, gL, sI]
theorem h1_X3_11 {v : Int64} (h : kd c = 3) : entC E ad n (sL M c 11 v) c = .inr (3, (fsX3 ad M c).set 11 (.long v)) := by rw [e3 h]; simp [fsX3, gI, gL, sL]
theorem h1_X3_12 {v : Int32} (h : kd c = 3) : entC E ad n (sI M c 12 v) c = .inr (3, (fsX3 ad M c).set 12 (.int v)) := by rw [e3 h]; simp [fsX3, gI, gL, sI]
theorem h1_X3_13 {v : Int32} (h : kd c = 3) (hv : bo v = v) : entC E ad n (sI M c 13 v) c = .inr (3, (fsX3 ad M c).set 13 (.int v)) := by rw [e3 h]; simp [fsX3, gI, gL, sI, hv]
theorem h1_X3_14 {v : Int32} (h : kd c = 3) : entC E ad n (sI M c 14 v) c = .inr (3, (fsX3 ad M c).set 14 (.int v)) := by rw [e3 h]; simp [fsX3, gI, gL, sI]
theorem h1_7 {v : Int32} {k : Nat} (h : kd c = 7) : entC E ad n (sI M c k v) c = .inl (E.2 0, 111, .inl (upd (gI M c) k v)) := by rw [e7 h, gI_upd]
theorem h1_8 {v : Int64} {k : Nat} (h : kd c = 8) : entC E ad n (sL M c k v) c = .inl (E.2 1, 60, .inr (.inl (vp_updL (gL M c) k v))) := by rw [e8 h, gL_upd]
end EntC
def ext (k : Nat) : Nat := if k = 3 then 40 else if k = 0 then 115 else if k = 4 then 1 else if k = 9 then 26 else if k = 10 then 31 else if k = 11 then 110 else 0
def ok (k n c : Nat) : Prop := kd c = k ∧ c + ext k < n
theorem ok_lt {k n c : Nat} (h : ok k n c) : c < n := Nat.lt_of_le_of_lt (Nat.le_add_right _ _) h.2
theorem kd_0 {c : Nat} : kd c = 0 ↔ c ≠ 0 ∧ (c - 1) % 116 = 0 := by
  unfold kd
  repeat' split
  all_goals omega
theorem kd_4 {c : Nat} : kd c = 4 ↔ c ≠ 0 ∧ (c - 1) % 116 = 1 := by
  unfold kd
  repeat' split
  all_goals omega
theorem kd_7 {c : Nat} : kd c = 7 ↔ c ≠ 0 ∧ (c - 1) % 116 = 2 := by
  unfold kd
  repeat' split
  all_goals omega
theorem kd_9 {c : Nat} : kd c = 9 ↔ c ≠ 0 ∧ (c - 1) % 116 = 3 := by
  unfold kd
  repeat' split
  all_goals omega
theorem kd_10 {c : Nat} : kd c = 10 ↔ c ≠ 0 ∧ (c - 1) % 116 = 4 := by
  unfold kd
  repeat' split
  all_goals omega
theorem kd_11 {c : Nat} : kd c = 11 ↔ c ≠ 0 ∧ (c - 1) % 116 = 5 := by
  unfold kd
  repeat' split
  all_goals omega
theorem kd_1 {c : Nat} : kd c = 1 ↔ c ≠ 0 ∧ 6 ≤ (c - 1) % 116 ∧ (c - 1) % 116 < 30 := by
  unfold kd
  repeat' split
  all_goals omega
theorem kd_2 {c : Nat} : kd c = 2 ↔ c ≠ 0 ∧ 30 ≤ (c - 1) % 116 ∧ (c - 1) % 116 < 36 := by
  unfold kd
  repeat' split
  all_goals omega
theorem kd_3 {c : Nat} : kd c = 3 ↔ c ≠ 0 ∧ 36 ≤ (c - 1) % 116 ∧ (c - 1) % 116 < 76 := by
  unfold kd
  repeat' split
  all_goals omega
theorem kd_8 {c : Nat} : kd c = 8 ↔ c ≠ 0 ∧ 76 ≤ (c - 1) % 116 := by
  unfold kd
  repeat' split
  all_goals omega
theorem ok_tab {n c : Nat} (h : ok 0 n c) : ok 4 n (c + 1) := by
  obtain ⟨h1, h2⟩ := h
  have h3 := kd_0.mp h1
  refine ⟨kd_4.mpr ?_, ?_⟩
  · omega
  · have h4 : c + 115 < n := h2
    show c + 1 + 1 < n
    omega
theorem ok_ma {n c : Nat} (h : ok 0 n c) : ok 9 n (c + 3) := by
  obtain ⟨h1, h2⟩ := h
  have h3 := kd_0.mp h1
  refine ⟨kd_9.mpr ?_, ?_⟩
  · omega
  · have h4 : c + 115 < n := h2
    show c + 3 + 26 < n
    omega
theorem ok_ra {n c : Nat} (h : ok 0 n c) : ok 10 n (c + 4) := by
  obtain ⟨h1, h2⟩ := h
  have h3 := kd_0.mp h1
  refine ⟨kd_10.mpr ?_, ?_⟩
  · omega
  · have h4 : c + 115 < n := h2
    show c + 4 + 31 < n
    omega
theorem ok_sa {n c : Nat} (h : ok 0 n c) : ok 11 n (c + 5) := by
  obtain ⟨h1, h2⟩ := h
  have h3 := kd_0.mp h1
  refine ⟨kd_11.mpr ?_, ?_⟩
  · omega
  · have h4 : c + 115 < n := h2
    show c + 5 + 110 < n
    omega
theorem ok_al {n c : Nat} (h : ok 4 n c) : ok 7 n (c + 1) := by
  obtain ⟨h1, h2⟩ := h
  have h3 := kd_4.mp h1
  refine ⟨kd_7.mpr ?_, ?_⟩
  · omega
  · have h4 : c + 1 < n := h2
    show c + 1 + 0 < n
    omega
theorem ok_dr {n c : Nat} (h : ok 3 n c) : ok 8 n (c + 40) := by
  obtain ⟨h1, h2⟩ := h
  have h3 := kd_3.mp h1
  refine ⟨kd_8.mpr ?_, ?_⟩
  · omega
  · have h4 : c + 40 < n := h2
    show c + 40 + 0 < n
    omega
theorem ok_mi {n c : Nat} {i : Nat} (h : ok 9 n c) (hi : i < 24) : ok 1 n (c + 3 + i) := by
  obtain ⟨h1, h2⟩ := h
  have h3 := kd_9.mp h1
  refine ⟨kd_1.mpr ?_, ?_⟩
  · omega
  · have h4 : c + 26 < n := h2
    show c + 3 + i + 0 < n
    omega
theorem ok_ri {n c : Nat} {i : Nat} (h : ok 10 n c) (hi : i < 6) : ok 2 n (c + 26 + i) := by
  obtain ⟨h1, h2⟩ := h
  have h3 := kd_10.mp h1
  refine ⟨kd_2.mpr ?_, ?_⟩
  · omega
  · have h4 : c + 31 < n := h2
    show c + 26 + i + 0 < n
    omega
theorem ok_si {n c : Nat} {i : Nat} (h : ok 11 n c) (hi : i < 40) : ok 3 n (c + 31 + i) := by
  obtain ⟨h1, h2⟩ := h
  have h3 := kd_11.mp h1
  refine ⟨kd_3.mpr ?_, ?_⟩
  · omega
  · have h4 : c + 110 < n := h2
    show c + 31 + i + 40 < n
    omega
theorem ok_b1 {n : Nat} (hn : 117 ≤ n) : ok 0 n 1 := ⟨rfl, show 1 + 115 < n by omega⟩
theorem ok_t1 {n : Nat} (hn : 117 ≤ n) : ok 4 n 2 := ok_tab (ok_b1 hn)
theorem ok_a1 {n : Nat} (hn : 117 ≤ n) : ok 7 n 3 := ok_al (ok_t1 hn)
theorem ok_ma1 {n : Nat} (hn : 117 ≤ n) : ok 9 n 4 := ok_ma (ok_b1 hn)
theorem ok_ra1 {n : Nat} (hn : 117 ≤ n) : ok 10 n 5 := ok_ra (ok_b1 hn)
theorem ok_sa1 {n : Nat} (hn : 117 ≤ n) : ok 11 n 6 := ok_sa (ok_b1 hn)
theorem ok_m1 {n i : Nat} (hn : 117 ≤ n) (hi : i < 24) : ok 1 n (7 + i) := ok_mi (ok_ma1 hn) hi
theorem ok_r1 {n i : Nat} (hn : 117 ≤ n) (hi : i < 6) : ok 2 n (31 + i) := ok_ri (ok_ra1 hn) hi
theorem ok_s1 {n i : Nat} (hn : 117 ≤ n) (hi : i < 40) : ok 3 n (37 + i) := ok_si (ok_sa1 hn) hi
theorem ok_p {n : Nat} (hn : 117 ≤ n) : ok 5 n 0 := ⟨rfl, show 0 + 0 < n by omega⟩
def fsX6 (ad : Nat → Nat) (M : MM) : List Value := [.ref (ad 1), .ref (ad 2), .int (bo (gI M 0 2)), .ref (ad 3), .ref (ad 4), .ref (ad 5), .ref (ad 6)]
def mlen (c : Nat) : Nat := if c = 1 then 5672 else if c = 2 then 5672 else if c = 3 then 7 else if c = 4 then 6 else 40
def entM (E : EE) (ad : Nat → Nat) (M : MM) (c : Nat) : va_E := if c = 0 then .inr (6, fsX6 ad M) else if c = 6 then .inl (E.2 0, 40, .inl (gI M 6)) else .inl (E.2 1, mlen c, .inr (.inl (gL M c)))
section EntM
variable {E : EE} {ad : Nat → Nat} {M : MM}
theorem m0 : entM E ad M 0 = .inr (6, fsX6 ad M) := rfl
theorem m1 : entM E ad M 1 = .inl (E.2 1, 5672, .inr (.inl (gL M 1))) := rfl
theorem m2 : entM E ad M 2 = .inl (E.2 1, 5672, .inr (.inl (gL M 2))) := rfl
theorem m3 : entM E ad M 3 = .inl (E.2 1, 7, .inr (.inl (gL M 3))) := rfl
theorem m4 : entM E ad M 4 = .inl (E.2 1, 6, .inr (.inl (gL M 4))) := rfl
theorem m5 : entM E ad M 5 = .inl (E.2 1, 40, .inr (.inl (gL M 5))) := rfl
theorem m6 : entM E ad M 6 = .inl (E.2 0, 40, .inl (gI M 6)) := rfl
theorem entM_sI {c k : Nat} {v : Int32} (c' : Nat) (h : c' ≠ c) : entM E ad (sI M c k v) c' = entM E ad M c' := by
  unfold entM
  split
  · subst c'; simp only [fsX6, gI_ne h]
  · split
    · subst c'; simp only [gI_ne h]
    · simp only [gL_sI]
theorem entM_sL {c k : Nat} {v : Int64} (c' : Nat) (h : c' ≠ c) : entM E ad (sL M c k v) c' = entM E ad M c' := by
  unfold entM
  split
  · subst c'; simp only [fsX6, gI_sL]
  · split
    · subst c'; simp only [gI_sL]
    · simp only [gL_ne h]
theorem n1 {v : Int64} {k : Nat} : entM E ad (sL M 1 k v) 1 = .inl (E.2 1, 5672, .inr (.inl (vp_updL (gL M 1) k v))) := by rw [m1, gL_upd]
theorem n2 {v : Int64} {k : Nat} : entM E ad (sL M 2 k v) 2 = .inl (E.2 1, 5672, .inr (.inl (vp_updL (gL M 2) k v))) := by rw [m2, gL_upd]
theorem n3 {v : Int64} {k : Nat} : entM E ad (sL M 3 k v) 3 = .inl (E.2 1, 7, .inr (.inl (vp_updL (gL M 3) k v))) := by rw [m3, gL_upd]
theorem n4 {v : Int64} {k : Nat} : entM E ad (sL M 4 k v) 4 = .inl (E.2 1, 6, .inr (.inl (vp_updL (gL M 4) k v))) := by rw [m4, gL_upd]
theorem n5 {v : Int64} {k : Nat} : entM E ad (sL M 5 k v) 5 = .inl (E.2 1, 40, .inr (.inl (vp_updL (gL M 5) k v))) := by rw [m5, gL_upd]
theorem n6 {v : Int32} {k : Nat} : entM E ad (sI M 6 k v) 6 = .inl (E.2 0, 40, .inl (upd (gI M 6) k v)) := by rw [m6, gI_upd]
theorem h1_X6_2 {v : Int32} (hv : bo v = v) : entM E ad (sI M 0 2 v) 0 = .inr (6, (fsX6 ad M).set 2 (.int v)) := by rw [m0]; simp [fsX6, gI, sI, hv]
end EntM
theorem swn {x k : Int32} {a : Int} (h : ¬ x = k) (hk : k.toInt = a) : ¬ x.toInt = a := lv_neT h hk
end

/-! THE CLAIM OUT OF ONE WALK OF THE LAW'S BODY. Your part is whole_start (and what it stands on); all else here is the same for every law, but numbers. -/
def R_law : String := "SurvivorPurseLaw"
def lw_P (b : Addr) (xs : List Int32) (args : Array Value) (s : State) : Prop := args = #[.ref b] ∧ s.IntsAt b xs ∧ xs.length ≤ 3584 ∧ (Jvm.Cond.and given_1 narrow_1).before args s = true
def lw_Q (_ : Array Value) (s : State) (o : Outcome) (t : State) : Prop := o = .returned (some (.int 1)) ∧ Framed s o t [] 600000 7302250
def lw_Z (below : List Frame) (a : Array Value) (s : State) : State → Prop := fun t => ∃ o, t.status = .running ∧ Ended t below o ∧ lw_Q a s o t
/-- the law's own end, with 1 on the stack, nothing written that was there before, its room as the claim has it -/
theorem lw_ret {p : Program} {l : Launch} {e : Env} {s : State} {m : MethodId} {below : List Frame} {meth : Method} {c : Code} {b : Nat} (hx : p.tables.exec = Jvm.exec) (hb : c.code = code) (hr : meth.sig.returnType = ret) (hlocks : meth.locks = false) {pc : Nat} {H : Heap} {ls : Array Slot} (hdg : decode code pc = .ok (.ireturn, 1)) : W p l e room_1 s m #[Value.ref b] below meth c H [] 600000 7302250 (lw_Z below #[Value.ref b] s) (F0 m pc ls [.int 1]) := by
  intro T hT X
  obtain ⟨fs, hret, hrun, hended, hW, hframe⟩ := X.leave (v := some (.int 1)) (hlocks := hlocks) (fun h => by rw [hr] at h; cases h)
  have hmeth' : T.vm.method? m = some meth := X.method'
  refine ⟨T.setFrames fs, ?_, .returned (some (.int 1)), hrun, hended, rfl, ⟨_, rfl⟩, hW, hframe⟩
  jvm_step X.here [X.here.top, hx, hb, hdg, hmeth', hr, ret, narrow_b1]
  (try refine ⟨rfl, ?_⟩); (try refine ⟨rfl, ?_⟩)
  first | (intro acts; rw [hret _ acts rfl rfl rfl]) | rw [hret _ _ rfl rfl rfl]
  exact Steps.refl _
/-- what holds at the law's entry: the machine, the code, the tables' words (any of lw_tbl by 'hts w (by decide +kernel)'), the script of L ints xs at the cell b, what the Statement gives of the start (any of its parts by flat_of_before) -/
def lw_At (p : Program) (s : State) (m : MethodId) (meth : Method) (c : Code) (b L : Nat) (xs : Nat → Int32) : Prop :=
  p.tables.exec = Jvm.exec ∧ c.code = code ∧ meth.sig.returnType = ret ∧ c.maxLocals = 4 ∧ s.vm.findClass R_law = some m.cls ∧ (∀ w ∈ lw_tbl, w.before #[Value.ref b] s = true) ∧ va_X b L xs s s.heap ∧ b < s.heap.size ∧ meth.locks = false ∧ (Jvm.Cond.and given_1 narrow_1).before #[Value.ref b] s = true

set_option maxHeartbeats 4000000 in
set_option maxRecDepth 100000 in
theorem law_loop (l : Launch) {p : Program} {e : Env} {s : State} {m : MethodId} {below : List Frame} {meth : Method} {c : Code} {E : EE} {b L : Nat} {xs : Nat → Int32} {Rel : Nat → Nat → MM → MM → Prop} {N : Nat} (HS : SimAll N Rel) (C : LC E p s m c b L xs) (hr : meth.sig.returnType = ret) (hlk : meth.locks = false) : ∀ (f k n : Nat) (A B : MM) (ad am : Nat → Nat) (H : Heap) (locs : List Loc) (ls : Array Slot), L + 7 ≤ 7 * k + 7 * f → k ≤ 512 → LI E s n A B ad am H locs → Rel k n A B → lv_has ls 4 [(0, .ref b), (1, .ref (ad 0)), (2, .ref (am 0)), (3, .int (nI (7 * k)))] → W p l e room_1 s m #[Value.ref b] below meth c H locs (cf n) (sf n) (lw_Z below #[Value.ref b] s) (F0 m 18 ls []) := by
  intro f
  induction f with
  | zero =>
    intro k n A B ad am H locs ls h1 h2 I hR hl
    have C' := C
    obtain ⟨S, hK, hN, hO, hX, hbl, hL⟩ := C
    have hbA : ¬ (fun q : Nat => s.heap.size ≤ q) b := Nat.not_le.mpr hbl
    have hS := I.2.2.2.2.2.2.2
    refine lv_iload_n S.1 S.2.1 dL_law_18 rfl (lv_at hl 3 rfl) ?_
    refine lv_aload_n S.1 S.2.1 dL_law_19 rfl (lv_at hl 0 rfl) ?_
    refine va_slen S.1 S.2.1 hX hbl hbA hS dL_law_20 ?_
    refine lv_bipush (v := 7) S.1 S.2.1 dL_law_21 (by decide) ?_
    refine lv_isub S.1 S.2.1 dL_law_23 ?_
    refine lv_icmp_gt (tgt := 862) S.1 S.2.1 dL_law_24 (by decide) (fun h => ?_) (fun h => ?_)
    · refine lv_iconst (v := 1) S.1 S.2.1 dL_law_862 (by decide) ?_
      refine va_forget (fun q hq => hS.2.2 q hq) ?_
      refine W.widen (k := 600000) (n := 7302250) (Nat.le_trans (cf_le n) (by decide)) (Nat.le_trans (sf_le n) (by decide)) ?_
      exact lw_ret S.1 S.2.1 hr hlk dL_law_863
    · exfalso
      apply h
      show nI L - nI 7 < nI (7 * k)
      rw [Int32.lt_iff_toInt_lt, pk_sub_toInt (by omega) (by omega), nI_toInt (by omega)]
      omega
  | succ f ih =>
    intro k n A B ad am H locs ls h1 h2 I hR hl
    have C' := C
    obtain ⟨S, hK, hN, hO, hX, hbl, hL⟩ := C
    have hbA : ¬ (fun q : Nat => s.heap.size ≤ q) b := Nat.not_le.mpr hbl
    have hS := I.2.2.2.2.2.2.2
    refine lv_iload_n S.1 S.2.1 dL_law_18 rfl (lv_at hl 3 rfl) ?_
    refine lv_aload_n S.1 S.2.1 dL_law_19 rfl (lv_at hl 0 rfl) ?_
    refine va_slen S.1 S.2.1 hX hbl hbA hS dL_law_20 ?_
    refine lv_bipush (v := 7) S.1 S.2.1 dL_law_21 (by decide) ?_
    refine lv_isub S.1 S.2.1 dL_law_23 ?_
    refine lv_icmp_gt (tgt := 862) S.1 S.2.1 dL_law_24 (by decide) (fun h => ?_) (fun h => ?_)
    · refine lv_iconst (v := 1) S.1 S.2.1 dL_law_862 (by decide) ?_
      refine va_forget (fun q hq => hS.2.2 q hq) ?_
      refine W.widen (k := 600000) (n := 7302250) (Nat.le_trans (cf_le n) (by decide)) (Nat.le_trans (sf_le n) (by decide)) ?_
      exact lw_ret S.1 S.2.1 hr hlk dL_law_863
    · have hi : 7 * k + 7 ≤ L := by
        have h3 : ¬ nI L - nI 7 < nI (7 * k) := h
        rw [Int32.lt_iff_toInt_lt, pk_sub_toInt (by omega) (by omega), nI_toInt (by omega)] at h3
        omega
      have hk : k < 512 := by omega
      have hn := HS.2.1 k n A B hR
      have kk : ∀ (n' : Nat) (A' B' : MM) (ad' : Nat → Nat) (H : Heap) (locs : List Loc), LI E s n' A' B' ad' am H locs → Rel (k + 1) n' A' B' → ad' 0 = ad 0 → W p l e room_1 s m #[Value.ref b] below meth c H locs (cf n') (sf n') (lw_Z below #[Value.ref b] s) (F0 m 856 ls []) := by
        intro n' A' B' ad' H locs I' hR' h0
        refine lv_iinc (v := nI (7 * (k + 1))) (lv' := [(3, .int (nI (7 * (k + 1)))), (0, .ref b), (1, .ref (ad 0)), (2, .ref (am 0))]) S.1 S.2.1 dL_law_856 hl (k := 3) rfl (by rw [show 7 * (k + 1) = 7 * k + 7 by omega]; exact nI_add (7 * k) 7) (by decide) rfl (fun ls hl => ?_)
        refine lv_goto (tgt := 18) S.1 S.2.1 dL_law_859 (by decide) ?_
        refine ih (k + 1) n' A' B' ad' am H locs ls (by omega) (by omega) I' hR' ?_
        rw [h0]
        exact lv_sub hl [1, 2, 3, 0] rfl
      refine lv_aload_n S.1 S.2.1 dL_law_27 rfl (lv_at hl 0 rfl) ?_
      refine lv_iload_n S.1 S.2.1 dL_law_28 rfl (lv_at hl 3 rfl) ?_
      refine va_sld S.1 S.2.1 hX hbl hbA hS (vp_in_nI (by omega) (by omega)) dL_law_29 ?_
      refine lv_bipush (v := 31) S.1 S.2.1 dL_law_30 (by decide) ?_
      refine lv_iand S.1 S.2.1 dL_law_32 ?_
      refine lv_topi (fun x ex => ?_)
      obtain ⟨HR0, HRn, HRm, Hliving, Hforetell, Hmean, Hdearer, Hmember, Hheir, Hgroup, Hset, Hbuy, Hsell, Hsplit, Hpledge, Hshare, Hdrew, Hproof, Hdeath, Hclose, Hof, Habout, Htold, Hkeep, Hback⟩ := HS
      by_cases c0 : x = (0 : Int32)
      · refine lv_tableIn (tgt := 136) (off := 103) S.1 S.2.1 dL_law_33 (by rw [c0]; decide) (by rw [c0]; decide) (by rw [c0]; rfl) (by decide) ?_
        exact lc_living l C' hi hk hn I hR Hliving hl kk
      by_cases c1 : x = (1 : Int32)
      · refine lv_tableIn (tgt := 170) (off := 137) S.1 S.2.1 dL_law_33 (by rw [c1]; decide) (by rw [c1]; decide) (by rw [c1]; rfl) (by decide) ?_
        exact lc_foretell l C' hi hk hn I hR Hforetell hl kk
      by_cases c2 : x = (2 : Int32)
      · refine lv_tableIn (tgt := 204) (off := 171) S.1 S.2.1 dL_law_33 (by rw [c2]; decide) (by rw [c2]; decide) (by rw [c2]; rfl) (by decide) ?_
        exact lc_mean l C' hi hk hn I hR Hmean hl kk
      by_cases c3 : x = (3 : Int32)
      · refine lv_tableIn (tgt := 228) (off := 195) S.1 S.2.1 dL_law_33 (by rw [c3]; decide) (by rw [c3]; decide) (by rw [c3]; rfl) (by decide) ?_
        exact lc_dearer l C' hi hk hn I hR Hdearer hl kk
      by_cases c4 : x = (4 : Int32)
      · refine lv_tableIn (tgt := 262) (off := 229) S.1 S.2.1 dL_law_33 (by rw [c4]; decide) (by rw [c4]; decide) (by rw [c4]; rfl) (by decide) ?_
        exact lc_member l C' hi hk hn I hR Hmember hl kk
      by_cases c5 : x = (5 : Int32)
      · refine lv_tableIn (tgt := 286) (off := 253) S.1 S.2.1 dL_law_33 (by rw [c5]; decide) (by rw [c5]; decide) (by rw [c5]; rfl) (by decide) ?_
        exact lc_heir l C' hi hk hn I hR Hheir hl kk
      by_cases c6 : x = (6 : Int32)
      · refine lv_tableIn (tgt := 320) (off := 287) S.1 S.2.1 dL_law_33 (by rw [c6]; decide) (by rw [c6]; decide) (by rw [c6]; rfl) (by decide) ?_
        exact lc_group l C' hi hk hn I hR Hgroup hl kk
      by_cases c7 : x = (7 : Int32)
      · refine lv_tableIn (tgt := 364) (off := 331) S.1 S.2.1 dL_law_33 (by rw [c7]; decide) (by rw [c7]; decide) (by rw [c7]; rfl) (by decide) ?_
        exact lc_set l C' hi hk hn I hR Hset hl kk
      by_cases c8 : x = (8 : Int32)
      · refine lv_tableIn (tgt := 398) (off := 365) S.1 S.2.1 dL_law_33 (by rw [c8]; decide) (by rw [c8]; decide) (by rw [c8]; rfl) (by decide) ?_
        exact lc_buy l C' hi hk hn I hR Hbuy hl kk
      by_cases c9 : x = (9 : Int32)
      · refine lv_tableIn (tgt := 474) (off := 441) S.1 S.2.1 dL_law_33 (by rw [c9]; decide) (by rw [c9]; decide) (by rw [c9]; rfl) (by decide) ?_
        exact lc_sell l C' hi hk hn I hR Hsell hl kk
      by_cases c10 : x = (10 : Int32)
      · refine lv_tableIn (tgt := 508) (off := 475) S.1 S.2.1 dL_law_33 (by rw [c10]; decide) (by rw [c10]; decide) (by rw [c10]; rfl) (by decide) ?_
        exact lc_split l C' hi hk hn I hR Hsplit hl kk
      by_cases c11 : x = (11 : Int32)
      · refine lv_tableIn (tgt := 542) (off := 509) S.1 S.2.1 dL_law_33 (by rw [c11]; decide) (by rw [c11]; decide) (by rw [c11]; rfl) (by decide) ?_
        exact lc_pledge l C' hi hk hn I hR Hpledge hl kk
      by_cases c12 : x = (12 : Int32)
      · refine lv_tableIn (tgt := 586) (off := 553) S.1 S.2.1 dL_law_33 (by rw [c12]; decide) (by rw [c12]; decide) (by rw [c12]; rfl) (by decide) ?_
        exact lc_share l C' hi hk hn I hR Hshare hl kk
      by_cases c13 : x = (13 : Int32)
      · refine lv_tableIn (tgt := 620) (off := 587) S.1 S.2.1 dL_law_33 (by rw [c13]; decide) (by rw [c13]; decide) (by rw [c13]; rfl) (by decide) ?_
        exact lc_drew l C' hi hk hn I hR Hdrew hl kk
      by_cases c14 : x = (14 : Int32)
      · refine lv_tableIn (tgt := 654) (off := 621) S.1 S.2.1 dL_law_33 (by rw [c14]; decide) (by rw [c14]; decide) (by rw [c14]; rfl) (by decide) ?_
        exact lc_proof l C' hi hk hn I hR Hproof hl kk
      by_cases c15 : x = (15 : Int32)
      · refine lv_tableIn (tgt := 678) (off := 645) S.1 S.2.1 dL_law_33 (by rw [c15]; decide) (by rw [c15]; decide) (by rw [c15]; rfl) (by decide) ?_
        exact lc_death l C' hi hk hn I hR Hdeath hl kk
      by_cases c16 : x = (16 : Int32)
      · refine lv_tableIn (tgt := 712) (off := 679) S.1 S.2.1 dL_law_33 (by rw [c16]; decide) (by rw [c16]; decide) (by rw [c16]; rfl) (by decide) ?_
        exact lc_close l C' hi hk hn I hR Hclose hl kk
      by_cases c17 : x = (17 : Int32)
      · refine lv_tableIn (tgt := 736) (off := 703) S.1 S.2.1 dL_law_33 (by rw [c17]; decide) (by rw [c17]; decide) (by rw [c17]; rfl) (by decide) ?_
        exact lc_of l C' hi hk hn I hR Hof hl kk
      by_cases c18 : x = (18 : Int32)
      · refine lv_tableIn (tgt := 770) (off := 737) S.1 S.2.1 dL_law_33 (by rw [c18]; decide) (by rw [c18]; decide) (by rw [c18]; rfl) (by decide) ?_
        exact lc_about l C' hi hk hn I hR Habout hl kk
      by_cases c19 : x = (19 : Int32)
      · refine lv_tableIn (tgt := 804) (off := 771) S.1 S.2.1 dL_law_33 (by rw [c19]; decide) (by rw [c19]; decide) (by rw [c19]; rfl) (by decide) ?_
        exact lc_told l C' hi hk hn I hR Htold hl kk
      by_cases c20 : x = (20 : Int32)
      · refine lv_tableIn (tgt := 828) (off := 795) S.1 S.2.1 dL_law_33 (by rw [c20]; decide) (by rw [c20]; decide) (by rw [c20]; rfl) (by decide) ?_
        exact lc_keep l C' hi hk hn I hR Hkeep hl kk
      by_cases c21 : x = (21 : Int32)
      · refine lv_tableIn (tgt := 842) (off := 809) S.1 S.2.1 dL_law_33 (by rw [c21]; decide) (by rw [c21]; decide) (by rw [c21]; rfl) (by decide) ?_
        exact lc_back l C' hi hk hn I hR Hback hl kk
      refine lv_tableOut (tgt := 856) S.1 S.2.1 dL_law_33 (by have q0 := swn c0 (show ((0 : Int32)).toInt = 0 from rfl); have q1 := swn c1 (show ((1 : Int32)).toInt = 1 from rfl); have q2 := swn c2 (show ((2 : Int32)).toInt = 2 from rfl); have q3 := swn c3 (show ((3 : Int32)).toInt = 3 from rfl); have q4 := swn c4 (show ((4 : Int32)).toInt = 4 from rfl); have q5 := swn c5 (show ((5 : Int32)).toInt = 5 from rfl); have q6 := swn c6 (show ((6 : Int32)).toInt = 6 from rfl); have q7 := swn c7 (show ((7 : Int32)).toInt = 7 from rfl); have q8 := swn c8 (show ((8 : Int32)).toInt = 8 from rfl); have q9 := swn c9 (show ((9 : Int32)).toInt = 9 from rfl); have q10 := swn c10 (show ((10 : Int32)).toInt = 10 from rfl); have q11 := swn c11 (show ((11 : Int32)).toInt = 11 from rfl); have q12 := swn c12 (show ((12 : Int32)).toInt = 12 from rfl); have q13 := swn c13 (show ((13 : Int32)).toInt = 13 from rfl); have q14 := swn c14 (show ((14 : Int32)).toInt = 14 from rfl); have q15 := swn c15 (show ((15 : Int32)).toInt = 15 from rfl); have q16 := swn c16 (show ((16 : Int32)).toInt = 16 from rfl); have q17 := swn c17 (show ((17 : Int32)).toInt = 17 from rfl); have q18 := swn c18 (show ((18 : Int32)).toInt = 18 from rfl); have q19 := swn c19 (show ((19 : Int32)).toInt = 19 from rfl); have q20 := swn c20 (show ((20 : Int32)).toInt = 20 from rfl); have q21 := swn c21 (show ((21 : Int32)).toInt = 21 from rfl); omega) (by decide) ?_
      exact kk n A B ad H locs I (HRm k n A B hR) rfl
set_option maxHeartbeats 4000000 in
set_option maxRecDepth 100000 in
theorem K_exists {s : State} {args : Array Value} (hts : ∀ w ∈ lw_tbl, w.before args s = true) : ∃ E : EE, va_K E.1 vwCl (tysE E) s ∧ AO3 s ∧ NW s := by
  have hB : ∀ w ∈ bg_B, w.before args s = true := fun w h => hts w (List.mem_filter.mp h).1
  obtain ⟨c0, i0, k0⟩ := u_known (C := RX0) (T := TX0) (N := 13) (n := 13) hB w_lay_X0 (hB _ w_ni_X0)
  obtain ⟨c1, i1, k1⟩ := u_known (C := RX1) (T := TX1) (N := 7) (n := 7) hB w_lay_X1 (hB _ w_ni_X1)
  obtain ⟨c2, i2, k2⟩ := u_known (C := RX2) (T := TX2) (N := 6) (n := 6) hB w_lay_X2 (hB _ w_ni_X2)
  obtain ⟨c3, i3, k3⟩ := u_known (C := RX3) (T := TX3) (N := 16) (n := 16) hB w_lay_X3 (hB _ w_ni_X3)
  obtain ⟨c4, i4, k4⟩ := u_known (C := RX4) (T := TX4) (N := 1) (n := 1) hB w_lay_X4 (hB _ w_ni_X4)
  obtain ⟨c5, i5, k5⟩ := u_known (C := RX5) (T := TX5) (N := 2) (n := 2) hB w_lay_X5 (hB _ w_ni_X5)
  obtain ⟨c6, i6, k6⟩ := u_known (C := RX6) (T := TX6) (N := 7) (n := 7) hB w_lay_X6 (hB _ w_ni_X6)
  obtain ⟨dC, dI, hKc⟩ : ∃ (dC : Nat → ClassId) (dI : Nat → Nat → Nat), ∀ (k : Nat) (q : vw_C), vwCl[k]? = some q → u_Kn s q.1 q.2.1 q.2.2 (dC k) (dI k) := by
    refine ⟨fun k => match k with | 0 => c0 | 1 => c1 | 2 => c2 | 3 => c3 | 4 => c4 | 5 => c5 | _ => c6, fun k => match k with | 0 => i0 | 1 => i1 | 2 => i2 | 3 => i3 | 4 => i4 | 5 => i5 | _ => i6, ?_⟩
    intro k q hq
    match k, hq with
    | 0, hq => cases hq; exact k0
    | 1, hq => cases hq; exact k1
    | 2, hq => cases hq; exact k2
    | 3, hq => cases hq; exact k3
    | 4, hq => cases hq; exact k4
    | 5, hq => cases hq; exact k5
    | 6, hq => cases hq; exact k6
    | k + 7, hq => simp [vwCl] at hq
  have hN : NW s := by
    intro w hw
    have hw2 : w ∈ lw_tbl := List.mem_append_right _ ((show ∀ w ∈ nestL, w ∈ tables_1 by decide +kernel) w hw)
    have ho : w.onTables = true := (show ∀ w ∈ nestL, w.onTables = true by decide +kernel) w hw
    exact va_Nw.of ho (hts w hw2)
  have hO : AO3 s := ⟨va_AO.of (hts _ (List.mem_append_right _ (List.mem_append_left _ (List.mem_of_getElem? (l := tables_1_1) (i := 38) rfl)))), va_AO.of (hts _ (List.mem_append_right _ (List.mem_append_left _ (List.mem_of_getElem? (l := tables_1_1) (i := 40) rfl)))), va_AO.of (hts _ (List.mem_append_right _ (List.mem_append_left _ (List.mem_of_getElem? (l := tables_1_1) (i := 42) rfl))))⟩
  obtain ⟨cI, kI, pI, hI1, hI2, hI3⟩ := Cond.arrayClass_spec (hB _ w_ac_I)
  obtain ⟨cJ, kJ, pJ, hJ1, hJ2, hJ3⟩ := Cond.arrayClass_spec (hB _ w_ac_J)
  have hob : ∀ C : String, va_AO C s → ∃ cA, ArrOfT s cA (.object C) ∧ va_RA s cA (.object C) := by
    intro C hC
    obtain ⟨comp, cA, kA, f4, hidx, f2, f3, f1⟩ := Cond.arrayOver_spec (va_AO.use (A := args) hC)
    exact ⟨cA, fun N z => ⟨(fun k h => by cases h), kA, f2, comp, f3⟩, kA, comp, f2, f3, f4, f1⟩
  obtain ⟨cM, hM⟩ := hob _ hO.1
  obtain ⟨cR, hR⟩ := hob _ hO.2.1
  obtain ⟨cS, hS⟩ := hob _ hO.2.2
  refine ⟨((dC, dI), fun k => match k with | 0 => cI | 1 => cJ | 2 => cM | 3 => cR | _ => cS), ⟨hKc, fun k q hq => ?_⟩, hO, hN⟩
  match k, hq with
  | 0, hq => cases hq; exact ⟨fun N z => ⟨(fun k h => by cases h), kI, hI2, pI, hI3⟩, hI1⟩
  | 1, hq => cases hq; exact ⟨fun N z => ⟨(fun k h => by cases h), kJ, hJ2, pJ, hJ3⟩, hJ1⟩
  | 2, hq => cases hq; exact hM
  | 3, hq => cases hq; exact hR
  | 4, hq => cases hq; exact hS
  | k + 5, hq => simp [tysE] at hq

/-! ===== shares draw, one by one ===== -/
theorem addsub {a : Int64} {p q : Nat} (h : q ≤ p) : a + lN p - lN q = a + lN (p - q) := by
  have e : lN p = lN (p - q) + lN q := by rw [lN_add, Nat.sub_add_cancel h]
  rw [e, ← Int64.add_assoc, Int64.add_sub_cancel]
theorem CM.mono {b k : Int} {K : KT} {m r s y : Nat} {Y Y2 : Nat → Nat} {P P2 : Nat → Prop} {A B : MM} (h : CM b k K m r s y Y P A B) (hY : ∀ i, i < s → Y2 i = Y i ∧ (P2 i → P i)) : CM b k K m r s y Y2 P2 A B := by
  obtain ⟨h1, h2, h3, h4, h5, h6, h7, h8, h9⟩ := h
  exact ⟨h1, h2, h3, h4, h5, fun i hi => by rw [(hY i hi).1]; exact (h6 i hi).mono (hY i hi).2, h7, h8, h9⟩
section DrawA
variable {N j y p d ra u T U : Nat} {X : MM}
theorem drawA_n (hr : ra < 6) (x4 : gI X (37 + j) 4 = nI ra) (x3 : gI X (37 + j) 3 = nI u) (hu : u ≤ 1000) (x7 : gI X 1 7 = nI y) (hy : y < 60) (t4 : gL X (31 + ra) 4 = lN T) (t5 : gL X (31 + ra) 5 = lN U) (hT : T ≤ 6200000000) (hU : U ≤ 40000) (hd : d = T * u / U) (hp : d ≤ p) {z : Int32} : F_X0_draw N (37 + j) z (sL X 1 10 (gL X 1 10 + lN p)) = if z = (0 : Int32) then some ((0 : Int64), sL (sL X (77 + j) y (lN d)) 1 10 (gL X 1 10 + lN (p - d))) else bn1 (F_X0_payOut N (37 + j) (lN d) (sL (sI (sL X (77 + j) y (lN d)) (37 + j) 14 (nI (y + 1))) 1 10 (gL X 1 10 + lN (p - d)))) (fun M7 => some (lN d, M7)) := by
  have hm : T * u < 2 ^ 63 := by
    have : T * u ≤ 6200000000 * 1000 := Nat.mul_le_mul hT hu
    omega
  have ew : F_X5_isWithin (nI y) 0 59 = true := wi_toInt.mpr (by rw [nI_toInt (by omega), show (0 : Int32).toInt = 0 from rfl, show (59 : Int32).toInt = 59 from rfl]; omega)
  have en : F_X3_note N (37 + j) (nI y) (lN d) (sL X 1 10 (gL X 1 10 + lN (p - d))) = some (sL (sL X (77 + j) y (lN d)) 1 10 (gL X 1 10 + lN (p - d))) := by
    rw [F_X3_note, ew, bIt, gd_ib (by omega) (by omega), bnd_e, ixn (by omega), show 37 + j + 40 = 77 + j by omega, sLC (by omega)]
  rw [F_X0_draw, gIsL, gIsL, x4, x3, gd_ib (by omega) (by omega), ixn (by omega), gLn (by omega), gLn (by omega), t4, t5, nIw (by omega), parted_e hm (by omega), ← hd, bnd_e, gLe, addsub hp, sLL, bnd_e, gIsL, x7, en, bn1_e, gIsL, gIsL, x7, nI_1, bnd_e, sIL]
theorem drawA_0 (hr : ra < 6) (x4 : gI X (37 + j) 4 = nI ra) (x3 : gI X (37 + j) 3 = nI u) (hu : u ≤ 1000) (x7 : gI X 1 7 = nI y) (hy : y < 60) (t4 : gL X (31 + ra) 4 = lN T) (t5 : gL X (31 + ra) 5 = lN U) (hT : T ≤ 6200000000) (hU : U ≤ 40000) (hd : d = T * u / U) (hp : d ≤ p) : F_X0_draw N (37 + j) 0 (sL X 1 10 (gL X 1 10 + lN p)) = some ((0 : Int64), sL (sL X (77 + j) y (lN d)) 1 10 (gL (sL X (77 + j) y (lN d)) 1 10 + lN (p - d))) := by
  rw [drawA_n hr x4 x3 hu x7 hy t4 t5 hT hU hd hp, if_pos rfl, gLn (by omega)]
theorem drawA_1 (hr : ra < 6) (x4 : gI X (37 + j) 4 = nI ra) (x3 : gI X (37 + j) 3 = nI u) (hu : u ≤ 1000) (x7 : gI X 1 7 = nI y) (hy : y < 60) (t4 : gL X (31 + ra) 4 = lN T) (t5 : gL X (31 + ra) 5 = lN U) (hT : T ≤ 6200000000) (hU : U ≤ 40000) (hd : d = T * u / U) (hp : d ≤ p) {X3 : MM} (hpay : F_X0_payOut N (37 + j) (lN d) (sI (sL X (77 + j) y (lN d)) (37 + j) 14 (nI (y + 1))) = some X3) : F_X0_draw N (37 + j) 1 (sL X 1 10 (gL X 1 10 + lN p)) = some (lN d, sL X3 1 10 (gL X3 1 10 + lN (p - d))) := by
  have q := payOut_fr (e := lN (p - d)) (by omega) hpay
  rw [gLsI, gLn (by omega)] at q
  rw [drawA_n hr x4 x3 hu x7 hy t4 t5 hT hU hd hp, if_neg (by decide), q, bn1_e]
end DrawA
section R448
variable {N j y s d fu : Nat} {x : Int32} {v : Int64} {B B3 : MM}
theorem r448_0 (hj : j < s) (hs : s ≤ 40) (hy : y < 60) (b6 : gI B 6 j = 0) (b5 : gL B 5 j = lN d) (hp : F_X6_pays N (nI j) (lN d) (sL B 1 (863 + 60 * j + y) (lN d)) = some B3) (g5 : gL B3 5 j = lN d) (g6 : gI B3 6 j = 0) : F_X6_close_448 N x (fu + 1) (nI s) (nI y) v (nI j) B = F_X6_close_448 N x fu (nI s) (nI y) (v + lN d) (nI (j + 1)) (sL B3 1 (303 + 14 * j + 10) 0) := by
  have h1 : ¬ nI s ≤ nI j := by rw [nIl (by omega) (by omega)]; omega
  rw [F_X6_close_448, if_neg h1, gd_ib (by omega) (by omega), ixn (by omega), b6, if_neg (show ¬ (2 : Int32) ≤ 0 by decide), drx, gd_ib (by omega) (by omega), ixn (by omega), b5, bnd_e, gIsL, b6, if_neg (show ¬ (0 : Int32) = 1 by decide), if_pos rfl, gLn (by omega), b5, hp, bn1_e, g5, g6, bnd_e, if_pos rfl, part_10, gd_ib (by omega) (by omega), ixn (by omega), bnd_e, nI_1]
theorem r448_1 (hj : j < s) (hs : s ≤ 40) (hy : y < 60) (b6 : gI B 6 j = 1) (b5 : gL B 5 j = lN d) : F_X6_close_448 N x (fu + 1) (nI s) (nI y) v (nI j) B = F_X6_close_448 N x fu (nI s) (nI y) v (nI (j + 1)) (sL (sL (sL B 1 (863 + 60 * j + y) (lN d)) 1 (3263 + 60 * j + y) (lN d)) 1 (303 + 14 * j + 10) (gL B 1 (303 + 14 * j + 10) + 1)) := by
  have h1 : ¬ nI s ≤ nI j := by rw [nIl (by omega) (by omega)]; omega
  rw [F_X6_close_448, if_neg h1, gd_ib (by omega) (by omega), ixn (by omega), b6, if_neg (show ¬ (2 : Int32) ≤ 1 by decide), drx, gd_ib (by omega) (by omega), ixn (by omega), b5, bnd_e, gIsL, b6, if_pos rfl, hex, gd_ib (by omega) (by omega), ixn (by omega), gLn (by omega), b5, bnd_e, gIsL, gIsL, b6, if_neg (show ¬ (1 : Int32) = 0 by decide), if_neg (show ¬ (1 : Int32) = 3 by decide), part_10, gd_ib (by omega) (by omega), ixn (by omega), bnd_e, gLn (by omega), gLn (by omega), nI_1]
theorem r448_2 (hj : j < s) (hs : s ≤ 40) (b6 : gI B 6 j = 2) : F_X6_close_448 N x (fu + 1) (nI s) (nI y) v (nI j) B = F_X6_close_448 N x fu (nI s) (nI y) v (nI (j + 1)) (sL B 1 (303 + 14 * j + 10) (gL B 1 (303 + 14 * j + 10) + 1)) := by
  have h1 : ¬ nI s ≤ nI j := by rw [nIl (by omega) (by omega)]; omega
  rw [F_X6_close_448, if_neg h1, gd_ib (by omega) (by omega), ixn (by omega), b6, if_pos (show (2 : Int32) ≤ 2 by decide), if_neg (show ¬ (2 : Int32) = 1 by decide), if_neg (show ¬ (2 : Int32) = 0 by decide), if_neg (show ¬ (2 : Int32) = 3 by decide), part_10, gd_ib (by omega) (by omega), ixn (by omega), bnd_e, nI_1]
theorem r448_3 (hj : j < s) (hs : s ≤ 40) (b6 : gI B 6 j = 3) : F_X6_close_448 N x (fu + 1) (nI s) (nI y) v (nI j) B = F_X6_close_448 N x fu (nI s) (nI y) v (nI (j + 1)) (sL B 1 (303 + 14 * j + 10) 0) := by
  have h1 : ¬ nI s ≤ nI j := by rw [nIl (by omega) (by omega)]; omega
  rw [F_X6_close_448, if_neg h1, gd_ib (by omega) (by omega), ixn (by omega), b6, if_pos (show (2 : Int32) ≤ 3 by decide), if_neg (show ¬ (3 : Int32) = 1 by decide), if_neg (show ¬ (3 : Int32) = 0 by decide), if_pos rfl, part_10, gd_ib (by omega) (by omega), ixn (by omega), bnd_e, nI_1]
end R448
set_option maxHeartbeats 8000000 in
theorem draw_loop {N m r s y D : Nat} {k : Int} {K : KT} {A0 : MM} {hw : Nat → Int32} {ra u p U d : Nat → Nat} {x : Int32} (hc : cap m r s) (hs0 : R_s m r s y A0) (hF : FA N r s hw ra u A0) (hlv : ∀ i, i < s → (hw i = 0 ↔ (prv m A0 i ∨ y < ix (gI A0 (37 + i) 9)))) (hli : ∀ i, i < s → R_o m A0 i ∧ ∃ li, gI A0 (37 + i) 1 = nI li ∧ li < m) (hU : ∀ k, U k ≤ 40000) (hT : ∀ k, k < r → tot U p k ≤ 6200000000) (hd : d = drw (qd hw) ra u (tot U p) U) (hD : D = sN d s) (hDb : D ≤ 6200000000) (hy : y < 60) : ∀ (fu j : Nat) (v : Int64) (X B : MM), CM (100000000 * ((y : Int) + 1) - ((D - sN d j : Nat) : Int)) k K m r s y (fun i => if i < j then y + 1 else y) (fun i => j ≤ i ∧ prv m A0 i) X B → (∀ c z, (c < 37 ∨ (z ≠ 10 ∧ z ≠ 14)) → gI X c z = gI A0 c z) → (∀ i, j ≤ i → i < s → ∀ z, gI X (37 + i) z = gI A0 (37 + i) z) → (∀ q, q < r → gL X (31 + q) 4 = lN (tot U p q) ∧ gL X (31 + q) 5 = lN (U q)) → (∀ i, i < s → gL B 5 i = lN (d i) ∧ gI B 6 i = hw i) → j ≤ s → s < j + fu → ∃ (w : Int64) (X' B' : MM), F_X0_drawAll_4 N fu v (nI j) (sL X 1 10 (gL X 1 10 + lN (D - sN d j))) = some (w, X') ∧ F_X6_close_448 N x fu (nI s) (nI y) v (nI j) B = bnd (sL B' 1 5663 (gL B' 1 5663 + (1 : Int64))) (fun M54 => F_X6_close_632 N x N (nI s) w (0 : Int32) M54) ∧ CM (100000000 * ((y : Int) + 1)) k K m r s y (fun _ => y + 1) (fun _ => False) X' B' ∧ (∀ c z, (c < 37 ∨ (z ≠ 10 ∧ z ≠ 14)) → gI X' c z = gI A0 c z) := by
  have c1 : m ≤ 24 := hc.1
  have c2 : r ≤ 6 := hc.2.1
  have c3 : s ≤ 40 := hc.2.2
  intro fu
  induction fu with
  | zero => intro j v X B hC i2 i3 i4 i5 h1 h2; omega
  | succ fu ih =>
    intro j v X B hC i2 i3 i4 i5 h1 h2
    have hsX := hC.2.1
    have hsum := hC.2.2.2.2.2.2.2.1.2
    by_cases hj : s ≤ j
    · have : j = s := by omega
      subst this
      refine ⟨v, X, B, ?_, ?_, (hC.cb (b' := 100000000 * ((y : Int) + 1)) (by omega)).mono (fun i hi => ⟨by rw [if_pos hi], fun q => q.elim⟩), i2⟩
      · rw [hD, Nat.sub_self, show lN 0 = (0 : Int64) from rfl, Int64.add_zero, sL_same, F_X0_drawAll_4, hsX.2.2.1, if_pos (by rw [nIl (by omega) (by omega)]; omega)]
      · rw [F_X6_close_448, if_pos (by rw [nIl (by omega) (by omega)]; omega)]
    · have hj2 : j < s := by omega
      obtain ⟨f3, f3a, f3b, f4, f4a, f5, f6⟩ := hF j hj2
      obtain ⟨o1, li, o2, o3⟩ := hli j hj2
      have x37 : ∀ z, gI X (37 + j) z = gI A0 (37 + j) z := i3 j (Nat.le_refl _) hj2
      have hfr : F_X0_howItIs N (37 + j) (sL X 1 10 (gL X 1 10 + lN (D - sN d j))) = some (hw j) := by
        rw [how_gI (M := sL X 1 10 (gL X 1 10 + lN (D - sN d j))) (A := X) rfl, how_fr hs0 hsX c1 x37 (fun c z hc => i2 c z (Or.inl hc)) o2 o3 o1]
        exact f5
      have x4 : gI X (37 + j) 4 = nI (ra j) := by rw [x37]; exact f4
      have x3 : gI X (37 + j) 3 = nI (u j) := by rw [x37]; exact f3
      have hr6 : ra j < 6 := by omega
      obtain ⟨t4, t5⟩ := i4 (ra j) f4a
      obtain ⟨b5, b6⟩ := i5 j hj2
      have hle : sN d (j + 1) ≤ sN d s := sN_mono (by omega)
      have hst : sN d (j + 1) = sN d j + d j := rfl
      have hre : D - sN d j - d j = D - sN d (j + 1) := by omega
      have hdb : d j ≤ 6200000000 := by omega
      have hY2 : ∀ i, i < s → i ≠ j → (fun i => if i < j + 1 then y + 1 else y) i = (fun i => if i < j then y + 1 else y) i ∧ ((fun i => j + 1 ≤ i ∧ prv m A0 i) i → (fun i => j ≤ i ∧ prv m A0 i) i) := fun i hi hne => by
        refine ⟨?_, fun q => ⟨Nat.le_of_succ_le q.1, q.2⟩⟩
        show (if i < j + 1 then y + 1 else y) = (if i < j then y + 1 else y)
        by_cases e : i < j
        · rw [if_pos e, if_pos (by omega)]
        · rw [if_neg e, if_neg (by omega)]
      have hYj : (fun i => if i < j then y + 1 else y) j = y := if_neg (Nat.lt_irrefl j)
      have hYj2 : (fun i => if i < j + 1 then y + 1 else y) j = y + 1 := if_pos (Nat.lt_succ_self j)
      have hP2 : ¬ (fun i => j + 1 ≤ i ∧ prv m A0 i) j := fun q => Nat.not_succ_le_self j q.1
      have hg := hC.2.2.2.2.2.1 j hj2
      rw [hYj] at hg
      obtain ⟨un, hun, hunb⟩ : ∃ un, gI X (37 + j) 10 = nI un ∧ un ≤ y := by
        obtain ⟨g0, ho, li', ra', u', kn, si, su, un, hf2, g1, -⟩ := hg
        exact ⟨un, g1.2.2.2.2.2.2.2.1, g1.2.2.2.2.2.2.2.2.2.2.2.2.2.2.2.2.2.2.2.1⟩
      have hunB : gL B 1 (303 + 14 * j + 10) = lN un := by rw [hC.1.s10 hj2, hun, nIw (by omega)]
      rw [F_X0_drawAll_4, gIsL, hsX.2.2.1, if_neg (show ¬ nI s ≤ nI j by rw [nIl (by omega) (by omega)]; omega), gd_ib (by omega) (by omega), ixn (by omega), hfr, bn1_e, nI_1]
      have hni : ¬ hw j = 0 → ¬ y < ix (gI X (37 + j) 9) := fun q q2 => by
        rw [x37] at q2
        exact q ((hlv j hj2).mpr (Or.inr q2))
      rcases f6 with h0 | h0 | h0 | h0
      · -- LIVE
        have hdj : d j = tot U p (ra j) * u j / U (ra j) := by rw [hd]; unfold drw qd; rw [h0, if_pos (by decide)]
        have hl := (hlv j hj2).mp h0
        have hL := hC.live (d := d j) (Y2 := fun i => if i < j + 1 then y + 1 else y) (P2 := fun i => j + 1 ≤ i ∧ prv m A0 i) hj2 hYj hy hdb (hl.imp (fun q => ⟨Nat.le_refl _, q⟩) (fun q => by rw [x37]; exact q)) hYj2 hY2
        have hs2 := hL.2.2.2.2.2.2.2.1.2
        have elN : (lN (d j)).toInt = d j := pk_lT (by omega)
        obtain ⟨X3, B3, p1, p2, p3, p4, p5, p6, p7⟩ := hL.pay (N := N) (b' := 100000000 * ((y : Int) + 1) - ((D - sN d (j + 1) : Nat) : Int)) hj2 (a := lN (d j)) (by omega) (by omega) (by omega)
        have hU4 := p3.un (un := 0) hj2 (Nat.zero_le _) (by rw [if_pos (Nat.lt_succ_self j)]; omega) (w := 0) rfl
        have hB := r448_0 (N := N) (x := x) (v := v) (fu := fu) hj2 c3 hy (by rw [b6, h0]) b5 p2 (by rw [p6 5 (by decide), gLn (by omega)]; exact b5) (by rw [p5, gIsL, b6, h0])
        rw [hB, h0, if_pos rfl, drawA_1 hr6 x4 x3 f3b (by rw [hsX.2.2.2.1]) hy t4 t5 (hT _ f4a) (hU _) hdj (by omega) p1, bn2_e, bnd_e, bnd_e, sIL, hre]
        refine ih (j + 1) (v + lN (d j)) (sI X3 (37 + j) 10 (nI 0)) (sL B3 1 (303 + 14 * j + 10) 0) hU4 (fun c z q => ?_) (fun i hi1 hi2 z => ?_) (fun q hq => ?_) (fun i hi1 => ?_) (by omega) (by omega)
        · rw [gIn (by omega), p4, gIn (by omega), gIsL]; exact i2 c z q
        · rw [gIn (by omega), p4, gIn (by omega), gIsL]; exact i3 i (by omega) hi2 z
        · rw [gLsI, gLsI, p7 _ _ (by omega) (by omega), p7 _ _ (by omega) (by omega), gLsI, gLsI, gLn (by omega), gLn (by omega)]; exact i4 q hq
        · rw [gLn (by omega), p6 5 (by decide), gLn (by omega), gIsL, p5, gIsL]; exact i5 i hi1
      · -- WAITS
        have hn := hni (by rw [h0]; decide)
        have hdj : d j = tot U p (ra j) * u j / U (ra j) := by rw [hd]; unfold drw qd; rw [h0, if_pos (by decide)]
        have hL := hC.wait (b' := 100000000 * ((y : Int) + 1) - ((D - sN d (j + 1) : Nat) : Int)) (d := d j) (Y2 := fun i => if i < j + 1 then y + 1 else y) (P2 := fun i => j + 1 ≤ i ∧ prv m A0 i) hj2 hYj hy hdb hn hYj2 hP2 hY2 (by omega)
        have hU4 := hL.1.un (un := un + 1) hj2 (by rw [if_pos (Nat.lt_succ_self j)]; omega) (by rw [if_pos (Nat.lt_succ_self j)]; omega) (w := lN un + 1) (lN_1 un)
        have hB := r448_1 (N := N) (x := x) (v := v) (fu := fu) hj2 c3 hy (by rw [b6, h0]) b5
        rw [hunB] at hB
        rw [hB, h0, if_neg (show ¬ (1 : Int32) = 0 by decide), if_pos rfl, drawA_0 hr6 x4 x3 f3b (by rw [hsX.2.2.2.1]) hy t4 t5 (hT _ f4a) (hU _) hdj (by omega), bn2_e, bnd_e, if_neg (show ¬ (1 : Int32) = 3 by decide), bnd_e, sIL, gIsL, gIsL, hun, nI_1, hre, Int64.add_zero]
        refine ih (j + 1) v (sI (sL X (77 + j) y (lN (d j))) (37 + j) 10 (nI (un + 1))) _ hU4 (fun c z q => ?_) (fun i hi1 hi2 z => ?_) (fun q hq => ?_) (fun i hi1 => ?_) (by omega) (by omega)
        · rw [gIn (by omega), gIsL]; exact i2 c z q
        · rw [gIn (by omega), gIsL]; exact i3 i (by omega) hi2 z
        · rw [gLsI, gLsI, gLn (by omega), gLn (by omega)]; exact i4 q hq
        · rw [gLn (by omega), gLn (by omega), gLn (by omega), gIsL, gIsL, gIsL]; exact i5 i hi1
      · -- LOST
        have hn := hni (by rw [h0]; decide)
        have hdj : d j = 0 := by rw [hd]; unfold drw qd; rw [h0, if_neg (by decide)]
        have hL := hC.next (Y2 := fun i => if i < j + 1 then y + 1 else y) (P2 := fun i => j + 1 ≤ i ∧ prv m A0 i) hj2 hYj hn hYj2 hP2 hY2
        have hU4 := (hL.cb (b' := 100000000 * ((y : Int) + 1) - ((D - sN d (j + 1) : Nat) : Int)) (by omega)).un (un := un + 1) hj2 (by rw [if_pos (Nat.lt_succ_self j)]; omega) (by rw [if_pos (Nat.lt_succ_self j)]; omega) (w := lN un + 1) (lN_1 un)
        have hB := r448_2 (N := N) (x := x) (v := v) (fu := fu) (y := y) hj2 c3 (by rw [b6, h0])
        rw [hunB] at hB
        rw [hB, h0, if_neg (show ¬ (2 : Int32) = 0 by decide), if_neg (show ¬ (2 : Int32) = 1 by decide), if_neg (show ¬ (2 : Int32) = 3 by decide), bnd_e, sIL, gIsL, hun, nI_1, show D - sN d j = D - sN d (j + 1) by omega]
        refine ih (j + 1) v (sI X (37 + j) 10 (nI (un + 1))) _ hU4 (fun c z q => ?_) (fun i hi1 hi2 z => ?_) (fun q hq => ?_) (fun i hi1 => ?_) (by omega) (by omega)
        · rw [gIn (by omega)]; exact i2 c z q
        · rw [gIn (by omega)]; exact i3 i (by omega) hi2 z
        · rw [gLsI, gLsI]; exact i4 q hq
        · rw [gLn (by omega), gIsL]; exact i5 i hi1
      · -- at an END
        have hn := hni (by rw [h0]; decide)
        have hdj : d j = 0 := by rw [hd]; unfold drw qd; rw [h0, if_neg (by decide)]
        have hL := hC.next (Y2 := fun i => if i < j + 1 then y + 1 else y) (P2 := fun i => j + 1 ≤ i ∧ prv m A0 i) hj2 hYj hn hYj2 hP2 hY2
        have hU4 := (hL.cb (b' := 100000000 * ((y : Int) + 1) - ((D - sN d (j + 1) : Nat) : Int)) (by omega)).un (un := 0) hj2 (Nat.zero_le _) (by rw [if_pos (Nat.lt_succ_self j)]; omega) (w := 0) rfl
        have hB := r448_3 (N := N) (x := x) (v := v) (fu := fu) (y := y) hj2 c3 (by rw [b6, h0])
        rw [hB, h0, if_neg (show ¬ (3 : Int32) = 0 by decide), if_neg (show ¬ (3 : Int32) = 1 by decide), if_pos rfl, bnd_e, sIL, show D - sN d j = D - sN d (j + 1) by omega]
        refine ih (j + 1) v (sI X (37 + j) 10 (nI 0)) _ hU4 (fun c z q => ?_) (fun i hi1 hi2 z => ?_) (fun q hq => ?_) (fun i hi1 => ?_) (by omega) (by omega)
        · rw [gIn (by omega)]; exact i2 c z q
        · rw [gIn (by omega)]; exact i3 i (by omega) hi2 z
        · rw [gLsI, gLsI]; exact i4 q hq
        · rw [gLn (by omega), gIsL]; exact i5 i hi1

/-! ===== units that draw, shares of a class ===== -/
section About
variable {K : KT} {m r s y N : Nat} {A B : MM}
theorem draw_A (hN : 6000 ≤ N) (he : Eqv K m r s A B) (hs : R_s m r s y A) {i : Nat} (hi : i < s) (hh : R_h m r y A B i) : ∃ h : Int32, F_X0_howItIs N (37 + i) A = some h ∧ F_X6_stands N (nI i) B = some h ∧ F_X0_isDrawing N (37 + i) A = some (!(decide ((2 : Int32) ≤ h))) := by
  obtain ⟨h, q1, q2, q3⟩ := how_sim hN he hs hi hh
  refine ⟨h, q1, q2, ?_⟩
  rw [F_X0_isDrawing, q1, bn1_e]
  rcases q3 with rfl | rfl | rfl | rfl <;> rfl
theorem units_sim (hN : 6000 ≤ N) (he : Eqv K m r s A B) (hs : R_s m r s y A) (hh : ∀ i, i < s → R_h m r y A B i) {x2 : Int32} (h5 : ¬ x2 = 5) (x : Int32) : ∀ (fu j : Nat) (v : Int64), j ≤ s → s < j + fu → ∃ w, F_X0_drawingUnits_5 N x fu v (nI j) A = some w ∧ F_X6_about_45 N x x2 fu v (nI j) B = some w := by
  have c3 : s ≤ 40 := he.1.2.2
  intro fu
  induction fu with
  | zero => intro j v h1 h2; omega
  | succ fu ih =>
    intro j v h1 h2
    rw [F_X0_drawingUnits_5, F_X6_about_45, he.cs hs, nIw (by omega)]
    rw [hs.2.2.1]
    simp (disch := omega) only [lNl, nIl]
    by_cases hj : s ≤ j
    · rw [if_pos hj, if_pos hj]
      exact ⟨v, rfl, rfl⟩
    · have hj2 : j < s := by omega
      rw [if_neg hj, if_neg hj]
      simp (disch := omega) only [gd_ib, ixn, part_3, part_4, he.s4 hj2, he.s3 hj2, nI_1, weq]
      by_cases hx : gI A (37 + j) 4 = x
      · obtain ⟨h, q1, q2, q3⟩ := draw_A hN he hs hj2 (hh j hj2)
        rw [if_pos hx, if_pos hx, if_neg h5, q2, q3, bn1_e, bn1_e]
        by_cases hd : (2 : Int32) ≤ h
        · rw [if_pos hd, decide_eq_true hd, Bool.not_true, bIf, bnd_e, Int64.add_zero]
          exact ih (j + 1) _ (by omega) (by omega)
        · rw [if_neg hd, decide_eq_false hd, Bool.not_false, bIt, bnd_e, bnd_e]
          exact ih (j + 1) _ (by omega) (by omega)
      · rw [if_neg hx, if_neg hx]
        exact ih (j + 1) _ (by omega) (by omega)
theorem cnt_sim (he : Eqv K m r s A B) (hs : R_s m r s y A) (x : Int32) : ∀ (fu j : Nat) (v : Int64), j ≤ s → s < j + fu → ∃ w, F_X0_sharesIn_5 N x fu v (nI j) A = some w ∧ F_X6_about_45 N x 5 fu v (nI j) B = some w := by
  have c3 : s ≤ 40 := he.1.2.2
  intro fu
  induction fu with
  | zero => intro j v h1 h2; omega
  | succ fu ih =>
    intro j v h1 h2
    rw [F_X0_sharesIn_5, F_X6_about_45, he.cs hs, nIw (by omega)]
    rw [hs.2.2.1]
    simp (disch := omega) only [lNl, nIl]
    by_cases hj : s ≤ j
    · rw [if_pos hj, if_pos hj]
      exact ⟨v, rfl, rfl⟩
    · have hj2 : j < s := by omega
      rw [if_neg hj, if_neg hj]
      simp (disch := omega) only [gd_ib, ixn, part_4, he.s4 hj2, nI_1, weq]
      by_cases hx : gI A (37 + j) 4 = x
      · rw [if_pos hx, if_pos hx, if_pos True.intro, bnd_e, bnd_e]
        exact ih (j + 1) _ (by omega) (by omega)
      · rw [if_neg hx, if_neg hx]
        exact ih (j + 1) _ (by omega) (by omega)
end About
theorem sim_about {N : Nat} (hN : 6000 ≤ N) : Sim_about N Rel := by
  intro k n A B hk hR x1 x2
  have hR2 := hR.up
  obtain ⟨hn, K, m, r, s, y, hB, -, -⟩ := hR
  obtain ⟨he, hs, ht, hm, hkk, hh, hp, hf, hb⟩ := hB
  have c2 : r ≤ 6 := he.1.2.1
  have c3 : s ≤ 40 := he.1.2.2
  rw [F_X5_about, F_X6_about, isR_A hs.2.1 (by omega), isR_B (he.cr hs) (by omega), in_lit (n := 5) rfl]
  cases hx : ib x1 r with
  | false => exact ⟨_, rfl, rfl, hR2⟩
  | true =>
    obtain ⟨i, hi, rfl⟩ := ib_of hx (by omega)
    simp (disch := omega) only [bIt, gd_ib, ixn]
    cases hx2 : ib x2 (5 + 1) with
    | false =>
      simp only [bIf]
      refine ⟨_, ?_, rfl, hR2⟩
      rw [if_neg (ne_lit hx2 (by decide)), if_neg (ne_lit hx2 (by decide)), if_neg (ne_lit hx2 (by decide)), if_neg (ne_lit hx2 (by decide)), if_neg (ne_lit hx2 (by decide)), if_neg (ne_lit hx2 (by decide))]
    | true =>
      obtain ⟨j, hj, rfl⟩ := ib_of hx2 (by omega)
      simp only [bIt]
      have e4 : ((4 : Int32) ≤ nI j) = (4 ≤ j) := nIl (a := 4) (by omega) (by omega)
      simp only [e4, groupCellx]
      rcases (show j = 0 ∨ j = 1 ∨ j = 2 ∨ j = 3 ∨ j = 4 ∨ j = 5 by omega) with rfl | rfl | rfl | rfl | rfl | rfl
      · rw [if_neg (show ¬ 4 ≤ 0 by omega), gd_ib (by omega) (by omega), ixn (by omega), he.k0 hi]
        exact ⟨_, rfl, rfl, hR2⟩
      · rw [if_neg (show ¬ 4 ≤ 1 by omega), gd_ib (by omega) (by omega), ixn (by omega), he.k1 hi]
        exact ⟨_, rfl, rfl, hR2⟩
      · rw [if_neg (show ¬ 4 ≤ 2 by omega), gd_ib (by omega) (by omega), ixn (by omega), he.k2 hi]
        exact ⟨_, rfl, rfl, hR2⟩
      · rw [if_neg (show ¬ 4 ≤ 3 by omega), gd_ib (by omega) (by omega), ixn (by omega), he.k3 hi]
        exact ⟨_, rfl, rfl, hR2⟩
      · obtain ⟨w, q1, q2⟩ := units_sim hN he hs hh (x2 := nI 4) (by decide) (nI i) N 0 0 (by omega) (by omega)
        refine ⟨w, ?_, ?_, hR2⟩
        · show bn1 (F_X0_drawingUnits N (nI i) A) (fun x8 => some x8) = _
          rw [F_X0_drawingUnits]
          exact (congrArg (fun o => bn1 o (fun x8 => some x8)) q1)
        · rw [if_pos (show 4 ≤ 4 by omega)]
          exact q2
      · obtain ⟨w, q1, q2⟩ := cnt_sim (N := N) he hs (nI i) N 0 0 (by omega) (by omega)
        refine ⟨w, ?_, ?_, hR2⟩
        · show bn1 (F_X0_sharesIn N (nI i) A) (fun x8 => some x8) = _
          rw [F_X0_sharesIn]
          exact (congrArg (fun o => bn1 o (fun x8 => some x8)) q1)
        · rw [if_pos (show 4 ≤ 5 by omega)]
          exact q2
/-! ===== a new member, a new class ===== -/
section Grow
variable {K : KT} {m r s y c j k i : Nat} {A B : MM}
/-- a longer book: the new row's cells are equal by hand -/
theorem Eqv.growM (h : Eqv K m r s A B) (hm : m < 24) (hrow : ∀ f, f < 7 → gL B 1 (111 + 7 * m + f) = rd A (7 + m) f) : Eqv K (m + 1) r s A B := by
  obtain ⟨hc, h1, h2⟩ := h
  refine ⟨⟨by omega, hc.2⟩, fun c k hv => ?_, h2⟩
  by_cases e : c = 7 + m ∧ k < 7
  · obtain ⟨rfl, e2⟩ := e
    rw [show enc (7 + m) k = 111 + 7 * m + k by unfold enc scal; (repeat' split) <;> omega]
    exact hrow k e2
  · exact h1 c k (by unfold val at *; omega)
theorem Eqv.growR (h : Eqv K m r s A B) (hm : r < 6) (hrow : ∀ f, f < 4 → gL B 1 (279 + 4 * r + f) = rd A (31 + r) f) : Eqv K m (r + 1) s A B := by
  obtain ⟨hc, h1, h2⟩ := h
  refine ⟨⟨hc.1, by omega, hc.2.2⟩, fun c k hv => ?_, h2⟩
  by_cases e : c = 31 + r ∧ k < 4
  · obtain ⟨rfl, e2⟩ := e
    have := hc.1
    rw [show enc (31 + r) k = 279 + 4 * r + k by unfold enc scal; (repeat' split) <;> omega]
    exact hrow k e2
  · exact h1 c k (by unfold val at *; omega)
end Grow
theorem mem_loop {N : Nat} {x : Int32} {m : Nat} (hm : m < 24) : ∀ (fu j : Nat) (B : MM), j ≤ 7 → 7 < j + fu → ∃ B1, F_X6_member_63 N x fu (nI m) (nI j) B = some ((nI m).toInt64, sL (sL (sL B1 1 (111 + 7 * m + 0) x.toInt64) 1 (111 + 7 * m + 3) (-1)) 1 5668 (gL (sL (sL B1 1 (111 + 7 * m + 0) x.toInt64) 1 (111 + 7 * m + 3) (-1)) 1 5668 + 1)) ∧ (∀ q, q < 5672 → gL B1 1 q = if 111 + 7 * m + j ≤ q ∧ q < 111 + 7 * m + 7 then 0 else gL B 1 q) ∧ gL B1 2 = gL B 2 ∧ gI B1 = gI B := by
  intro fu
  induction fu with
  | zero => intro j B h1 h2; omega
  | succ fu ih =>
    intro j B h1 h2
    rw [F_X6_member_63]
    have e7 : ((7 : Int32) ≤ nI j) = (7 ≤ j) := nIl (a := 7) (by omega) (by omega)
    simp only [e7]
    by_cases hj : 7 ≤ j
    · rw [if_pos hj]
      simp (disch := omega) only [cellOf_0, cellOf_3, gd_ib, bnd_e, ixn]
      exact ⟨B, rfl, fun q _ => by rw [if_neg (by omega)], rfl, rfl⟩
    · rw [if_neg hj, cellOfx, gd_ib (by omega) (by omega), bnd_e, ixn (by omega), nI_1]
      obtain ⟨B1, q1, q2, q3, q4⟩ := ih (j + 1) (sL B 1 (111 + 7 * m + j) 0) (by omega) (by omega)
      refine ⟨B1, q1, fun q hq => ?_, by rw [q3, gL_ne (by decide)], q4⟩
      rw [q2 q hq, gLs]
      by_cases e1 : q = 111 + 7 * m + j
      · subst e1
        rw [if_neg (by omega), if_pos ⟨rfl, rfl⟩, if_pos (by omega)]
      · rw [if_neg (by omega : ¬ (1 = 1 ∧ q = 111 + 7 * m + j))]
        by_cases e2 : 111 + 7 * m + (j + 1) ≤ q ∧ q < 111 + 7 * m + 7
        · rw [if_pos e2, if_pos (by omega)]
        · rw [if_neg e2, if_neg (by omega)]

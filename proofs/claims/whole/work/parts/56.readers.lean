theorem in_lit {x : Int32} {b : Int64} {n : Nat} (hb : b.toInt = n) : F_X6_in x.toInt64 0 b = ib x (n + 1) := by
  rw [Bool.eq_iff_iff, in_toInt, ibm, toInt64_toInt, hb, show (0 : Int64).toInt = 0 from rfl]
  omega
theorem ne_lit {x : Int32} {n : Nat} {w : Int32} (h : ib x n = false) (hw : ib w n = true) : ¬ x = w := fun q => by
  rw [q, hw] at h; cases h

theorem sim_share {N : Nat} (hN : 6000 ≤ N) : Sim_share N Rel := by
  intro k n A B hk hR x1 x2
  have hR2 := hR.up
  obtain ⟨hn, K, m, r, s, y, hB, -, -⟩ := hR
  obtain ⟨he, hs, ht, hm, hkk, hh, hp, hf, hb⟩ := hB
  have hc := he.1
  have c1 : m ≤ 24 := hc.1
  have c2 : r ≤ 6 := hc.2.1
  have c3 : s ≤ 40 := hc.2.2
  have hy : y ≤ 60 := hs.2.2.2.2.1
  rw [F_X5_share, F_X6_share, isS_A hs.2.2.1 (by omega), isS_B (he.cs hs) (by omega), in_lit (n := 12) rfl]
  cases hx : ib x1 s with
  | false => exact ⟨_, rfl, rfl, hR2⟩
  | true =>
    obtain ⟨i, hi, rfl⟩ := ib_of hx (by omega)
    obtain ⟨v, q1, q2⟩ := held_sim hN he hs hi (hh i hi)
    obtain ⟨h, q3, q4, -⟩ := how_sim hN he hs hi (hh i hi)
    rw [bIt, bIt, gd_ib (by omega) (by omega), ixn (by omega), q1, q2, q3, q4, bn1_e, bn1_e]
    cases hx2 : ib x2 (12 + 1) with
    | false =>
      simp only [bIf]
      refine ⟨_, ?_, rfl, hR2⟩
      rw [if_neg (ne_lit hx2 (by decide))]
      rw [if_neg (ne_lit hx2 (by decide))]
      rw [if_neg (ne_lit hx2 (by decide))]
      rw [if_neg (ne_lit hx2 (by decide))]
      rw [if_neg (ne_lit hx2 (by decide))]
      rw [if_neg (ne_lit hx2 (by decide))]
      rw [if_neg (ne_lit hx2 (by decide))]
      rw [if_neg (ne_lit hx2 (by decide))]
      rw [if_neg (ne_lit hx2 (by decide))]
      rw [if_neg (ne_lit hx2 (by decide))]
      rw [if_neg (ne_lit hx2 (by decide))]
      rw [if_neg (ne_lit hx2 (by decide))]
      rw [if_neg (ne_lit hx2 (by decide))]
    | true =>
      obtain ⟨j, hj, rfl⟩ := ib_of hx2 (by omega)
      simp only [bIt]
      rcases (show j = 0 ∨ j = 1 ∨ j = 2 ∨ j = 3 ∨ j = 4 ∨ j = 5 ∨ j = 6 ∨ j = 7 ∨ j = 8 ∨ j = 9 ∨ j = 10 ∨ j = 11 ∨ j = 12 by omega) with rfl | rfl | rfl | rfl | rfl | rfl | rfl | rfl | rfl | rfl | rfl | rfl | rfl

      · refine ⟨_, rfl, ?_, hR2⟩
        show gd (ib (F_X6_part (nI i) (nI 0)) 5672) (some (gL B 1 (ix (F_X6_part (nI i) (nI 0))))) = _
        rw [partx, gd_ib (by omega) (by omega), ixn (by omega), he.s0 hi]
      · refine ⟨_, rfl, ?_, hR2⟩
        show gd (ib (F_X6_part (nI i) (nI 1)) 5672) (some (gL B 1 (ix (F_X6_part (nI i) (nI 1))))) = _
        rw [partx, gd_ib (by omega) (by omega), ixn (by omega), he.s1 hi]
      · refine ⟨_, rfl, ?_, hR2⟩
        show gd (ib (F_X6_part (nI i) (nI 2)) 5672) (some (gL B 1 (ix (F_X6_part (nI i) (nI 2))))) = _
        rw [partx, gd_ib (by omega) (by omega), ixn (by omega), he.s2 hi]
      · refine ⟨_, rfl, ?_, hR2⟩
        show gd (ib (F_X6_part (nI i) (nI 3)) 5672) (some (gL B 1 (ix (F_X6_part (nI i) (nI 3))))) = _
        rw [partx, gd_ib (by omega) (by omega), ixn (by omega), he.s3 hi]
      · refine ⟨_, rfl, ?_, hR2⟩
        show gd (ib (F_X6_part (nI i) (nI 4)) 5672) (some (gL B 1 (ix (F_X6_part (nI i) (nI 4))))) = _
        rw [partx, gd_ib (by omega) (by omega), ixn (by omega), he.s4 hi]
      · refine ⟨_, rfl, ?_, hR2⟩
        show gd (ib (F_X6_part (nI i) (nI 5)) 5672) (some (gL B 1 (ix (F_X6_part (nI i) (nI 5))))) = _
        rw [partx, gd_ib (by omega) (by omega), ixn (by omega), he.s5 hi]
      · refine ⟨_, rfl, ?_, hR2⟩
        show gd (ib (F_X6_part (nI i) (nI 6)) 5672) (some (gL B 1 (ix (F_X6_part (nI i) (nI 6))))) = _
        rw [partx, gd_ib (by omega) (by omega), ixn (by omega), he.s6 hi]
      · refine ⟨_, rfl, ?_, hR2⟩
        show gd (ib (F_X6_part (nI i) (nI 7)) 5672) (some (gL B 1 (ix (F_X6_part (nI i) (nI 7))))) = _
        rw [partx, gd_ib (by omega) (by omega), ixn (by omega), he.s7 hi]
      · exact ⟨_, rfl, rfl, hR2⟩
      · refine ⟨_, rfl, ?_, hR2⟩
        show gd (ib (F_X6_part (nI i) (8 : Int32)) 5672) (some (gL B 1 (ix (F_X6_part (nI i) (8 : Int32))))) = _
        rw [part_8, gd_ib (by omega) (by omega), ixn (by omega), he.s8 hi]
      · refine ⟨_, rfl, ?_, hR2⟩
        show gd (ib (F_X6_part (nI i) (10 : Int32)) 5672) (some (gL B 1 (ix (F_X6_part (nI i) (10 : Int32))))) = _
        rw [part_10, gd_ib (by omega) (by omega), ixn (by omega), he.s10 hi]
      · exact ⟨_, rfl, rfl, hR2⟩
      · refine ⟨_, rfl, ?_, hR2⟩
        show gd (ib (F_X6_part (nI i) (12 : Int32)) 5672) (some (gL B 1 (ix (F_X6_part (nI i) (12 : Int32))))) = _
        rw [part_12, gd_ib (by omega) (by omega), ixn (by omega), he.s11 hi]
theorem sim_of {N : Nat} (hN : 6000 ≤ N) : Sim_of N Rel := by
  intro k n A B hk hR x1 x2
  have hR2 := hR.up
  obtain ⟨hn, K, m, r, s, y, hB, -, -⟩ := hR
  obtain ⟨he, hs, ht, hm, hkk, hh, hp, hf, hb⟩ := hB
  have hc := he.1
  have c1 : m ≤ 24 := hc.1
  have c2 : r ≤ 6 := hc.2.1
  have c3 : s ≤ 40 := hc.2.2
  have hy : y ≤ 60 := hs.2.2.2.2.1
  rw [F_X5_of, F_X6_of, isM_A hs.1 (by omega), isM_B (he.cm hs) (by omega), in_lit (n := 5) rfl]
  cases hx : ib x1 m with
  | false => exact ⟨_, rfl, rfl, hR2⟩
  | true =>
    obtain ⟨i, hi, rfl⟩ := ib_of hx (by omega)
    simp (disch := omega) only [bIt, gd_ib, ixn, nIw, dead_B he hi, bn1_e, cellOf_0, cellOf_1, cellOf_2, cellOf_3, cellOf_4, cellOf_6, he.m0 hi, he.m1 hi, he.m2 hi, he.m3 hi, he.m4 hi, he.m6 hi, bo0]
    cases hx2 : ib x2 (5 + 1) with
    | false =>
      simp only [bIf]
      refine ⟨_, ?_, rfl, hR2⟩
      rw [if_neg (ne_lit hx2 (by decide))]
      rw [if_neg (ne_lit hx2 (by decide))]
      rw [if_neg (ne_lit hx2 (by decide))]
      rw [if_neg (ne_lit hx2 (by decide))]
      rw [if_neg (ne_lit hx2 (by decide))]
      rw [if_neg (ne_lit hx2 (by decide))]
    | true =>
      obtain ⟨j, hj, rfl⟩ := ib_of hx2 (by omega)
      simp only [bIt]
      rcases (show j = 0 ∨ j = 1 ∨ j = 2 ∨ j = 3 ∨ j = 4 ∨ j = 5 by omega) with rfl | rfl | rfl | rfl | rfl | rfl
      · exact ⟨_, rfl, rfl, hR2⟩
      · exact ⟨_, rfl, rfl, hR2⟩
      · exact ⟨_, rfl, rfl, hR2⟩
      · by_cases h : gI A (7 + i) 4 = 0
        · refine ⟨0, ?_, ?_, hR2⟩
          · show (if gI A (7 + i) 4 = 0 then some (0 : Int64) else some 1) = _
            rw [if_pos h]
          · show some ((bo (gI A (7 + i) 4)).toInt64) = _
            unfold bo
            rw [if_pos h]; rfl
        · refine ⟨1, ?_, ?_, hR2⟩
          · show (if gI A (7 + i) 4 = 0 then some (0 : Int64) else some 1) = _
            rw [if_neg h]
          · show some ((bo (gI A (7 + i) 4)).toInt64) = _
            unfold bo
            rw [if_neg h]; rfl
      · by_cases h : gI A (7 + i) 5 = 0
        · refine ⟨-1000000000000000, ?_, ?_, hR2⟩
          · show (if gI A (7 + i) 5 = 0 then some (-1000000000000000 : Int64) else some _) = _
            rw [if_pos h]
          · show (if bI (dB A i) = 0 then some (-1000000000000000 : Int64) else some _) = _
            rw [show dB A i = false by unfold dB; simp [h], bIf]
        · refine ⟨(gI A (7 + i) 6).toInt64, ?_, ?_, hR2⟩
          · show (if gI A (7 + i) 5 = 0 then some (-1000000000000000 : Int64) else some _) = _
            rw [if_neg h]
          · show (if bI (dB A i) = 0 then some (-1000000000000000 : Int64) else some _) = _
            rw [show dB A i = true by unfold dB; simp [h], bIt]
      · exact ⟨_, rfl, rfl, hR2⟩
theorem pur_sim {N : Nat} {K : KT} {m r s y : Nat} {A B : MM} (he : Eqv K m r s A B) (hs : R_s m r s y A) (x : Int32) : ∀ (fu j : Nat) (v : Int64), j ≤ m → m < j + fu → ∃ w, F_X0_allPurses_4 N fu v (nI j) A = some w ∧ F_X6_told_125 N x fu v (nI j) B = some w := by
  have hc := he.1
  have c1 : m ≤ 24 := hc.1
  have c2 : r ≤ 6 := hc.2.1
  have c3 : s ≤ 40 := hc.2.2
  intro fu
  induction fu with
  | zero => intro j v h1 h2; omega
  | succ fu ih =>
    intro j v h1 h2
    rw [F_X0_allPurses_4, F_X6_told_125, he.cm hs, nIw (by omega)]
    rw [hs.1]
    simp (disch := omega) only [lNl, nIl]
    by_cases hj : m ≤ j
    · rw [if_pos hj, if_pos hj]
      exact ⟨v, rfl, rfl⟩
    · rw [if_neg hj, if_neg hj]
      simp (disch := omega) only [gd_ib, bnd_e, ixn, cellOf_1, nI_1, he.m1]
      exact ih (j + 1) _ (by omega) (by omega)
theorem deb_sim {N : Nat} {K : KT} {m r s y : Nat} {A B : MM} (he : Eqv K m r s A B) (hs : R_s m r s y A) (x : Int32) : ∀ (fu j : Nat) (v : Int64), j ≤ m → m < j + fu → ∃ w, F_X0_allDebts_4 N fu v (nI j) A = some w ∧ F_X6_told_205 N x fu v (nI j) B = some w := by
  have hc := he.1
  have c1 : m ≤ 24 := hc.1
  have c2 : r ≤ 6 := hc.2.1
  have c3 : s ≤ 40 := hc.2.2
  intro fu
  induction fu with
  | zero => intro j v h1 h2; omega
  | succ fu ih =>
    intro j v h1 h2
    rw [F_X0_allDebts_4, F_X6_told_205, he.cm hs, nIw (by omega)]
    rw [hs.1]
    simp (disch := omega) only [lNl, nIl]
    by_cases hj : m ≤ j
    · rw [if_pos hj, if_pos hj]
      exact ⟨v, rfl, rfl⟩
    · rw [if_neg hj, if_neg hj]
      simp (disch := omega) only [gd_ib, bnd_e, ixn, cellOf_2, nI_1, he.m2]
      exact ih (j + 1) _ (by omega) (by omega)
theorem stk_sim {N : Nat} {K : KT} {m r s y : Nat} {A B : MM} (he : Eqv K m r s A B) (hs : R_s m r s y A) (x : Int32) : ∀ (fu j : Nat) (v : Int64), j ≤ r → r < j + fu → ∃ w, F_X0_allStocks_4 N fu v (nI j) A = some w ∧ F_X6_told_165 N x fu v (nI j) B = some w := by
  have hc := he.1
  have c1 : m ≤ 24 := hc.1
  have c2 : r ≤ 6 := hc.2.1
  have c3 : s ≤ 40 := hc.2.2
  intro fu
  induction fu with
  | zero => intro j v h1 h2; omega
  | succ fu ih =>
    intro j v h1 h2
    rw [F_X0_allStocks_4, F_X6_told_165, he.cr hs, nIw (by omega)]
    rw [hs.2.1]
    simp (disch := omega) only [lNl, nIl]
    by_cases hj : r ≤ j
    · rw [if_pos hj, if_pos hj]
      exact ⟨v, rfl, rfl⟩
    · rw [if_neg hj, if_neg hj]
      simp (disch := omega) only [gd_ib, bnd_e, ixn, groupCell_3, nI_1, he.k3]
      exact ih (j + 1) _ (by omega) (by omega)
theorem hel_sim {N : Nat} (hN : 6000 ≤ N) {K : KT} {m r s y : Nat} {A B : MM} (he : Eqv K m r s A B) (hs : R_s m r s y A) (hh : ∀ i, i < s → R_h m r y A B i) (x : Int32) : ∀ (fu j : Nat) (v : Int64), j ≤ s → s < j + fu → ∃ w, F_X0_allHeld_4 N fu v (nI j) A = some w ∧ F_X6_told_90 N x fu v (nI j) B = some w := by
  have hc := he.1
  have c3 : s ≤ 40 := hc.2.2
  intro fu
  induction fu with
  | zero => intro j v h1 h2; omega
  | succ fu ih =>
    intro j v h1 h2
    rw [F_X0_allHeld_4, F_X6_told_90, he.cs hs, nIw (by omega)]
    rw [hs.2.2.1]
    simp (disch := omega) only [lNl, nIl]
    by_cases hj : s ≤ j
    · rw [if_pos hj, if_pos hj]
      exact ⟨v, rfl, rfl⟩
    · obtain ⟨w, q1, q2⟩ := held_sim hN he hs (by omega) (hh j (by omega))
      rw [if_neg hj, if_neg hj]
      simp (disch := omega) only [gd_ib, ixn, q1, q2, bn1_e, bnd_e, nI_1]
      exact ih (j + 1) _ (by omega) (by omega)

theorem sim_told {N : Nat} (hN : 6000 ≤ N) : Sim_told N Rel := by
  intro k n A B hk hR x1
  have hR2 := hR.up
  obtain ⟨hn, K, m, r, s, y, hB, -, -⟩ := hR
  obtain ⟨he, hs, ht, hm, hkk, hh, hp, hf, hb⟩ := hB
  have hc := he.1
  have c1 : m ≤ 24 := hc.1
  have c2 : r ≤ 6 := hc.2.1
  have c3 : s ≤ 40 := hc.2.2
  have hy : y ≤ 60 := hs.2.2.2.2.1
  rw [F_X5_told, F_X6_told, F_X0_allHeld, F_X0_allPurses, F_X0_allStocks, F_X0_allDebts]
  obtain ⟨w3, a3, b3⟩ := hel_sim hN he hs hh x1 N 0 0 (by omega) (by omega)
  obtain ⟨w4, a4, b4⟩ := pur_sim (N := N) he hs x1 N 0 0 (by omega) (by omega)
  obtain ⟨w5, a5, b5⟩ := stk_sim (N := N) he hs x1 N 0 0 (by omega) (by omega)
  obtain ⟨w6, a6, b6⟩ := deb_sim (N := N) he hs x1 N 0 0 (by omega) (by omega)
  rw [show (nI 0 : Int32) = 0 from rfl] at a3 b3 a4 b4 a5 b5 a6 b6
  rw [a3, a4, a5, a6, b3, b4, b5, b6, he.sc7, he.sc10, he.sc11, he.sc12, he.sc4, he.sc5, he.sc6]
  simp only [bn1_e]
  by_cases h0 : x1 = 0
  · simp only [h0, if_true, if_false]
    exact ⟨_, rfl, rfl, hR2⟩
  by_cases h1 : x1 = 1
  · simp only [h1, show ¬ ((1 : Int32) = 0) by decide, if_true, if_false]
    exact ⟨_, rfl, rfl, hR2⟩
  by_cases h2 : x1 = 2
  · simp only [h2, show ¬ ((2 : Int32) = 0) by decide, show ¬ ((2 : Int32) = 1) by decide, if_true, if_false]
    exact ⟨_, rfl, rfl, hR2⟩
  by_cases h3 : x1 = 3
  · simp only [h3, show ¬ ((3 : Int32) = 0) by decide, show ¬ ((3 : Int32) = 1) by decide, show ¬ ((3 : Int32) = 2) by decide, if_true, if_false]
    exact ⟨_, rfl, rfl, hR2⟩
  by_cases h4 : x1 = 4
  · simp only [h4, show ¬ ((4 : Int32) = 0) by decide, show ¬ ((4 : Int32) = 1) by decide, show ¬ ((4 : Int32) = 2) by decide, show ¬ ((4 : Int32) = 3) by decide, if_true, if_false]
    exact ⟨_, rfl, rfl, hR2⟩
  by_cases h5 : x1 = 5
  · simp only [h5, show ¬ ((5 : Int32) = 0) by decide, show ¬ ((5 : Int32) = 1) by decide, show ¬ ((5 : Int32) = 2) by decide, show ¬ ((5 : Int32) = 3) by decide, show ¬ ((5 : Int32) = 4) by decide, if_true, if_false]
    exact ⟨_, rfl, rfl, hR2⟩
  by_cases h6 : x1 = 6
  · simp only [h6, show ¬ ((6 : Int32) = 0) by decide, show ¬ ((6 : Int32) = 1) by decide, show ¬ ((6 : Int32) = 2) by decide, show ¬ ((6 : Int32) = 3) by decide, show ¬ ((6 : Int32) = 4) by decide, show ¬ ((6 : Int32) = 5) by decide, if_true, if_false]
    exact ⟨_, rfl, rfl, hR2⟩
  by_cases h7 : x1 = 7
  · simp only [h7, show ¬ ((7 : Int32) = 0) by decide, show ¬ ((7 : Int32) = 1) by decide, show ¬ ((7 : Int32) = 2) by decide, show ¬ ((7 : Int32) = 3) by decide, show ¬ ((7 : Int32) = 4) by decide, show ¬ ((7 : Int32) = 5) by decide, show ¬ ((7 : Int32) = 6) by decide, if_true, if_false]
    exact ⟨_, rfl, rfl, hR2⟩
  by_cases h8 : x1 = 8
  · simp only [h8, show ¬ ((8 : Int32) = 0) by decide, show ¬ ((8 : Int32) = 1) by decide, show ¬ ((8 : Int32) = 2) by decide, show ¬ ((8 : Int32) = 3) by decide, show ¬ ((8 : Int32) = 4) by decide, show ¬ ((8 : Int32) = 5) by decide, show ¬ ((8 : Int32) = 6) by decide, show ¬ ((8 : Int32) = 7) by decide, if_true, if_false]
    exact ⟨_, rfl, rfl, hR2⟩
  by_cases h9 : x1 = 9
  · simp only [h9, show ¬ ((9 : Int32) = 0) by decide, show ¬ ((9 : Int32) = 1) by decide, show ¬ ((9 : Int32) = 2) by decide, show ¬ ((9 : Int32) = 3) by decide, show ¬ ((9 : Int32) = 4) by decide, show ¬ ((9 : Int32) = 5) by decide, show ¬ ((9 : Int32) = 6) by decide, show ¬ ((9 : Int32) = 7) by decide, show ¬ ((9 : Int32) = 8) by decide, if_true, if_false]
    exact ⟨_, rfl, rfl, hR2⟩
  by_cases h10 : x1 = 10
  · simp only [h10, show ¬ ((10 : Int32) = 0) by decide, show ¬ ((10 : Int32) = 1) by decide, show ¬ ((10 : Int32) = 2) by decide, show ¬ ((10 : Int32) = 3) by decide, show ¬ ((10 : Int32) = 4) by decide, show ¬ ((10 : Int32) = 5) by decide, show ¬ ((10 : Int32) = 6) by decide, show ¬ ((10 : Int32) = 7) by decide, show ¬ ((10 : Int32) = 8) by decide, show ¬ ((10 : Int32) = 9) by decide, if_true, if_false]
    exact ⟨_, rfl, rfl, hR2⟩
  simp only [if_neg h0, if_neg h1, if_neg h2, if_neg h3, if_neg h4, if_neg h5, if_neg h6, if_neg h7, if_neg h8, if_neg h9, if_neg h10]
  exact ⟨_, rfl, rfl, hR2⟩

theorem MS.upD {k k' : Int} {K : KT} {m r s y : Nat} {P : Nat → Prop} {A B : MM} (h : MS k K m r s y P A B) (hk : k ≤ k') : MS k' K m r s y P A B := by
  obtain ⟨h1, h2, h3, h4, h5, h6, h7, h8, h9⟩ := h
  exact ⟨h1, h2, h3, h4, h5, h6, h7, h8, fun i hi => by have := h9 i hi; omega⟩
theorem death_loop {N : Nat} (hN : 6000 ≤ N) {D : Int} {K : KT} {m r s y : Nat} {P : Nat → Prop} {A1 : MM} {x x2 : Int32} (hD : D ≤ 15000000000000000) : ∀ (fu j : Nat) (v : Int64) (A B : MM), MS (D + j * 400000000000) K m r s y P A B → (∀ c z, c < 37 ∨ z ≠ 14 → gI A c z = gI A1 c z) → j ≤ s → s < j + fu → ∃ (w : Int64) (A' B' : MM), F_X0_learnDeath_35 N x x2 fu v (nI j) A = some (w, A') ∧ F_X6_death_91 N x x2 fu v (nI j) B = some (w, B') ∧ MS (D + s * 400000000000) K m r s y P A' B' ∧ (∀ c z, c < 37 ∨ z ≠ 14 → gI A' c z = gI A1 c z) := by
  intro fu
  induction fu with
  | zero => intro j v A B h0 h9 h1 h2; omega
  | succ fu ih =>
    intro j v A B h0 h9 h1 h2
    have he := h0.1
    have hs := h0.2.1
    have c1 : m ≤ 24 := he.1.1
    have c3 : s ≤ 40 := he.1.2.2
    rw [F_X0_learnDeath_35, F_X6_death_91, he.cs hs, nIw (by omega), hs.2.2.1]
    simp (disch := omega) only [lNl, nIl]
    by_cases hj : s ≤ j
    · rw [if_pos hj, if_pos hj]
      exact ⟨v, A, B, rfl, rfl, h0.upD (by omega), h9⟩
    · have hj2 : j < s := by omega
      rw [if_neg hj, if_neg hj, gd_ib (by omega) (by omega), hasL he hj2, bn1_e, ixn (by omega), nI_1]
      obtain ⟨h4, ho, li, ra, u, kn, si, su, un, hfr, h5, -⟩ := h0.2.2.2.2.2.1 j hj2
      cases hl : F_X3_hasLife (37 + j) x A with
      | false =>
        rw [bIf, bIf]
        exact ih (j + 1) v A B (h0.upD (by omega)) h9 (by omega) (by omega)
      | true =>
        rw [bIt, bIt, allD_A hs c1 h5.2.1 h5.2.2.2.2.2.2.2.2.2.2.1 h4, allD_B he hj2 h5.2.1 h5.2.2.2.2.2.2.2.2.2.2.1 h4, bn1_e, bn1_e]
        cases hd : aD A j li with
        | false =>
          rw [bIf, bIf]
          exact ih (j + 1) v A B (h0.upD (by omega)) h9 (by omega) (by omega)
        | true =>
          rw [bIt, bIt]
          obtain ⟨w, A2, B2, p1, p2, p3, p4⟩ := h0.settle (N := N) hN hj2 (k' := D + (j + 1 : Nat) * 400000000000) (by omega) (by omega)
          rw [p1, p2, bn2_e, bn2_e, bnd_e, bnd_e]
          exact ih (j + 1) (v + w) A2 B2 p3 (fun c z q => by rw [p4 c z (by omega), h9 c z q]) (by omega) (by omega)
theorem sim_death {N : Nat} (hN : 6000 ≤ N) : Sim_death N Rel := by
  intro k n A B hk hR x1 x2
  have hR2 := hR.up
  obtain ⟨hn, K, m, r, s, y, hB, hK1, hK2⟩ := hR
  have hB0 := BR_MS.mp hB
  obtain ⟨he, hs, ht, hm, hkk, hh, hp, hf, hb⟩ := hB
  have c1 : m ≤ 24 := he.1.1
  have c3 : s ≤ 40 := he.1.2.2
  have hy : y ≤ 60 := hs.2.2.2.2.1
  rw [F_X5_death, F_X6_death, isM_A hs.1 (by omega), isM_B (he.cm hs) (by omega)]
  cases hx : ib x1 m with
  | false => exact ⟨_, A, B, rfl, rfl, hR2⟩
  | true =>
    obtain ⟨i, hi, rfl⟩ := ib_of hx (by omega)
    rw [bIt, bIt, nIw (by omega), dead_B he hi, bn1_e, gd_ib (by omega) (by omega), ixn (by omega)]
    simp only [bo0]
    unfold dB
    by_cases h5 : gI A (7 + i) 5 = 0
    · rw [if_pos h5, decide_eq_true h5, Bool.not_true, bIf]
      simp (disch := omega) only [cellOf_0, cellOf_4, cellOf_5, cellOf_6, gd_ib, bnd_e, ixn, he.m0 hi, he.sc7, wlt, wle]
      by_cases g1 : x2 < gI A (7 + i) 0
      · have ew : F_X5_isWithin x2 (gI A (7 + i) 0) (gI A 1 7) = false := by
          rw [Bool.eq_false_iff]
          intro q
          have := wi_toInt.mp q
          rw [Int32.lt_iff_toInt_lt] at g1
          omega
        rw [if_pos g1, ew, bIf]
        exact ⟨_, A, B, rfl, rfl, hR2⟩
      · rw [if_neg g1]
        by_cases g2 : x2 ≤ gI A 1 7
        · have ew : F_X5_isWithin x2 (gI A (7 + i) 0) (gI A 1 7) = true := by
            rw [wi_toInt]
            rw [Int32.lt_iff_toInt_lt] at g1
            rw [Int32.le_iff_toInt_le] at g2
            omega
          have q1 := hm i hi
          have ey : (gI A 1 7).toInt = y := by rw [hs.2.2.2.1, nI_toInt (by omega)]
          have hr := wi_toInt.mp ew
          rw [if_pos g2, ew, bIt, F_X0_learnDeath, gd_ib (by omega) (by omega), ixn (by omega), bnd_e, bnd_e, bnd_e]
          have hM := ((hB0.m5 hi (v := 1) (w := 1) rfl).m6 hi (v := x2) (by omega) (by omega)).m4 hi (v := 0) (w := 0) rfl
          obtain ⟨w, A', B', q1, q2, q3, q4⟩ := death_loop hN (D := (k : Int) * 20000000000000) (x := nI i) (x2 := x2) (A1 := sI (sI (sI A (7 + i) 5 1) (7 + i) 6 x2) (7 + i) 4 0) (by omega) N 0 0 _ _ (hM.upD (by omega)) (fun c z q => rfl) (by omega) (by omega)
          have q1' : F_X0_learnDeath_35 N (nI i) x2 N 0 (0 : Int32) (sI (sI (sI A (7 + i) 5 1) (7 + i) 6 x2) (7 + i) 4 0) = some (w, A') := q1
          have q2' : F_X6_death_91 N (nI i) x2 N 0 (0 : Int32) (sL (sL (sL B 1 (111 + 7 * i + 5) 1) 1 (111 + 7 * i + 6) x2.toInt64) 1 (111 + 7 * i + 4) 0) = some (w, B') := q2
          rw [q1', q2', bn2_e]
          refine ⟨w, A', B', rfl, rfl, hn, K, m, r, s, y, BR_MS.mpr ((q3.upD (by omega)).mono ?_), hK1, fun z => ⟨(hK2 z).1, (hK2 z).2.up⟩⟩
          rintro z hz ⟨j, j1, j2, j3⟩
          rw [q4 _ _ (by omega), q4 _ _ (by omega)] at j2
          rw [q4 _ _ (by omega)] at j3
          rw [gIn (by omega), gIn (by omega), gIn (by omega), gIn (by omega), gIn (by omega), gIn (by omega)] at j2
          by_cases e : j = i
          · subst e
            rw [gIe] at j3
            exact absurd rfl j3
          · rw [gIn (by omega), gIn (by omega), gIn (by omega)] at j3
            exact ⟨j, j1, j2, j3⟩
        · have ew : F_X5_isWithin x2 (gI A (7 + i) 0) (gI A 1 7) = false := by
            rw [Bool.eq_false_iff]
            intro q
            have := wi_toInt.mp q
            rw [Int32.le_iff_toInt_le] at g2
            omega
          rw [if_neg g2, ew, bIf]
          exact ⟨_, A, B, rfl, rfl, hR2⟩
    · rw [if_neg h5, decide_eq_false h5, Bool.not_false, bIt]
      exact ⟨_, A, B, rfl, rfl, hR2⟩

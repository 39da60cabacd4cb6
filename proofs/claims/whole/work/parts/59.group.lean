set_option maxHeartbeats 4000000 in
theorem BR.growR {k : Nat} {K : KT} {m r s y : Nat} {A B A2 B2 : MM} (h : BR k K m r s y A B) (hr : r < 6)
    (a1 : ∀ c j, c ≠ 31 + r → ¬ (c = 1 ∧ j = 5) → gI A2 c j = gI A c j) (a2 : ∀ c j, c ≠ 31 + r → gL A2 c j = gL A c j) (a3 : gI A2 1 5 = nI (r + 1)) {lo hi : Nat} {x : Int32} (a4 : gI A2 (31 + r) 0 = nI lo) (a5 : gI A2 (31 + r) 1 = nI hi) (a6 : gI A2 (31 + r) 2 = x) (a7 : gL A2 (31 + r) 3 = 0) (hlo : lo ≤ 110) (hhi : hi ≤ 110) (hx1 : 1 ≤ x.toInt) (hx2 : x.toInt ≤ 10000)
    (b1 : ∀ q, q < 5672 → (q < 279 + 4 * r ∨ 279 + 4 * r + 4 ≤ q) → q ≠ 5669 → gL B2 1 q = gL B 1 q) (b2 : gL B2 1 5669 = lN (r + 1)) (b3 : gL B2 1 (279 + 4 * r + 0) = (nI lo).toInt64) (b4 : gL B2 1 (279 + 4 * r + 1) = (nI hi).toInt64) (b5 : gL B2 1 (279 + 4 * r + 2) = x.toInt64) (b6 : gL B2 1 (279 + 4 * r + 3) = 0) (b7 : gL B2 2 = gL B 2) (b8 : gI B2 0 = gI B 0) : BR k K m (r + 1) s y A2 B2 := by
  obtain ⟨he, hs, ht, hmm, hkk, hh, hp, hf, hb⟩ := h
  have hc := he.1
  have c1 : m ≤ 24 := hc.1
  have c3 : s ≤ 40 := hc.2.2
  have hc2 : cap m (r + 1) s := ⟨c1, by omega, c3⟩
  have hpv : ∀ i, i < s → (prv m A2 i → prv m A i) := by
    rintro i hi ⟨j, j1, j2, j3⟩
    rw [a1 _ _ (by omega) (by omega), a1 _ _ (by omega) (by omega)] at j2
    exact ⟨j, j1, j2, by rw [a1 _ _ (by omega) (by omega)] at j3; exact j3⟩
  refine ⟨⟨hc2, fun c j hv => ?_, fun c j hcj => ?_, by rw [b7]; exact he.2.2.2.1, by rw [b8]; exact he.2.2.2.2⟩, ?_, fun z hz => ?_, fun i hi => ?_, fun i hi => ?_, fun i hi => ?_, fun i hi => ?_, ?_, fun i hi => ?_⟩
  · by_cases e : c = 31 + r ∧ j < 4
    · obtain ⟨rfl, e2⟩ := e
      rw [show enc (31 + r) j = 279 + 4 * r + j by unfold enc scal; (repeat' split) <;> omega]
      unfold rd
      rcases (show j = 0 ∨ j = 1 ∨ j = 2 ∨ j = 3 by omega) with rfl | rfl | rfl | rfl
      · rw [b3, if_neg (by rw [t_k0 hr]; decide), if_neg (by rw [z_k0 hr]; decide), a4]
      · rw [b4, if_neg (by rw [t_k1 hr]; decide), if_neg (by rw [z_k1 hr]; decide), a5]
      · rw [b5, if_neg (by rw [t_k2 hr]; decide), if_neg (by rw [z_k2 hr]; decide), a6]
      · rw [b6, if_pos (t_k3 hr), a7]
    · by_cases e2 : c = 1 ∧ j = 5
      · obtain ⟨rfl, rfl⟩ := e2
        show gL B2 1 5669 = (gI A2 1 5).toInt64
        rw [b2, a3, nIw (by omega)]
      · have hv0 : val m r s c j := by unfold val at *; omega
        have hne : c ≠ 31 + r := by unfold val at hv0; omega
        have q := he.2.1 c j hv0
        have hl := enc_lt hc hv0
        have h1 : enc c j ≠ 5669 := fun q9 => by
          have q8 : enc c j = enc 1 5 := q9
          exact e2 (enc_inj hc hv0 v_sc5 q8)
        have h2 : enc c j < 279 + 4 * r ∨ 279 + 4 * r + 4 ≤ enc c j := by
          have w := enc_for hc hv0
          unfold val at hv0
          omega
        rw [b1 _ hl h2 h1, q, rd_of (a1 c j hne e2) (a2 c j hne)]
  · have q := he.2.2.1 c j hcj
    rw [a1 c j (by omega) (by omega), a2 c j (by omega)]
    exact q
  · unfold R_s at *
    rw [a1 1 4 (by omega) (by omega), a1 1 6 (by omega) (by omega), a1 1 7 (by omega) (by omega), a1 1 9 (by omega) (by omega)]
    exact ⟨hs.1, a3, hs.2.2⟩
  · rw [a1 3 z (by omega) (by omega)]
    exact ht z hz
  · have q := hmm i hi
    rw [a1 _ _ (by omega) (by omega), a1 _ _ (by omega) (by omega), a1 _ _ (by omega) (by omega)]
    exact q
  · by_cases e : i = r
    · subst e
      rw [a4, a5, a6, a7]
      exact ⟨⟨lo, _, hlo, hhi, rfl, rfl⟩, hx1, hx2, by decide, by show (0 : Int) ≤ _; omega⟩
    · have q := hkk i (by omega)
      rw [a1 _ _ (by omega) (by omega), a1 _ _ (by omega) (by omega), a1 _ _ (by omega) (by omega), a2 _ _ (by omega)]
      exact q
  · obtain ⟨h0, ho, li, ra, u, kn, si, su, un, hf2, h1, h2, h3, h4⟩ := hh i hi
    refine ⟨?_, ho, li, ra, u, kn, si, su, un, hf2, ?_, ?_, ?_, fun z hz => ?_⟩
    · unfold R_o at *
      rw [a1 _ _ (by omega) (by omega)]
      exact h0
    · unfold R_v at *
      rw [a1 _ 0 (by omega) (by omega), a1 _ 1 (by omega) (by omega), a1 _ 4 (by omega) (by omega), a1 _ 3 (by omega) (by omega), a1 _ 5 (by omega) (by omega), a1 _ 8 (by omega) (by omega), a1 _ 9 (by omega) (by omega), a1 _ 10 (by omega) (by omega), a1 _ 14 (by omega) (by omega)]
      obtain ⟨v0, v1, v4, v3, v5, v8, v9, v10, v14, r0, r1, r4, rest⟩ := h1
      exact ⟨v0, v1, v4, v3, v5, v8, v9, v10, v14, r0, r1, by omega, rest⟩
    · rw [b1 _ (by omega) (by omega) (by omega)]
      exact h2
    · rintro (q | q)
      · exact h3 (Or.inl (hpv i hi q))
      · exact h3 (Or.inr q)
    · rw [b1 _ (by omega) (by omega) (by omega), a2 _ _ (by omega)]
      exact h4 z hz
  · obtain ⟨q, q1, q2, q3⟩ := hp i hi
    refine ⟨q, by omega, ?_, ?_⟩
    · rw [b1 _ (by omega) (by omega) (by omega)]
      exact q2
    · rw [a1 _ _ (by omega) (by omega), a2 _ _ (by omega)]
      exact q3
  · unfold R_f at *
    rw [a2 _ _ (by omega), sumZ_congr (f := heI B2) (g := heI B) (fun i hi => heI_of (fun j hj => b1 _ (by omega) (by omega) (by omega)))]
    exact hf
  · rw [a2 _ _ (by omega)]
    exact hb i hi
theorem sim_group {N : Nat} (hN : 6000 ≤ N) : Sim_group N Rel := by
  intro k n A B hk hR x1 x2 x3
  have hR2 := hR.up
  obtain ⟨hn, K, m, r, s, y, hB, hK1, hK2⟩ := hR
  have hB0 := hB
  obtain ⟨he, hs, ht, hm, hkk, hh, hp, hf, hb⟩ := hB
  have hc := he.1
  have c2 : r ≤ 6 := hc.2.1
  rw [F_X5_group, F_X6_group, age_A, age_A, age_B, age_B, in_w (x := x3) (a := 1) (b := 10000) (a' := 1) (b' := 10000) rfl rfl]
  cases hx : ib x1 111 with
  | false => exact ⟨_, A, B, rfl, rfl, hR2⟩
  | true =>
    obtain ⟨lo, hlo, rfl⟩ := ib_of hx (by omega)
    simp only [bIt]
    cases hx2 : ib x2 111 with
    | false => exact ⟨_, A, B, rfl, rfl, hR2⟩
    | true =>
      obtain ⟨hi, hhi, rfl⟩ := ib_of hx2 (by omega)
      simp (disch := omega) only [bIt, nIl, nIlt]
      by_cases h1 : lo ≤ hi
      · rw [if_pos h1, if_neg (show ¬ hi < lo by omega)]
        cases hx3 : F_X5_isWithin x3 1 10000 with
        | false => exact ⟨_, A, B, rfl, rfl, hR2⟩
        | true =>
          simp only [bIt]
          rw [hs.2.1, he.cr hs]
          have e3 : (nI r < (6 : Int32)) = (r < 6) := nIlt (b := 6) (by omega) (by omega)
          have e4 : (lN r = (6 : Int64)) = (r = 6) := lNe (b := 6) (by omega) (by omega)
          simp only [e3, e4]
          by_cases h3 : r < 6
          · rw [if_pos h3, if_neg (show ¬ r = 6 by omega), bnd_e, lNi, F_X0_addRank, hs.2.1, gd_ib (by omega) (by omega), ixn (by omega), F_X2_begin]
            simp (disch := omega) only [bnd_e, bn1_e, bn2_e, groupCell_0, groupCell_1, groupCell_2, groupCell_3, gd_ib, ixn]
            have hq := wi_toInt.mp hx3
            refine ⟨_, _, sL (sL (sL (sL (sL B 1 (279 + 4 * r + 0) (nI lo).toInt64) 1 (279 + 4 * r + 1) (nI hi).toInt64) 1 (279 + 4 * r + 2) x3.toInt64) 1 (279 + 4 * r + 3) 0) 1 5669 (gL (sL (sL (sL (sL B 1 (279 + 4 * r + 0) (nI lo).toInt64) 1 (279 + 4 * r + 1) (nI hi).toInt64) 1 (279 + 4 * r + 2) x3.toInt64) 1 (279 + 4 * r + 3) 0) 1 5669 + 1), rfl, ?_, hn, K, m, r + 1, s, y, BR.up (hB0.growR h3 (lo := lo) (hi := hi) (x := x3) ?_ ?_ ?_ ?_ ?_ ?_ ?_ (by omega) (by omega) hq.1 hq.2 ?_ ?_ ?_ ?_ ?_ ?_ ?_ ?_), hK1, fun z => ⟨(hK2 z).1, (hK2 z).2.up⟩⟩
            · simp (disch := omega) only [gIn, gIsL, gIe, hs.2.1, nI_1, nI_pred]
            · intro c j q5 q6
              simp (disch := omega) only [gIn, gIsL]
            · intro c j q5
              simp (disch := omega) only [gLn, gLsI]
            · simp (disch := omega) only [gIn, gIsL, gIe, hs.2.1, nI_1]
            · simp (disch := omega) only [gIn, gIsL, gIe]
            · simp (disch := omega) only [gIn, gIsL, gIe]
            · simp (disch := omega) only [gIn, gIsL, gIe]
            · simp (disch := omega) only [gLn, gLsI, gLe]
            · intro q q5 q6 q7
              simp (disch := omega) only [gLn]
            · simp (disch := omega) only [gLn, gLe]
              rw [he.cr hs, lN_1]
            · simp (disch := omega) only [gLn, gLe]
            · simp (disch := omega) only [gLn, gLe]
            · simp (disch := omega) only [gLn, gLe]
            · simp (disch := omega) only [gLn, gLe]
            · rw [gL_ne (by decide), gL_ne (by decide), gL_ne (by decide), gL_ne (by decide), gL_ne (by decide)]
            · rfl
          · rw [if_neg h3, if_pos (show r = 6 by omega)]
            exact ⟨_, A, B, rfl, rfl, hR2⟩
      · rw [if_neg h1, if_pos (show hi < lo by omega)]
        exact ⟨_, A, B, rfl, rfl, hR2⟩

theorem rd_of {A A2 : MM} {c k : Nat} (h1 : gI A2 c k = gI A c k) (h2 : gL A2 c k = gL A c k) : rd A2 c k = rd A c k := by unfold rd; rw [h1, h2]
theorem heI_of {B B2 : MM} {i : Nat} (h : ∀ j, j < 60 → gL B2 1 (3263 + 60 * i + j) = gL B 1 (3263 + 60 * i + j)) : heI B2 i = heI B i := sumZ_congr (fun j hj => by rw [h j hj])
set_option maxHeartbeats 4000000 in
theorem BR.growM {k : Nat} {K : KT} {m r s y : Nat} {A B A2 B2 : MM} (h : BR k K m r s y A B) (hm : m < 24)
    (a1 : ∀ c j, c ≠ 7 + m → ¬ (c = 1 ∧ j = 4) → gI A2 c j = gI A c j) (a2 : ∀ c j, c ≠ 7 + m → gL A2 c j = gL A c j) (a3 : gI A2 1 4 = nI (m + 1)) {x : Int32} (a4 : gI A2 (7 + m) 0 = x) (a5 : gI A2 (7 + m) 3 = -1) (a6 : gI A2 (7 + m) 4 = 0) (a7 : gI A2 (7 + m) 5 = 0) (a8 : gI A2 (7 + m) 6 = 0) (a9 : gL A2 (7 + m) 1 = 0) (a10 : gL A2 (7 + m) 2 = 0) (hx1 : -110 ≤ x.toInt) (hx2 : x.toInt ≤ 60)
    (b1 : ∀ q, q < 5672 → (q < 111 + 7 * m ∨ 111 + 7 * m + 7 ≤ q) → q ≠ 5668 → gL B2 1 q = gL B 1 q) (b2 : gL B2 1 5668 = lN (m + 1)) (b3 : gL B2 1 (111 + 7 * m + 0) = x.toInt64) (b4 : gL B2 1 (111 + 7 * m + 3) = -1) (b5 : ∀ f, f < 7 → f ≠ 0 → f ≠ 3 → gL B2 1 (111 + 7 * m + f) = 0) (b6 : gL B2 2 = gL B 2) (b7 : gI B2 0 = gI B 0) : BR k K (m + 1) r s y A2 B2 := by
  obtain ⟨he, hs, ht, hmm, hkk, hh, hp, hf, hb⟩ := h
  have hc := he.1
  have c2 : r ≤ 6 := hc.2.1
  have c3 : s ≤ 40 := hc.2.2
  have hc2 : cap (m + 1) r s := ⟨by omega, c2, c3⟩
  have hm1 : R_m (m + 1) A2 := by
    intro i hi
    by_cases e : i = m
    · subst e
      rw [a4, a5, a8]
      exact ⟨hx1, hx2, Or.inl rfl, by decide, by decide⟩
    · have q := hmm i (by omega)
      rw [a1 _ _ (by omega) (by omega), a1 _ _ (by omega) (by omega), a1 _ _ (by omega) (by omega)]
      refine ⟨q.1, q.2.1, ?_, q.2.2.2⟩
      rcases q.2.2.1 with q1 | ⟨j, j1, j2⟩
      · exact Or.inl q1
      · exact Or.inr ⟨j, by omega, j2⟩
  have hpv : ∀ i, i < s → (prv (m + 1) A2 i → prv m A i) := by
    rintro i hi ⟨j, j1, j2, j3⟩
    rw [a1 _ _ (by omega) (by omega), a1 _ _ (by omega) (by omega)] at j2
    by_cases e : j = m
    · subst e; exact absurd a6 j3
    · exact ⟨j, by omega, j2, by rw [a1 _ _ (by omega) (by omega)] at j3; exact j3⟩
  refine ⟨⟨hc2, fun c j hv => ?_, fun c j hcj => ?_, by rw [b6]; exact he.2.2.2.1, by rw [b7]; exact he.2.2.2.2⟩, ?_, fun z hz => ?_, hm1, fun i hi => ?_, fun i hi => ?_, fun i hi => ?_, ?_, fun i hi => ?_⟩
  · by_cases e : c = 7 + m ∧ j < 7
    · obtain ⟨rfl, e2⟩ := e
      rw [show enc (7 + m) j = 111 + 7 * m + j by unfold enc scal; (repeat' split) <;> omega]
      unfold rd
      rcases (show j = 0 ∨ j = 1 ∨ j = 2 ∨ j = 3 ∨ j = 4 ∨ j = 5 ∨ j = 6 by omega) with rfl | rfl | rfl | rfl | rfl | rfl | rfl
      · rw [b3, if_neg (by rw [t_m0 hm]; decide), if_neg (by rw [z_m0 hm]; decide), a4]
      · rw [b5 1 (by omega) (by omega) (by omega), if_pos (t_m1 hm), a9]
      · rw [b5 2 (by omega) (by omega) (by omega), if_pos (t_m2 hm), a10]
      · rw [b4, if_neg (by rw [t_m3 hm]; decide), if_neg (by rw [z_m3 hm]; decide), a5]; rfl
      · rw [b5 4 (by omega) (by omega) (by omega), if_neg (by rw [t_m4 hm]; decide), if_pos (z_m4 hm), a6]; rfl
      · rw [b5 5 (by omega) (by omega) (by omega), if_neg (by rw [t_m5 hm]; decide), if_pos (z_m5 hm), a7]; rfl
      · rw [b5 6 (by omega) (by omega) (by omega), if_neg (by rw [t_m6 hm]; decide), if_neg (by rw [z_m6 hm]; decide), a8]; rfl
    · by_cases e2 : c = 1 ∧ j = 4
      · obtain ⟨rfl, rfl⟩ := e2
        show gL B2 1 5668 = (gI A2 1 4).toInt64
        rw [b2, a3, nIw (by omega)]
      · have hv0 : val m r s c j := by unfold val at *; omega
        have hne : c ≠ 7 + m := by unfold val at hv0; omega
        have q := he.2.1 c j hv0
        have hl := enc_lt hc hv0
        have h1 : enc c j ≠ 5668 := fun q9 => by
          have q8 : enc c j = enc 1 4 := q9
          exact e2 (enc_inj hc hv0 v_sc4 q8)
        have h2 : enc c j < 111 + 7 * m ∨ 111 + 7 * m + 7 ≤ enc c j := by
          have w := enc_for hc hv0
          unfold val at hv0
          omega
        rw [b1 _ hl h2 h1, q, rd_of (a1 c j hne e2) (a2 c j hne)]
  · have q := he.2.2.1 c j hcj
    rw [a1 c j (by omega) (by omega), a2 c j (by omega)]
    exact q
  · unfold R_s at *
    rw [a1 1 5 (by omega) (by omega), a1 1 6 (by omega) (by omega), a1 1 7 (by omega) (by omega), a1 1 9 (by omega) (by omega)]
    exact ⟨a3, hs.2⟩
  · rw [a1 3 z (by omega) (by omega)]
    exact ht z hz
  · have q := hkk i hi
    rw [a1 _ _ (by omega) (by omega), a1 _ _ (by omega) (by omega), a1 _ _ (by omega) (by omega), a2 _ _ (by omega)]
    exact q
  · obtain ⟨h0, ho, li, ra, u, kn, si, su, un, hf2, h1, h2, h3, h4⟩ := hh i hi
    refine ⟨?_, ho, li, ra, u, kn, si, su, un, hf2, ?_, ?_, ?_, fun z hz => ?_⟩
    · unfold R_o at *
      rw [a1 _ _ (by omega) (by omega)]
      rcases h0 with q | ⟨j, j1, j2⟩
      · exact Or.inl q
      · exact Or.inr ⟨j, by omega, j2⟩
    · unfold R_v at *
      rw [a1 _ 0 (by omega) (by omega), a1 _ 1 (by omega) (by omega), a1 _ 4 (by omega) (by omega), a1 _ 3 (by omega) (by omega), a1 _ 5 (by omega) (by omega), a1 _ 8 (by omega) (by omega), a1 _ 9 (by omega) (by omega), a1 _ 10 (by omega) (by omega), a1 _ 14 (by omega) (by omega)]
      obtain ⟨v0, v1, v4, v3, v5, v8, v9, v10, v14, r0, r1, rest⟩ := h1
      exact ⟨v0, v1, v4, v3, v5, v8, v9, v10, v14, by omega, by omega, rest⟩
    · rw [b1 _ (by omega) (by omega) (by omega)]
      exact h2
    · rintro (q | q)
      · exact h3 (Or.inl (hpv i hi q))
      · exact h3 (Or.inr q)
    · rw [b1 _ (by omega) (by omega) (by omega), a2 _ _ (by omega)]
      exact h4 z hz
  · obtain ⟨q, q1, q2, q3⟩ := hp i hi
    refine ⟨q, by omega, ?_, ?_⟩
    · rw [b1 _ (by omega) (by omega) (by omega)]
      exact q2
    · rw [a1 _ _ (by omega) (by omega), a2 _ _ (by omega)]
      exact q3
  · unfold R_f at *
    rw [a2 _ _ (by omega), sumZ_congr (f := heI B2) (g := heI B) (fun i hi => heI_of (fun j hj => b1 _ (by omega) (by omega) (by omega)))]
    exact hf
  · by_cases e : i = m
    · subst e
      rw [a10]
      exact ⟨by decide, by show (0 : Int) ≤ _; omega⟩
    · rw [a2 _ _ (by omega)]
      exact hb i (by omega)
theorem sim_member {N : Nat} (hN : 6000 ≤ N) : Sim_member N Rel := by
  intro k n A B hk hR x1
  have hR2 := hR.up
  obtain ⟨hn, K, m, r, s, y, hB, hK1, hK2⟩ := hR
  have hB0 := hB
  obtain ⟨he, hs, ht, hm, hkk, hh, hp, hf, hb⟩ := hB
  have hc := he.1
  have c1 : m ≤ 24 := hc.1
  have hy : y ≤ 60 := hs.2.2.2.2.1
  rw [F_X5_member, F_X6_member, he.sc7]
  simp only [wlt]
  by_cases h1 : gI A 1 7 < x1
  · rw [if_pos h1, if_pos h1]
    exact ⟨_, A, B, rfl, rfl, hR2⟩
  · rw [if_neg h1, if_neg h1]
    have e1 : (x1 < gI A 1 7 - 110) = (x1.toInt < y - 110) := by
      rw [Int32.lt_iff_toInt_lt, hs.2.2.2.1, show nI y - 110 = nI y - nI 110 from rfl, pk_sub_toInt (by omega) (by omega)]
      rfl
    have e2 : (x1.toInt64 < (gI A 1 7).toInt64 - 110) = (x1.toInt < y - 110) := by
      have q : ((gI A 1 7).toInt64 - 110).toInt = y - 110 := by
        rw [fb_subL] <;> rw [toInt64_toInt, hs.2.2.2.1, nI_toInt (by omega), show (110 : Int64).toInt = 110 from rfl]
        all_goals omega
      rw [Int64.lt_iff_toInt_lt, toInt64_toInt, q]
    simp only [e1, e2]
    by_cases h2 : x1.toInt < y - 110
    · rw [if_pos h2, if_pos h2]
      exact ⟨_, A, B, rfl, rfl, hR2⟩
    · rw [if_neg h2, if_neg h2, hs.1, he.cm hs]
      have e3 : (nI m < (24 : Int32)) = (m < 24) := nIlt (b := 24) (by omega) (by omega)
      have e4 : (lN m = (24 : Int64)) = (m = 24) := lNe (b := 24) (by omega) (by omega)
      simp only [e3, e4]
      by_cases h3 : m < 24
      · rw [if_pos h3, if_neg (by omega), bnd_e, lNi]
        obtain ⟨B1, q1, q2, q3, q4⟩ := mem_loop (N := N) (x := x1) h3 N 0 B (by omega) (by omega)
        rw [show (0 : Int32) = nI 0 from rfl, q1, F_X0_addMember, hs.1, gd_ib (by omega) (by omega), ixn (by omega), F_X1_begin]
        simp only [bnd_e, bn1_e, bn2_e]
        have hx2 : x1.toInt ≤ 60 := by
          have := h1
          rw [Int32.lt_iff_toInt_lt, hs.2.2.2.1, nI_toInt (by omega)] at this
          omega
        refine ⟨_, _, sL (sL (sL B1 1 (111 + 7 * m + 0) x1.toInt64) 1 (111 + 7 * m + 3) (-1)) 1 5668 (gL (sL (sL B1 1 (111 + 7 * m + 0) x1.toInt64) 1 (111 + 7 * m + 3) (-1)) 1 5668 + 1), rfl, ?_, hn, K, m + 1, r, s, y, BR.up (hB0.growM h3 (x := x1) ?_ ?_ ?_ ?_ ?_ ?_ ?_ ?_ ?_ ?_ (by omega) hx2 ?_ ?_ ?_ ?_ ?_ ?_ ?_), hK1, fun z => ⟨(hK2 z).1, (hK2 z).2.up⟩⟩
        · simp (disch := omega) only [gIn, gIsL, gIe, hs.1, nI_1, nI_pred]
        · intro c j q5 q6
          simp (disch := omega) only [gIn, gIsL]
        · intro c j q5
          simp (disch := omega) only [gLn, gLsI]
        · simp (disch := omega) only [gIn, gIsL, gIe, hs.1, nI_1]
        · simp (disch := omega) only [gIn, gIsL, gIe]
        · simp (disch := omega) only [gIn, gIsL, gIe]
        · simp (disch := omega) only [gIn, gIsL, gIe]
        · simp (disch := omega) only [gIn, gIsL, gIe]
        · simp (disch := omega) only [gIn, gIsL, gIe]
        · simp (disch := omega) only [gLn, gLsI, gLe]
        · simp (disch := omega) only [gLn, gLsI, gLe]
        · intro q q5 q6 q7
          simp (disch := omega) only [gLn]
          rw [q2 q q5, if_neg (by omega)]
        · simp (disch := omega) only [gLn, gLe]
          rw [q2 5668 (by omega), if_neg (by omega), he.cm hs, lN_1]
        · simp (disch := omega) only [gLn, gLe]
        · simp (disch := omega) only [gLn, gLe]
        · intro f q5 q6 q7
          simp (disch := omega) only [gLn]
          rw [q2 _ (by omega), if_pos (by omega)]
        · rw [gL_ne (by decide), gL_ne (by decide), gL_ne (by decide)]
          exact q3
        · show gI B1 0 = gI B 0
          rw [q4]
      · rw [if_neg h3, if_pos (by omega)]
        exact ⟨_, A, B, rfl, rfl, hR2⟩

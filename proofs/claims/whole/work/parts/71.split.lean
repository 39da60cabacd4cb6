/-! ===== split, the two programs ===== -/
theorem gIcp {M : MM} {a b k : Nat} : gI (cpL M a b k) = gI M := rfl
theorem gLcp {M : MM} {a b k c j : Nat} : gL (cpL M a b k) c j = if c = b ∧ j < k then gL M a j else gL M c j := rfl
set_option maxHeartbeats 4000000 in
theorem cpS {N c0 c1 : Nat} {A : MM} (h : c0 ≠ c1) (h2 : c0 ≠ c1 + 40) (h3 : c1 ≠ c0 + 40) : ∃ A1, F_X3_copyFrom N c0 c1 A = some A1 ∧ (∀ c j, c ≠ c0 → gI A1 c j = gI A c j) ∧ (∀ c j, c ≠ c0 → c ≠ c0 + 40 → gL A1 c j = gL A c j) ∧ (∀ j, j < 15 → j ≠ 6 → j ≠ 7 → j ≠ 11 → j ≠ 13 → gI A1 c0 j = gI A c1 j) ∧ gI A1 c0 13 = bo (gI A c1 13) ∧ (∀ j, (j = 6 ∨ j = 7 ∨ j = 11) → gL A1 c0 j = gL A c1 j) ∧ (∀ j, j < 60 → gL A1 (c0 + 40) j = gL A (c1 + 40) j) := by
  rw [F_X3_copyFrom]
  simp only [bnd_e]
  refine ⟨_, rfl, ?_, ?_, ?_, ?_, ?_, ?_⟩
  · intro c j q
    simp (disch := omega) only [gIcp, gIn, gIsL]
  · intro c j q q2
    rw [gLcp, if_neg (by omega)]
    simp (disch := omega) only [gLn, gLsI]
  · intro j j1 j2 j3 j4 j5
    rcases (show j = 0 ∨ j = 1 ∨ j = 2 ∨ j = 3 ∨ j = 4 ∨ j = 5 ∨ j = 8 ∨ j = 9 ∨ j = 10 ∨ j = 12 ∨ j = 14 by omega) with rfl | rfl | rfl | rfl | rfl | rfl | rfl | rfl | rfl | rfl | rfl
    all_goals simp (disch := omega) only [gIcp, gIn, gIsL, gIe]
  · simp (disch := omega) only [gIcp, gIn, gIsL, gIe]
  · intro j j1
    rw [gLcp, if_neg (by omega)]
    rcases j1 with rfl | rfl | rfl
    all_goals simp (disch := omega) only [gLn, gLsI, gLe]
  · intro j j1
    rw [gLcp, if_pos (by omega)]
    simp (disch := omega) only [gLn, gLsI]
theorem shr_loop {N c u v : Nat} (hv2 : v < u) (hu2 : u ≤ 1000) : ∀ (fu j : Nat) (A : MM), gI A c 3 = nI u → j ≤ 60 → 60 < j + fu → ∃ A1, F_X3_shrinkTo_56 N c (nI v) fu (nI j) A = some (sI A1 c 3 (nI v)) ∧ gI A1 = gI A ∧ (∀ c' q, gL A1 c' q = if c' = c + 40 ∧ j ≤ q ∧ q < 60 then pt u v (gL A c' q) else gL A c' q) := by
  intro fu
  induction fu with
  | zero => intro j A h0 h1 h2; omega
  | succ fu ih =>
    intro j A h0 h1 h2
    rw [F_X3_shrinkTo_56]
    have e60 : ((60 : Int32) ≤ nI j) = (60 ≤ j) := nIl (a := 60) (by omega) (by omega)
    simp only [e60]
    by_cases hj : 60 ≤ j
    · rw [if_pos hj]
      exact ⟨A, rfl, rfl, fun c' q => by rw [if_neg (by omega)]⟩
    · rw [if_neg hj, gd_ib (by omega) (by omega), bnd_e, ixn (by omega), nI_1, h0, pt_d hv2 hu2]
      obtain ⟨A1, q1, q2, q3⟩ := ih (j + 1) (sL A (c + 40) j (pt u v (gL A (c + 40) j))) h0 (by omega) (by omega)
      refine ⟨A1, q1, q2, fun c' q => ?_⟩
      rw [q3 c' q]
      by_cases e1 : c' = c + 40 ∧ q = j
      · obtain ⟨rfl, rfl⟩ := e1
        rw [if_neg (by omega), gLe, if_pos (by omega)]
      · rw [gLn e1]
        by_cases e2 : c' = c + 40 ∧ j + 1 ≤ q ∧ q < 60
        · rw [if_pos e2, if_pos (by omega)]
        · rw [if_neg e2, if_neg (by omega)]
theorem los_loop {N c c1 : Nat} (hc : c ≠ c1) : ∀ (fu j : Nat) (A : MM), j ≤ 60 → 60 < j + fu → ∃ A1, F_X3_loseTo_54 N c c1 fu (nI j) A = some A1 ∧ gI A1 = gI A ∧ (∀ c' q, gL A1 c' q = if c' = c + 40 ∧ j ≤ q ∧ q < 60 then gL A (c + 40) q - gL A (c1 + 40) q else gL A c' q) := by
  intro fu
  induction fu with
  | zero => intro j A h1 h2; omega
  | succ fu ih =>
    intro j A h1 h2
    rw [F_X3_loseTo_54]
    have e60 : ((60 : Int32) ≤ nI j) = (60 ≤ j) := nIl (a := 60) (by omega) (by omega)
    simp only [e60]
    by_cases hj : 60 ≤ j
    · rw [if_pos hj]
      exact ⟨A, rfl, rfl, fun c' q => by rw [if_neg (by omega)]⟩
    · rw [if_neg hj, gd_ib (by omega) (by omega), bnd_e, ixn (by omega), nI_1]
      obtain ⟨A1, q1, q2, q3⟩ := ih (j + 1) (sL A (c + 40) j (gL A (c + 40) j - gL A (c1 + 40) j)) (by omega) (by omega)
      refine ⟨A1, q1, q2, fun c' q => ?_⟩
      rw [q3 c' q]
      by_cases e1 : c' = c + 40 ∧ q = j
      · obtain ⟨rfl, rfl⟩ := e1
        rw [if_neg (by omega), gLe, if_pos (by omega)]
      · by_cases e2 : c' = c + 40 ∧ j + 1 ≤ q ∧ q < 60
        · rw [if_pos e2, if_pos (by omega), gLn (by omega), gLn (by omega)]
        · rw [if_neg e2, gLn e1, if_neg (by omega)]
theorem parts_e {N p q u v : Nat} {B : MM} (hp : p < 5672) (hq : q < 5672) (hpq : p ≠ q) (hu : 1 ≤ u) (hu2 : u ≤ 1000) : F_X6_parts N (nI p) (nI q) (lN v) (lN u) B = some (sL (sL B 1 q (pt u v (gL B 1 p))) 1 p (gL B 1 p - pt u v (gL B 1 p))) := by
  have hz : nz (lN u) = true := by
    have h0 : ¬ lN u = 0 := by
      rw [show (0 : Int64) = lN 0 from rfl, lNe (by omega) (by omega)]
      omega
    simp [nz, h0]
  rw [F_X6_parts, gd_ib (by omega) (by omega), gd_t hz, bnd_e, gd_ib (by omega) (by omega), bnd_e, bnd_e, ixn (by omega), ixn (by omega), gLn (by omega)]
  rfl
section SplitB
variable {N s i u v : Nat}
theorem sp_l1 (hs : s < 40) (hi : i < s) : ∀ (fu j : Nat) (B : MM), j ≤ 14 → 14 < j + fu → ∃ B1, F_X6_split_73 N (nI i) (nI v) fu (nI s) (lN u) (nI j) B = F_X6_split_73 N (nI i) (nI v) 1 (nI s) (lN u) (nI 14) B1 ∧ (∀ q, (q < 303 + 14 * s + j ∨ 303 + 14 * s + 14 ≤ q) → gL B1 1 q = gL B 1 q) ∧ (∀ f, j ≤ f → f < 14 → gL B1 1 (303 + 14 * s + f) = gL B 1 (303 + 14 * i + f)) ∧ gL B1 2 = gL B 2 ∧ gI B1 = gI B := by
  intro fu
  induction fu with
  | zero => intro j B h1 h2; omega
  | succ fu ih =>
    intro j B h1 h2
    by_cases hj : 14 ≤ j
    · have : j = 14 := by omega
      subst this
      refine ⟨B, ?_, fun q _ => rfl, fun f h3 h4 => by omega, rfl, rfl⟩
      rw [F_X6_split_73, F_X6_split_73, if_pos (by decide), if_pos (by decide)]
    · have e14 : ((14 : Int32) ≤ nI j) = (14 ≤ j) := nIl (a := 14) (by omega) (by omega)
      obtain ⟨B1, q1, q2, q3, q4, q5⟩ := ih (j + 1) (sL B 1 (303 + 14 * s + j) (gL B 1 (303 + 14 * i + j))) (by omega) (by omega)
      refine ⟨B1, ?_, fun q h3 => by rw [q2 q (by omega), gLn (by omega)], fun f h3 h4 => ?_, by rw [q4, gL_ne (by decide)], q5⟩
      · rw [F_X6_split_73, if_neg (by rw [e14]; exact hj), partx, partx, gd_ib (by omega) (by omega), gd_ib (by omega) (by omega), bnd_e, ixn (by omega), ixn (by omega), nI_1]
        exact q1
      · by_cases e1 : f = j
        · subst e1
          rw [q2 _ (by omega), gLe]
        · rw [q3 f (by omega) h4, gLn (by omega)]
set_option maxHeartbeats 4000000 in
theorem sp_l2 (hs : s < 40) (hi : i < s) (hv2 : v < u) (hu2 : u ≤ 1000) : ∀ (fu j : Nat) (B : MM), j ≤ 60 → 60 < j + fu → ∃ B1, F_X6_split_171 N (nI i) (nI v) fu (nI s) (lN u) (nI j) B = F_X6_split_171 N (nI i) (nI v) 1 (nI s) (lN u) (nI 60) B1 ∧ (∀ q, (q < 863 + 60 * s + j ∨ 863 + 60 * s + 60 ≤ q) → (q < 3263 + 60 * s + j ∨ 3263 + 60 * s + 60 ≤ q) → (q < 863 + 60 * i + j ∨ 863 + 60 * i + 60 ≤ q) → (q < 3263 + 60 * i + j ∨ 3263 + 60 * i + 60 ≤ q) → gL B1 1 q = gL B 1 q) ∧ (∀ z, j ≤ z → z < 60 → gL B1 1 (863 + 60 * s + z) = pt u v (gL B 1 (863 + 60 * i + z)) ∧ gL B1 1 (863 + 60 * i + z) = gL B 1 (863 + 60 * i + z) - pt u v (gL B 1 (863 + 60 * i + z))) ∧ (∀ z, j ≤ z → z < 60 → gL B1 1 (3263 + 60 * s + z) = pt u v (gL B 1 (3263 + 60 * i + z)) ∧ gL B1 1 (3263 + 60 * i + z) = gL B 1 (3263 + 60 * i + z) - pt u v (gL B 1 (3263 + 60 * i + z))) ∧ gL B1 2 = gL B 2 ∧ gI B1 = gI B := by
  intro fu
  induction fu with
  | zero => intro j B h1 h2; omega
  | succ fu ih =>
    intro j B h1 h2
    by_cases hj : 60 ≤ j
    · have : j = 60 := by omega
      subst this
      refine ⟨B, ?_, fun q _ _ _ _ => rfl, fun z h3 h4 => by omega, fun z h3 h4 => by omega, rfl, rfl⟩
      rw [F_X6_split_171, F_X6_split_171, if_pos (by decide), if_pos (by decide)]
    · have e60 : ((60 : Int32) ≤ nI j) = (60 ≤ j) := nIl (a := 60) (by omega) (by omega)
      obtain ⟨B2, hB2⟩ : ∃ B2, B2 = sL (sL (sL (sL B 1 (863 + 60 * s + j) (pt u v (gL B 1 (863 + 60 * i + j)))) 1 (863 + 60 * i + j) (gL B 1 (863 + 60 * i + j) - pt u v (gL B 1 (863 + 60 * i + j)))) 1 (3263 + 60 * s + j) (pt u v (gL B 1 (3263 + 60 * i + j)))) 1 (3263 + 60 * i + j) (gL B 1 (3263 + 60 * i + j) - pt u v (gL B 1 (3263 + 60 * i + j))) := ⟨_, rfl⟩
      have f1 : ∀ q, q ≠ 863 + 60 * s + j → q ≠ 863 + 60 * i + j → q ≠ 3263 + 60 * s + j → q ≠ 3263 + 60 * i + j → gL B2 1 q = gL B 1 q := fun q g1 g2 g3 g4 => by
        rw [hB2, gLn (by omega), gLn (by omega), gLn (by omega), gLn (by omega)]
      obtain ⟨B1, q1, q2, q3, q4, q5, q6⟩ := ih (j + 1) B2 (by omega) (by omega)
      refine ⟨B1, ?_, fun q h3 h4 h5 h6 => by rw [q2 q (by omega) (by omega) (by omega) (by omega), f1 q (by omega) (by omega) (by omega) (by omega)], fun z h3 h4 => ?_, fun z h3 h4 => ?_, ?_, ?_⟩
      · rw [F_X6_split_171, if_neg (by rw [e60]; exact hj), drx, drx, nIw (by omega), parts_e (by omega) (by omega) (by omega) (by omega) hu2, bn1_e, hex, hex, parts_e (by omega) (by omega) (by omega) (by omega) hu2, bn1_e, nI_1]
        simp (disch := omega) only [gLn]
        rw [← hB2]
        exact q1
      · by_cases e1 : z = j
        · subst e1
          rw [q2 _ (by omega) (by omega) (by omega) (by omega), q2 _ (by omega) (by omega) (by omega) (by omega), hB2]
          simp (disch := omega) only [gLn, gLe]
          exact ⟨trivial, trivial⟩
        · have w := q3 z (by omega) h4
          rw [f1 _ (by omega) (by omega) (by omega) (by omega)] at w
          exact w
      · by_cases e1 : z = j
        · subst e1
          rw [q2 _ (by omega) (by omega) (by omega) (by omega), q2 _ (by omega) (by omega) (by omega) (by omega), hB2]
          simp (disch := omega) only [gLn, gLe]
          exact ⟨trivial, trivial⟩
        · have w := q4 z (by omega) h4
          rw [f1 _ (by omega) (by omega) (by omega) (by omega)] at w
          exact w
      · rw [q5, hB2, gL_ne (by decide), gL_ne (by decide), gL_ne (by decide), gL_ne (by decide)]
      · rw [q6, hB2]; rfl
end SplitB
set_option maxHeartbeats 8000000 in
theorem sim_split {N : Nat} (hN : 6000 ≤ N) : Sim_split N Rel := by
  intro k n A B hk hR x1 x2
  have hR2 := hR.up
  obtain ⟨hn, K, m, r, s, y, hB, hK1, hK2⟩ := hR
  have hB0 := hB
  obtain ⟨he, hs, ht, hm, hkk, hh, hp, hf, hb⟩ := hB
  have c1 : m ≤ 24 := he.1.1
  have c3 : s ≤ 40 := he.1.2.2
  rw [F_X5_split, F_X6_split, isS_A hs.2.2.1 (by omega), isS_B (he.cs hs) (by omega)]
  cases hx : ib x1 s with
  | false => exact ⟨_, A, B, rfl, rfl, hR2⟩
  | true =>
    obtain ⟨i, hi, rfl⟩ := ib_of hx (by omega)
    obtain ⟨h0, ho, li, ra, u, kn, si, su, un, hfr, h1, h2, h3, h4⟩ := hh i hi
    obtain ⟨v0, v1, v4, v3, v5, v8, v9, v10, v14, r0, r1, r4, r3, r3', r5, r8, r9, r9', r95, r10, r14⟩ := h1
    rw [bIt, bIt, part_3, gd_ib (by omega) (by omega), gd_ib (by omega) (by omega), ixn (by omega), ixn (by omega), he.s3 hi, v3, he.cs hs, hs.2.2.1, nIw (by omega)]
    have e2 : F_X6_in x2.toInt64 1 (lN u - 1) = F_X5_isWithin x2 1 (nI u - 1) := by
      refine in_w rfl ?_
      rw [nI_s1 r3, nIw (by omega)]
      exact lN_sub (a := u) (b := 1) r3
    have e40 : (nI s < (40 : Int32)) = (s < 40) := nIlt (b := 40) (by omega) (by omega)
    have e40' : (lN s = (40 : Int64)) = (s = 40) := lNe (b := 40) (by omega) (by omega)
    rw [e2]
    simp only [e40, e40']
    by_cases hs40 : s < 40
    · rw [if_pos hs40, if_neg (show ¬ s = 40 by omega)]
      cases hx2 : F_X5_isWithin x2 1 (nI u - 1) with
      | false => exact ⟨_, A, B, rfl, rfl, hR2⟩
      | true =>
        rw [bIt, bIt]
        have g2 := wi_toInt.mp hx2
        rw [nI_s1 r3, nI_toInt (by omega), show (1 : Int32).toInt = 1 from rfl] at g2
        obtain ⟨v, hv, rfl⟩ := ib_of (x := x2) (n := 1001) (ibm.mpr (by omega)) (by omega)
        rw [nI_toInt (by omega)] at g2
        have hv2 : v < u := by omega
        have hv1 : 1 ≤ v := by omega
        -- the class
        obtain ⟨A1, t1, t2, t3, t4, t5, t6, t7⟩ := cpS (N := N) (c0 := 37 + s) (c1 := 37 + i) (A := A) (by omega) (by omega) (by omega)
        have a13 : gI A1 (37 + s) 3 = nI u := by rw [t4 3 (by omega) (by omega) (by omega) (by omega) (by omega)]; exact v3
        obtain ⟨A2, hA2⟩ : ∃ A2, A2 = sL (sL (sL A1 (37 + s) 6 (pt u v (gL A (37 + i) 6))) (37 + s) 7 (pt u v (gL A (37 + i) 7))) (37 + s) 11 (pt u v (gL A (37 + i) 11)) := ⟨_, rfl⟩
        have a23 : gI A2 (37 + s) 3 = nI u := by rw [hA2]; exact a13
        obtain ⟨A3, w1, w2, w3⟩ := shr_loop (N := N) (c := 37 + s) hv2 r3' N 0 A2 a23 (by omega) (by omega)
        have w1' : F_X3_shrinkTo_56 N (37 + s) (nI v) N (0 : Int32) A2 = some (sI A3 (37 + s) 3 (nI v)) := w1
        have hshr : F_X3_shrinkTo N (37 + s) (nI v) A1 = some (sI A3 (37 + s) 3 (nI v)) := by
          rw [F_X3_shrinkTo]
          simp (disch := omega) only [bnd_e, gIsL, gLn, a13, pt_d hv2 r3', t6]
          rw [← hA2]
          exact w1'
        have e77 : 37 + s + 40 = 77 + s := by omega
        have e77i : 37 + i + 40 = 77 + i := by omega
        rw [e77] at t3 t7 w3
        rw [e77i] at t7
        -- the cells behind the shrinking
        have y1 : ∀ c j, c ≠ 37 + s → gI A3 c j = gI A c j := fun c j q => by rw [w2, hA2]; exact t2 c j q
        have y2 : ∀ j, gI A3 (37 + s) j = gI A1 (37 + s) j := fun j => by rw [w2, hA2]; rfl
        have y3 : ∀ c j, c ≠ 37 + s → c ≠ 77 + s → gL A3 c j = gL A c j := fun c j q q' => by
          rw [w3, if_neg (by omega), hA2, gLn (by omega), gLn (by omega), gLn (by omega)]
          exact t3 c j q q'
        have y4 : ∀ j, (j = 6 ∨ j = 7 ∨ j = 11) → gL A3 (37 + s) j = pt u v (gL A (37 + i) j) := fun j q => by
          rw [w3, if_neg (by omega), hA2]
          rcases q with rfl | rfl | rfl
          all_goals simp (disch := omega) only [gLn, gLe]
        have y5 : ∀ j, j < 60 → gL A3 (77 + s) j = pt u v (gL A (77 + i) j) := fun j hj => by
          rw [w3, if_pos (by omega), hA2, gLn (by omega), gLn (by omega), gLn (by omega), t7 j hj]
        obtain ⟨A4, hA4⟩ : ∃ A4, A4 = sL (sL (sL (sI (sI A3 (37 + s) 3 (nI v)) (37 + i) 3 (nI (u - v))) (37 + i) 6 (gL A (37 + i) 6 - pt u v (gL A (37 + i) 6))) (37 + i) 7 (gL A (37 + i) 7 - pt u v (gL A (37 + i) 7))) (37 + i) 11 (gL A (37 + i) 11 - pt u v (gL A (37 + i) 11)) := ⟨_, rfl⟩
        obtain ⟨A5, x1, x2, x3⟩ := los_loop (N := N) (c := 37 + i) (c1 := 37 + s) (by omega) N 0 A4 (by omega) (by omega)
        have x1' : F_X3_loseTo_54 N (37 + i) (37 + s) N (0 : Int32) A4 = some A5 := x1
        have hlos : F_X3_loseTo N (37 + i) (37 + s) (sI A3 (37 + s) 3 (nI v)) = some A5 := by
          rw [F_X3_loseTo]
          simp (disch := omega) only [bnd_e, gIsL, gLsI, gIn, gIe, gLn, y1, v3, y3, y4, nI_sub']
          rw [← hA4]
          exact x1'
        rw [e77, e77i] at x3
        have hadd : F_X0_addPart N (37 + i) (nI v) A = some (nI s, sI A5 1 6 (nI (s + 1))) := by
          have q16 : gI A5 1 6 = nI s := by
            rw [x2, hA4]
            simp (disch := omega) only [gIsL, gIn]
            rw [y1 _ _ (by omega)]
            exact hs.2.2.1
          rw [F_X0_addPart, hs.2.2.1, gd_ib hs40 (by omega), ixn (by omega), t1, bn1_e, hshr, bn1_e, hlos, bn1_e, bnd_e, q16, nI_1, gIe, nI_pred]
        -- the reference
        obtain ⟨B1, l1, l2, l3, l4, l5⟩ := sp_l1 (N := N) (u := u) (v := v) hs40 hi N 0 B (by omega) (by omega)
        obtain ⟨B3, hB3⟩ : ∃ B3, B3 = sL (sL (sL (sL (sL (sL B1 1 (303 + 14 * s + 6) (pt u v (gL B 1 (303 + 14 * i + 6)))) 1 (303 + 14 * i + 6) (gL B 1 (303 + 14 * i + 6) - pt u v (gL B 1 (303 + 14 * i + 6)))) 1 (303 + 14 * s + 7) (pt u v (gL B 1 (303 + 14 * i + 7)))) 1 (303 + 14 * i + 7) (gL B 1 (303 + 14 * i + 7) - pt u v (gL B 1 (303 + 14 * i + 7)))) 1 (303 + 14 * s + 12) (pt u v (gL B 1 (303 + 14 * i + 12)))) 1 (303 + 14 * i + 12) (gL B 1 (303 + 14 * i + 12) - pt u v (gL B 1 (303 + 14 * i + 12))) := ⟨_, rfl⟩
        have hB3f : ∀ q, ¬ (q = 303 + 14 * s + 6 ∨ q = 303 + 14 * s + 7 ∨ q = 303 + 14 * s + 12 ∨ q = 303 + 14 * i + 6 ∨ q = 303 + 14 * i + 7 ∨ q = 303 + 14 * i + 12) → gL B3 1 q = gL B1 1 q := fun q g => by
          rw [hB3, gLn (by omega), gLn (by omega), gLn (by omega), gLn (by omega), gLn (by omega), gLn (by omega)]
        obtain ⟨B4, o1, o2, o3, o4, o5, o6⟩ := sp_l2 (N := N) hs40 hi hv2 r3' N 0 B3 (by omega) (by omega)
        have hBfr : ∀ q, (q < 303 + 14 * s ∨ 303 + 14 * s + 14 ≤ q) → (q < 863 + 60 * s ∨ 863 + 60 * s + 60 ≤ q) → (q < 3263 + 60 * s ∨ 3263 + 60 * s + 60 ≤ q) → (q < 863 + 60 * i ∨ 863 + 60 * i + 60 ≤ q) → (q < 3263 + 60 * i ∨ 3263 + 60 * i + 60 ≤ q) → ¬ (q = 303 + 14 * i + 6 ∨ q = 303 + 14 * i + 7 ∨ q = 303 + 14 * i + 12) → gL B4 1 q = gL B 1 q := fun q g1 g2 g3 g4 g5 g6 => by
          rw [o2 q (by omega) (by omega) (by omega) (by omega), hB3f q (by omega), l2 q (by omega)]
        have hsp : F_X6_split_73 N (nI i) (nI v) N (nI s) (lN u) (0 : Int32) B = some ((nI s).toInt64, sL (sL (sL B4 1 (303 + 14 * s + 3) (lN v)) 1 (303 + 14 * i + 3) (lN (u - v))) 1 5670 (lN (s + 1))) := by
          have l1' : F_X6_split_73 N (nI i) (nI v) N (nI s) (lN u) (0 : Int32) B = F_X6_split_73 N (nI i) (nI v) 1 (nI s) (lN u) (nI 14) B1 := l1
          rw [l1', F_X6_split_73, if_pos (by decide)]
          simp (disch := omega) only [part_6, part_7, part_12, nIw, parts_e, bn1_e, gLn, l2]
          rw [← hB3]
          have o1' : F_X6_split_171 N (nI i) (nI v) N (nI s) (lN u) (0 : Int32) B3 = F_X6_split_171 N (nI i) (nI v) 1 (nI s) (lN u) (nI 60) B4 := o1
          rw [o1', F_X6_split_171, if_pos (by decide)]
          simp (disch := omega) only [part_3, gd_ib, bnd_e, ixn, gLn, nIw, lN_sub, hBfr, he.cs hs, lN_1]
        rw [hadd, bn2_e, bnd_e, bnd_e, lNi, hsp]
        refine ⟨_, _, _, rfl, rfl, hn, K, m, r, s + 1, y, BR.up (hB0.splitS hs40 (i := i) (u := u) (v := v) hi r3' hv1 hv2 ?_ ?_ ?_ ?_ ?_ ?_ ?_ ?_ ?_ ?_ ?_ ?_ ?_ ?_ ?_ ?_ ?_ ?_ ?_), hK1, fun z => ⟨(hK2 z).1, (hK2 z).2.up⟩⟩
        · intro c j q1 q2 q3
          rw [gIn (by omega), x2, hA4]
          simp (disch := omega) only [gIsL, gIn]
          exact y1 c j q1
        · intro c j q1 q2 q3 q4
          rw [gLsI, x3, if_neg (by omega), hA4]
          simp (disch := omega) only [gLsI, gLn]
          exact y3 c j q1 q2
        · exact gIe
        · intro j q1 q2 q3 q4 q5 q6
          rw [gIn (by omega), x2, hA4]
          simp (disch := omega) only [gIsL, gIn]
          rw [y2, t4 j q1 q3 q4 q5 q6]
        · rw [gIn (by omega), x2, hA4]
          simp (disch := omega) only [gIsL, gIn]
          rw [y2, t5]
        · rw [gIn (by omega), x2, hA4]
          simp (disch := omega) only [gIsL, gIn, gIe]
        · rw [gIn (by omega), x2, hA4]
          simp (disch := omega) only [gIsL, gIn, gIe]
        · intro j q
          rw [gLsI, gLsI, x3, if_neg (by omega), x3, if_neg (by omega), hA4]
          have q' := y4 j q
          rcases q with rfl | rfl | rfl
          all_goals simp (disch := omega) only [gLsI, gLn, gLe]
          all_goals exact ⟨q', trivial⟩
        · intro j hj
          rw [gLsI, gLsI, x3, if_neg (by omega), x3, if_pos (by omega), hA4]
          simp (disch := omega) only [gLsI, gLn]
          rw [y5 j hj, y3 _ _ (by omega) (by omega)]
          exact ⟨rfl, rfl⟩
        · intro q q1 q2 q3 q4 q5 q6
          rw [gLn (by omega), gLn (by omega), gLn (by omega), hBfr q q1 q2 q3 q4 q5 (by omega)]
        · rw [gL_ne (by decide), gL_ne (by decide), gL_ne (by decide), o5, hB3, gL_ne (by decide), gL_ne (by decide), gL_ne (by decide), gL_ne (by decide), gL_ne (by decide), gL_ne (by decide), l4]
        · show gI B4 0 = gI B 0
          rw [o6, hB3]
          show gI B1 0 = gI B 0
          rw [l5]
        · exact gLe
        · intro f q1 q2 q3 q4 q5
          rw [gLn (by omega), gLn (by omega), gLn (by omega), o2 _ (by omega) (by omega) (by omega) (by omega), hB3f _ (by omega), l3 f (by omega) q1]
        · rw [gLn (by omega), gLn (by omega), gLe]
        · rw [gLn (by omega), gLe]
        · intro f q
          rw [gLn (by omega), gLn (by omega), gLn (by omega), gLn (by omega), gLn (by omega), gLn (by omega), o2 _ (by omega) (by omega) (by omega) (by omega), o2 _ (by omega) (by omega) (by omega) (by omega), hB3]
          rcases q with rfl | rfl | rfl
          all_goals simp (disch := omega) only [gLn, gLe]
          all_goals exact ⟨trivial, trivial⟩
        · intro j hj
          have w := o3 j (by omega) hj
          rw [hB3f _ (by omega), l2 _ (by omega)] at w
          rw [gLn (by omega), gLn (by omega), gLn (by omega), gLn (by omega), gLn (by omega), gLn (by omega)]
          exact w
        · intro j hj
          have w := o4 j (by omega) hj
          rw [hB3f _ (by omega), l2 _ (by omega)] at w
          rw [gLn (by omega), gLn (by omega), gLn (by omega), gLn (by omega), gLn (by omega), gLn (by omega)]
          exact w
    · rw [if_neg hs40, if_pos (show s = 40 by omega)]
      refine ⟨_, A, B, rfl, ?_, hR2⟩
      split <;> rfl

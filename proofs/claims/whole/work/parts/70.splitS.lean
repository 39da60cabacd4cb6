/-! ===== split ===== -/
def pt (u v : Nat) (x : Int64) : Int64 := (x * lN v) / lN u
theorem pt_bd {u v : Nat} {x : Int64} (h1 : 0 ≤ x.toInt) (h2 : x.toInt ≤ 10000000000) (hv : v < u) (hu : u ≤ 1000) : 0 ≤ (pt u v x).toInt ∧ (pt u v x).toInt ≤ x.toInt ∧ (x - pt u v x).toInt = x.toInt - (pt u v x).toInt := by
  have z0 : (0 : Int64).toInt = 0 := rfl
  obtain ⟨n, hn, rfl⟩ := pk_lOf (x := x) (by rw [Int64.lt_iff_toInt_lt, z0]; omega)
  rw [pk_lT hn] at h1 h2 ⊢
  have hm : n * v ≤ 10000000000 * 1000 := Nat.mul_le_mul (by omega) (by omega)
  have e : pt u v (lN n) = lN (n * v / u) := by
    unfold pt
    rw [lN_mul]
    exact pk_lDiv (by omega) (by omega) (by omega)
  have hle : n * v / u ≤ n := by
    apply Nat.div_le_of_le_mul
    rw [Nat.mul_comm]
    exact Nat.mul_le_mul (by omega) (Nat.le_refl _)
  obtain ⟨w, hw⟩ : ∃ w, w = n * v / u := ⟨_, rfl⟩
  rw [← hw] at e hle
  rw [e, lN_sub hle, pk_lT (by omega), pk_lT (by omega)]
  omega
theorem pt_0 {u v : Nat} (hv : v < u) (hu : u ≤ 1000) : pt u v 0 = 0 := by
  have z0 : (0 : Int64).toInt = 0 := rfl
  have q := pt_bd (x := 0) (by decide) (by decide) hv hu
  exact i64 (by rw [z0] at q ⊢; omega)
theorem pt_d {u v : Nat} (hv : v < u) (hu : u ≤ 1000) (x : Int64) : F_X5_parted x (nI v).toInt64 (nI u).toInt64 = pt u v x := by
  rw [F_X5_parted, nIw (by omega), nIw (by omega), if_neg]
  · rfl
  · rw [Int64.le_iff_toInt_le, lN_toInt' (by omega), show (0 : Int64).toInt = 0 from rfl]
    omega
theorem nI_sub' {a b : Nat} (h : b ≤ a) (ha : a < 6000) : nI a - nI b = nI (a - b) := by
  rw [← Int32.toInt_inj, pk_sub_toInt (by omega) (by omega), nI_toInt (by omega)]
  omega
set_option maxHeartbeats 8000000 in
theorem BR.splitS {k : Nat} {K : KT} {m r s y : Nat} {A B A2 B2 : MM} (h : BR k K m r s y A B) (hs40 : s < 40) {i u v : Nat} (hi : i < s) (hu2 : u ≤ 1000) (hv1 : 1 ≤ v) (hv2 : v < u)
    (a1 : ∀ c j, c ≠ 37 + s → ¬ (c = 37 + i ∧ j = 3) → ¬ (c = 1 ∧ j = 6) → gI A2 c j = gI A c j)
    (a2 : ∀ c j, c ≠ 37 + s → c ≠ 77 + s → c ≠ 77 + i → ¬ (c = 37 + i ∧ (j = 6 ∨ j = 7 ∨ j = 11)) → gL A2 c j = gL A c j)
    (a3 : gI A2 1 6 = nI (s + 1))
    (d : ∀ j, j < 15 → j ≠ 3 → j ≠ 6 → j ≠ 7 → j ≠ 11 → j ≠ 13 → gI A2 (37 + s) j = gI A (37 + i) j) (d13 : gI A2 (37 + s) 13 = bo (gI A (37 + i) 13)) (d3 : gI A2 (37 + s) 3 = nI v) (d3' : gI A2 (37 + i) 3 = nI (u - v))
    (g : ∀ j, (j = 6 ∨ j = 7 ∨ j = 11) → gL A2 (37 + s) j = pt u v (gL A (37 + i) j) ∧ gL A2 (37 + i) j = gL A (37 + i) j - pt u v (gL A (37 + i) j))
    (gr : ∀ j, j < 60 → gL A2 (77 + s) j = pt u v (gL A (77 + i) j) ∧ gL A2 (77 + i) j = gL A (77 + i) j - pt u v (gL A (77 + i) j))
    (b1 : ∀ q, (q < 303 + 14 * s ∨ 303 + 14 * s + 14 ≤ q) → (q < 863 + 60 * s ∨ 863 + 60 * s + 60 ≤ q) → (q < 3263 + 60 * s ∨ 3263 + 60 * s + 60 ≤ q) → (q < 863 + 60 * i ∨ 863 + 60 * i + 60 ≤ q) → (q < 3263 + 60 * i ∨ 3263 + 60 * i + 60 ≤ q) → ¬ (q = 303 + 14 * i + 3 ∨ q = 303 + 14 * i + 6 ∨ q = 303 + 14 * i + 7 ∨ q = 303 + 14 * i + 12 ∨ q = 5670) → gL B2 1 q = gL B 1 q)
    (b2 : gL B2 2 = gL B 2) (b3 : gI B2 0 = gI B 0) (b4 : gL B2 1 5670 = lN (s + 1))
    (e : ∀ f, f < 14 → f ≠ 3 → f ≠ 6 → f ≠ 7 → f ≠ 12 → gL B2 1 (303 + 14 * s + f) = gL B 1 (303 + 14 * i + f))
    (e3 : gL B2 1 (303 + 14 * s + 3) = lN v) (e3' : gL B2 1 (303 + 14 * i + 3) = lN (u - v))
    (eg : ∀ f, (f = 6 ∨ f = 7 ∨ f = 12) → gL B2 1 (303 + 14 * s + f) = pt u v (gL B 1 (303 + 14 * i + f)) ∧ gL B2 1 (303 + 14 * i + f) = gL B 1 (303 + 14 * i + f) - pt u v (gL B 1 (303 + 14 * i + f)))
    (er : ∀ j, j < 60 → gL B2 1 (863 + 60 * s + j) = pt u v (gL B 1 (863 + 60 * i + j)) ∧ gL B2 1 (863 + 60 * i + j) = gL B 1 (863 + 60 * i + j) - pt u v (gL B 1 (863 + 60 * i + j)))
    (eh : ∀ j, j < 60 → gL B2 1 (3263 + 60 * s + j) = pt u v (gL B 1 (3263 + 60 * i + j)) ∧ gL B2 1 (3263 + 60 * i + j) = gL B 1 (3263 + 60 * i + j) - pt u v (gL B 1 (3263 + 60 * i + j))) : BR k K m r (s + 1) y A2 B2 := by
  obtain ⟨he, hs, ht, hmm, hkk, hh, hp, hf, hb⟩ := h
  have hc := he.1
  have c1 : m ≤ 24 := hc.1
  have c2 : r ≤ 6 := hc.2.1
  have hy : y ≤ 60 := hs.2.2.2.2.1
  have hi40 : i < 40 := by omega
  have p0 : pt u v 0 = 0 := pt_0 hv2 hu2
  have hc2 : cap m r (s + 1) := ⟨c1, c2, by omega⟩
  refine ⟨⟨hc2, fun c j hv => ?_, fun c j hcj => ?_, by rw [b2]; exact he.2.2.2.1, by rw [b3]; exact he.2.2.2.2⟩, ?_, fun z hz => ?_, fun z hz => ?_, fun z hz => ?_, fun z hz => ?_, fun z hz => ?_, ?_, fun z hz => ?_⟩
  · by_cases x1 : c = 37 + s
    · subst x1
      have hv2 : j < 14 ∧ j ≠ 9 ∧ j ≠ 12 := by unfold val at hv; omega
      unfold rd
      rcases (show j = 0 ∨ j = 1 ∨ j = 2 ∨ j = 3 ∨ j = 4 ∨ j = 5 ∨ j = 6 ∨ j = 7 ∨ j = 8 ∨ j = 10 ∨ j = 11 ∨ j = 13 by omega) with rfl | rfl | rfl | rfl | rfl | rfl | rfl | rfl | rfl | rfl | rfl | rfl
      · rw [n_s0 hs40, e 0 (by omega) (by omega) (by omega) (by omega) (by omega), if_neg (by rw [t_s0 hs40]; decide), if_neg (by rw [z_s0 hs40]; decide), d 0 (by omega) (by omega) (by omega) (by omega) (by omega) (by omega), he.s0 hi]
      · rw [n_s1 hs40, e 1 (by omega) (by omega) (by omega) (by omega) (by omega), if_neg (by rw [t_s1 hs40]; decide), if_neg (by rw [z_s1 hs40]; decide), d 1 (by omega) (by omega) (by omega) (by omega) (by omega) (by omega), he.s1 hi]
      · rw [n_s2 hs40, e 2 (by omega) (by omega) (by omega) (by omega) (by omega), if_neg (by rw [t_s2 hs40]; decide), if_neg (by rw [z_s2 hs40]; decide), d 2 (by omega) (by omega) (by omega) (by omega) (by omega) (by omega), he.s2 hi]
      · rw [n_s3 hs40, e3, if_neg (by rw [t_s3 hs40]; decide), if_neg (by rw [z_s3 hs40]; decide), d3, nIw (by omega)]
      · rw [n_s4 hs40, e 4 (by omega) (by omega) (by omega) (by omega) (by omega), if_neg (by rw [t_s4 hs40]; decide), if_neg (by rw [z_s4 hs40]; decide), d 4 (by omega) (by omega) (by omega) (by omega) (by omega) (by omega), he.s4 hi]
      · rw [n_s5 hs40, e 5 (by omega) (by omega) (by omega) (by omega) (by omega), if_neg (by rw [t_s5 hs40]; decide), if_neg (by rw [z_s5 hs40]; decide), d 5 (by omega) (by omega) (by omega) (by omega) (by omega) (by omega), he.s5 hi]
      · rw [n_s6 hs40, (eg 6 (by omega)).1, if_pos (t_s6 hs40), (g 6 (by omega)).1, he.s6 hi]
      · rw [n_s7 hs40, (eg 7 (by omega)).1, if_pos (t_s7 hs40), (g 7 (by omega)).1, he.s7 hi]
      · rw [n_s8 hs40, e 8 (by omega) (by omega) (by omega) (by omega) (by omega), if_neg (by rw [t_s8 hs40]; decide), if_neg (by rw [z_s8 hs40]; decide), d 8 (by omega) (by omega) (by omega) (by omega) (by omega) (by omega), he.s8 hi]
      · rw [n_s10 hs40, e 10 (by omega) (by omega) (by omega) (by omega) (by omega), if_neg (by rw [t_s10 hs40]; decide), if_neg (by rw [z_s10 hs40]; decide), d 10 (by omega) (by omega) (by omega) (by omega) (by omega) (by omega), he.s10 hi]
      · rw [n_s11 hs40, (eg 12 (by omega)).1, if_pos (t_s11 hs40), (g 11 (by omega)).1, he.s11 hi]
      · rw [n_s13 hs40, e 13 (by omega) (by omega) (by omega) (by omega) (by omega), if_neg (by rw [t_s13 hs40]; decide), if_pos (z_s13 hs40), d13, bo_bo, he.s13 hi]
    · by_cases x2 : c = 77 + s
      · subst x2
        have hj : j < 60 := by unfold val at hv; omega
        rw [n_d, (er j hj).1]
        unfold rd
        rw [if_pos t_d, (gr j hj).1, he.d hi hj]
      · by_cases x4 : c = 77 + i
        · subst x4
          have hj : j < 60 := by unfold val at hv; omega
          rw [n_d, (er j hj).2]
          unfold rd
          rw [if_pos t_d, (gr j hj).2, he.d hi hj]
        · by_cases x3 : c = 1 ∧ j = 6
          · obtain ⟨rfl, rfl⟩ := x3
            show gL B2 1 5670 = (gI A2 1 6).toInt64
            rw [b4, a3, nIw (by omega)]
          · by_cases x5 : c = 37 + i ∧ (j = 3 ∨ j = 6 ∨ j = 7 ∨ j = 11)
            · obtain ⟨rfl, x6⟩ := x5
              unfold rd
              rcases x6 with rfl | rfl | rfl | rfl
              · rw [n_s3 hi40, e3', if_neg (by rw [t_s3 hi40]; decide), if_neg (by rw [z_s3 hi40]; decide), d3', nIw (by omega)]
              · rw [n_s6 hi40, (eg 6 (by omega)).2, if_pos (t_s6 hi40), (g 6 (by omega)).2, he.s6 hi]
              · rw [n_s7 hi40, (eg 7 (by omega)).2, if_pos (t_s7 hi40), (g 7 (by omega)).2, he.s7 hi]
              · rw [n_s11 hi40, (eg 12 (by omega)).2, if_pos (t_s11 hi40), (g 11 (by omega)).2, he.s11 hi]
            · have hv0 : val m r s c j := by unfold val at *; omega
              have q := he.2.1 c j hv0
              have w := enc_for hc hv0
              have g1 : enc c j ≠ 5670 := fun q9 => x3 (enc_inj hc hv0 v_sc6 q9)
              have g3 : enc c j ≠ 303 + 14 * i + 3 := fun q9 => x5 (by
                have := enc_inj hc hv0 (v_s3 hi) (by rw [n_s3 hi40]; exact q9)
                omega)
              have g6 : enc c j ≠ 303 + 14 * i + 6 := fun q9 => x5 (by
                have := enc_inj hc hv0 (v_s6 hi) (by rw [n_s6 hi40]; exact q9)
                omega)
              have g7 : enc c j ≠ 303 + 14 * i + 7 := fun q9 => x5 (by
                have := enc_inj hc hv0 (v_s7 hi) (by rw [n_s7 hi40]; exact q9)
                omega)
              have g12 : enc c j ≠ 303 + 14 * i + 12 := fun q9 => x5 (by
                have := enc_inj hc hv0 (v_s11 hi) (by rw [n_s11 hi40]; exact q9)
                omega)
              have g4 : (enc c j < 303 + 14 * s ∨ 303 + 14 * s + 14 ≤ enc c j) ∧ (enc c j < 863 + 60 * s ∨ 863 + 60 * s + 60 ≤ enc c j) ∧ (enc c j < 3263 + 60 * s ∨ 3263 + 60 * s + 60 ≤ enc c j) ∧ (enc c j < 863 + 60 * i ∨ 863 + 60 * i + 60 ≤ enc c j) ∧ (enc c j < 3263 + 60 * i ∨ 3263 + 60 * i + 60 ≤ enc c j) := by
                unfold val at hv0
                omega
              rw [b1 _ g4.1 g4.2.1 g4.2.2.1 g4.2.2.2.1 g4.2.2.2.2 (by omega), q, rd_of (a1 c j x1 (by omega) x3) (a2 c j x1 x2 x4 (by omega))]
  · have q := he.2.2.1 c j hcj
    rw [a1 c j (by omega) (by omega) (by omega), a2 c j (by omega) (by omega) (by omega) (by omega)]
    exact q
  · unfold R_s at *
    rw [a1 1 4 (by omega) (by omega) (by omega), a1 1 5 (by omega) (by omega) (by omega), a1 1 7 (by omega) (by omega) (by omega), a1 1 9 (by omega) (by omega) (by omega)]
    exact ⟨hs.1, hs.2.1, a3, hs.2.2.2⟩
  · rw [a1 3 z (by omega) (by omega) (by omega)]
    exact ht z hz
  · rw [a1 _ 0 (by omega) (by omega) (by omega), a1 _ 3 (by omega) (by omega) (by omega), a1 _ 6 (by omega) (by omega) (by omega)]
    exact hmm z hz
  · have q := hkk z hz
    rw [a1 _ 0 (by omega) (by omega) (by omega), a1 _ 1 (by omega) (by omega) (by omega), a1 _ 2 (by omega) (by omega) (by omega), a2 _ _ (by omega) (by omega) (by omega) (by omega)]
    refine ⟨q.1, q.2.1, q.2.2.1, ?_⟩
    omega
  · have hpv : ∀ w, prv m A2 w → (∀ j, (j = 1 ∨ j = 2) → gI A2 (37 + w) j = gI A (37 + z) j) → prv m A z := by
      rintro w ⟨j, j1, j2, j3⟩ hw
      rw [hw 1 (by omega), hw 2 (by omega)] at j2
      rw [a1 _ _ (by omega) (by omega) (by omega)] at j3
      exact ⟨j, j1, j2, j3⟩
    by_cases x : z = s ∨ z = i
    · obtain ⟨h0, ho, li, ra, u9, kn, si, su, un, hf2, h1, h2, h3, h4⟩ := hh i hi
      obtain ⟨v0, v1, v4, v3, v5, v8, v9, v10, v14, r0, r1, r4, r3, r3', r5, r8, r9, r9', r95, r10, r14⟩ := h1
      rcases x with rfl | rfl
      · refine ⟨?_, ho, li, ra, v, kn, si, su, un, hf2, ?_, ?_, ?_, fun j hj => ?_⟩
        · unfold R_o at *
          rw [d 2 (by omega) (by omega) (by omega) (by omega) (by omega) (by omega)]
          exact h0
        · unfold R_v
          rw [d 0 (by omega) (by omega) (by omega) (by omega) (by omega) (by omega), d 1 (by omega) (by omega) (by omega) (by omega) (by omega) (by omega), d 4 (by omega) (by omega) (by omega) (by omega) (by omega) (by omega), d 5 (by omega) (by omega) (by omega) (by omega) (by omega) (by omega), d 8 (by omega) (by omega) (by omega) (by omega) (by omega) (by omega), d 9 (by omega) (by omega) (by omega) (by omega) (by omega) (by omega), d 10 (by omega) (by omega) (by omega) (by omega) (by omega) (by omega), d 14 (by omega) (by omega) (by omega) (by omega) (by omega) (by omega)]
          exact ⟨v0, v1, v4, d3, v5, v8, v9, v10, v14, r0, r1, r4, hv1, by omega, r5, r8, r9, r9', r95, r10, r14⟩
        · rw [e 9 (by omega) (by omega) (by omega) (by omega) (by omega)]
          exact h2
        · rintro (q | q)
          · refine h3 (Or.inl ?_)
            obtain ⟨j, j1, j2, j3⟩ := q
            rw [d 1 (by omega) (by omega) (by omega) (by omega) (by omega) (by omega), d 2 (by omega) (by omega) (by omega) (by omega) (by omega) (by omega)] at j2
            rw [a1 _ _ (by omega) (by omega) (by omega)] at j3
            exact ⟨j, j1, j2, j3⟩
          · exact h3 (Or.inr q)
        · obtain ⟨q1, q2, q3, q4, q5⟩ := h4 j hj
          have qb := pt_bd (u := u) (v := v) q2 (by omega) hv2 hu2
          rw [(eh j hj).1, (gr j hj).1, q1]
          refine ⟨?_, qb.1, by omega, fun q => by rw [q4 q, p0], fun q => by rw [q5 q, p0]⟩
          split
          · rfl
          · exact p0
      · refine ⟨?_, ho, li, ra, u - v, kn, si, su, un, hf2, ?_, ?_, ?_, fun j hj => ?_⟩
        · unfold R_o at *
          rw [a1 _ _ (by omega) (by omega) (by omega)]
          exact h0
        · unfold R_v
          rw [a1 _ 0 (by omega) (by omega) (by omega), a1 _ 1 (by omega) (by omega) (by omega), a1 _ 4 (by omega) (by omega) (by omega), a1 _ 5 (by omega) (by omega) (by omega), a1 _ 8 (by omega) (by omega) (by omega), a1 _ 9 (by omega) (by omega) (by omega), a1 _ 10 (by omega) (by omega) (by omega), a1 _ 14 (by omega) (by omega) (by omega)]
          exact ⟨v0, v1, v4, d3', v5, v8, v9, v10, v14, r0, r1, r4, by omega, by omega, r5, r8, r9, r9', r95, r10, r14⟩
        · rw [b1 _ (by omega) (by omega) (by omega) (by omega) (by omega) (by omega)]
          exact h2
        · rintro (q | q)
          · refine h3 (Or.inl ?_)
            obtain ⟨j, j1, j2, j3⟩ := q
            rw [a1 _ _ (by omega) (by omega) (by omega), a1 _ _ (by omega) (by omega) (by omega)] at j2
            rw [a1 _ _ (by omega) (by omega) (by omega)] at j3
            exact ⟨j, j1, j2, j3⟩
          · exact h3 (Or.inr q)
        · obtain ⟨q1, q2, q3, q4, q5⟩ := h4 j hj
          have qb := pt_bd (u := u) (v := v) q2 (by omega) hv2 hu2
          rw [(eh j hj).2, (gr j hj).2, q1]
          refine ⟨?_, by omega, by omega, fun q => by rw [q4 q, p0]; rfl, fun q => by rw [q5 q, p0]; rfl⟩
          split
          · rfl
          · rw [p0]; rfl
    · obtain ⟨h0, ho, li, ra2, u9, kn, si, su, un, hf2, h1, h2, h3, h4⟩ := hh z (by omega)
      refine ⟨?_, ho, li, ra2, u9, kn, si, su, un, hf2, ?_, ?_, ?_, fun j hj => ?_⟩
      · unfold R_o at *
        rw [a1 _ _ (by omega) (by omega) (by omega)]
        exact h0
      · unfold R_v at *
        rw [a1 _ 0 (by omega) (by omega) (by omega), a1 _ 1 (by omega) (by omega) (by omega), a1 _ 4 (by omega) (by omega) (by omega), a1 _ 3 (by omega) (by omega) (by omega), a1 _ 5 (by omega) (by omega) (by omega), a1 _ 8 (by omega) (by omega) (by omega), a1 _ 9 (by omega) (by omega) (by omega), a1 _ 10 (by omega) (by omega) (by omega), a1 _ 14 (by omega) (by omega) (by omega)]
        exact h1
      · rw [b1 _ (by omega) (by omega) (by omega) (by omega) (by omega) (by omega)]
        exact h2
      · rintro (q | q)
        · refine h3 (Or.inl ?_)
          obtain ⟨j, j1, j2, j3⟩ := q
          rw [a1 _ _ (by omega) (by omega) (by omega), a1 _ _ (by omega) (by omega) (by omega)] at j2
          rw [a1 _ _ (by omega) (by omega) (by omega)] at j3
          exact ⟨j, j1, j2, j3⟩
        · exact h3 (Or.inr q)
      · rw [b1 _ (by omega) (by omega) (by omega) (by omega) (by omega) (by omega), a2 _ _ (by omega) (by omega) (by omega) (by omega)]
        exact h4 j hj
  · by_cases x : z = s ∨ z = i
    · obtain ⟨q, q1, q2, q3⟩ := hp i hi
      rcases x with rfl | rfl
      · refine ⟨q, q1, by rw [e 11 (by omega) (by omega) (by omega) (by omega) (by omega)]; exact q2, ?_⟩
        rw [d 12 (by omega) (by omega) (by omega) (by omega) (by omega) (by omega), (g 11 (by omega)).1]
        rcases q3 with q3 | q3
        · exact Or.inl q3
        · exact Or.inr ⟨q3.1, by rw [q3.2, p0]⟩
      · refine ⟨q, q1, by rw [b1 _ (by omega) (by omega) (by omega) (by omega) (by omega) (by omega)]; exact q2, ?_⟩
        rw [a1 _ 12 (by omega) (by omega) (by omega), (g 11 (by omega)).2]
        rcases q3 with q3 | q3
        · exact Or.inl q3
        · exact Or.inr ⟨q3.1, by rw [q3.2, p0]; rfl⟩
    · obtain ⟨q, q1, q2, q3⟩ := hp z (by omega)
      refine ⟨q, q1, ?_, ?_⟩
      · rw [b1 _ (by omega) (by omega) (by omega) (by omega) (by omega) (by omega)]
        exact q2
      · rw [a1 _ _ (by omega) (by omega) (by omega), a2 _ _ (by omega) (by omega) (by omega) (by omega)]
        exact q3
  · have ex : ∀ z, z < s → z ≠ i → heI B2 z = heI B z := fun z hz hne => heI_of (fun j hj => b1 _ (by omega) (by omega) (by omega) (by omega) (by omega) (by omega))
    have es : heI B i = heI B2 i + heI B2 s := by
      unfold heI
      apply sumZ_add
      intro j hj
      obtain ⟨h0, ho, li, ra, u9, kn, si, su, un, hf2, h1, h2, h3, h4⟩ := hh i hi
      obtain ⟨q1, q2, q3, q4, q5⟩ := h4 j hj
      have hq : 0 ≤ (gL B 1 (3263 + 60 * i + j)).toInt ∧ (gL B 1 (3263 + 60 * i + j)).toInt ≤ 10000000000 := by
        rw [q1]
        split
        · omega
        · decide
      have qb := pt_bd (u := u) (v := v) hq.1 hq.2 hv2 hu2
      rw [(eh j hj).1, (eh j hj).2]
      omega
    have eq := sumZ_upd (f := heI B) (g := heI B2) hi ex
    unfold R_f at *
    rw [a2 _ _ (by omega) (by omega) (by omega) (by omega), sumZ, eq]
    omega
  · rw [a2 _ _ (by omega) (by omega) (by omega) (by omega)]
    exact hb z hz

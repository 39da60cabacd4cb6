theorem nI_s1 {q : Nat} (h : 1 ≤ q) : nI q - 1 = nI (q - 1) := by
  obtain ⟨p, rfl⟩ : ∃ p, q = p + 1 := ⟨q - 1, by omega⟩
  exact nI_pred p
theorem c110 {q : Nat} (hq : q < 6000) : ((110 : Int32) ≤ nI q) = (110 ≤ q) := nIl (a := 110) (by omega) hq
theorem c0 {q : Nat} (hq : q < 6000) : (nI q ≤ (0 : Int32)) = (q ≤ 0) := nIl (b := 0) hq (by omega)
theorem BR.tb {k : Nat} {K : KT} {m r s y : Nat} {A B : MM} (h : BR k K m r s y A B) {q : Nat} (hq : q ≤ 110) {x : Int32} (h1 : 0 ≤ x.toInt) (h2 : x.toInt ≤ 100000) : BR k K m r s y (sI A 3 q x) (sL B 1 q x.toInt64) := by
  obtain ⟨he, hs, ht, hm, hkk, hh, hp, hf, hb⟩ := h
  have hc := he.1
  have c1 : m ≤ 24 := hc.1
  have c2 : r ≤ 6 := hc.2.1
  have c3 : s ≤ 40 := hc.2.2
  refine ⟨he.I (v_tb hq) (by simp [isL]) (by simp [isZ]) x (by simp [enc]) rfl, hs.fI (by omega), fun z hz => ?_, hm.fI c1 (by omega), hkk.fI c2 (by omega), fun i hi => ((hh i hi).fI c1 (by omega) (by omega)).fB (by omega) (by omega) (by omega), fun i hi => ((hp i hi).fI (by omega)).fB (by omega), (R_f.fI hf).fB c3 (by omega), hb.fI⟩
  rw [gIs]
  split
  · exact ⟨h1, h2⟩
  · exact ht z hz
theorem sim_living {N : Nat} (hN : 6000 ≤ N) : Sim_living N Rel := by
  intro k n A B hk hR x1 x2
  have hR2 := hR.up
  have hR0 := hR
  obtain ⟨hn, K, m, r, s, y, hB, hK1, hK2⟩ := hR
  have hB0 := hB
  obtain ⟨he, hs, ht, hm, hkk, hh, hp, hf, hb⟩ := hB
  rw [F_X5_living, F_X6_living, age_A, age_B, in_w (x := x2) (a := 0) (b := 100000) (a' := 0) (b' := 100000) rfl rfl]
  cases hx : ib x1 111 with
  | false => exact ⟨_, A, B, rfl, rfl, hR2⟩
  | true =>
    obtain ⟨q, hq, rfl⟩ := ib_of hx (by omega)
    simp only [bIt]
    have z0 : (0 : Int32).toInt = 0 := rfl
    have z1 : (100000 : Int32).toInt = 100000 := rfl
    by_cases hw : 0 ≤ x2.toInt ∧ x2.toInt ≤ 100000
    · have e1 : F_X5_isWithin x2 0 100000 = true := wi_toInt.mpr (by rw [z0, z1]; exact hw)
      have e2 : ¬ x2 < 0 := by rw [Int32.lt_iff_toInt_lt, z0]; omega
      have e3 : ¬ (100000 : Int32) < x2 := by rw [Int32.lt_iff_toInt_lt, z1]; omega
      rw [e1, if_neg e2, if_neg e3]
      simp only [bIt]
      have hfin : Rel (k + 1) n (sI A 3 q x2) (sL B 1 q x2.toInt64) := ⟨hn, K, m, r, s, y, (hB0.tb (by omega) hw.1 hw.2).up, hK1, fun z => ⟨(hK2 z).1, (hK2 z).2.up⟩⟩
      have hre : F_X4_replace N 2 (nI q) x2 A = some ((gI A 3 q).toInt64, sI A 3 q x2) := by
        rw [F_X4_replace, at_A (by omega), bn1_e, age_A, hx]
        simp (disch := omega) only [bIt, gd_ib, bnd_e, ixn]
        rfl
      by_cases q0 : q = 0
      · subst q0
        rw [F_X4_fits, F_X4_fits_17, F_X6_living_48]
        simp (disch := omega) only [c0, c110, Nat.le_refl, if_true, Int32.zero_add, nI_1, at_A, bn1_e, gd_ib, bnd_e, ixn, he.tb]
        rw [if_neg (show ¬ 110 ≤ 0 by omega), if_neg (show ¬ 110 ≤ 0 by omega)]
        by_cases d : x2.toInt64 < (gI A 3 (0 + 1)).toInt64
        · rw [if_pos d, if_neg (by rw [Int64.le_iff_toInt_le]; rw [Int64.lt_iff_toInt_lt] at d; omega)]
          exact ⟨_, A, B, rfl, rfl, hR2⟩
        · rw [if_neg d, if_pos (by rw [Int64.le_iff_toInt_le]; rw [Int64.lt_iff_toInt_lt] at d; omega), bn1_e, hre, bn2_e]
          exact ⟨_, _, _, rfl, rfl, hfin⟩
      · rw [F_X4_fits, F_X4_fits_17, F_X6_living_48]
        simp (disch := omega) only [c0, c110, Int32.zero_add, nI_1, nI_s1, at_A, bn1_e, gd_ib, bnd_e, ixn, he.tb]
        rw [if_neg (show ¬ q ≤ 0 by omega), if_neg (show ¬ q ≤ 0 by omega)]
        by_cases c : (gI A 3 (q - 1)).toInt64 < x2.toInt64
        · rw [if_pos c, if_pos c]
          refine ⟨_, A, B, ?_, rfl, hR2⟩
          by_cases q1 : 110 ≤ q
          · rw [if_pos q1]; rfl
          · rw [if_neg q1, at_A (by omega), bn1_e]
            split <;> rfl
        · rw [if_neg c, if_neg c]
          by_cases q1 : 110 ≤ q
          · rw [if_pos q1, if_pos q1, bn1_e, hre, bn2_e]
            exact ⟨_, _, _, rfl, rfl, hfin⟩
          · rw [if_neg q1, if_neg q1, at_A (by omega), bn1_e]
            by_cases d : x2.toInt64 < (gI A 3 (q + 1)).toInt64
            · rw [if_pos d, if_neg (by rw [Int64.le_iff_toInt_le]; rw [Int64.lt_iff_toInt_lt] at d; omega)]
              exact ⟨_, A, B, rfl, rfl, hR2⟩
            · rw [if_neg d, if_pos (by rw [Int64.le_iff_toInt_le]; rw [Int64.lt_iff_toInt_lt] at d; omega), bn1_e, hre, bn2_e]
              exact ⟨_, _, _, rfl, rfl, hfin⟩
    · have e1 : F_X5_isWithin x2 0 100000 = false := by
        rw [Bool.eq_false_iff]
        intro q9
        have := wi_toInt.mp q9
        rw [z0, z1] at this
        exact hw this
      rw [e1]
      simp only [bIf]
      by_cases e2 : x2 < 0
      · rw [if_pos e2]
        exact ⟨_, A, B, rfl, rfl, hR2⟩
      · rw [if_neg e2]
        by_cases e3 : (100000 : Int32) < x2
        · rw [if_pos e3]
          exact ⟨_, A, B, rfl, rfl, hR2⟩
        · rw [Int32.lt_iff_toInt_lt] at e2 e3
          rw [z0] at e2
          rw [z1] at e3
          omega
theorem sim_set {N : Nat} (hN : 6000 ≤ N) : Sim_set N Rel := by
  intro k n A B hk hR x1 x2
  have hR2 := hR.up
  obtain ⟨hn, K, m, r, s, y, hB, hK1, hK2⟩ := hR
  obtain ⟨he, hs, ht, hm, hkk, hh, hp, hf, hb⟩ := hB
  have hc := he.1
  have c1 : m ≤ 24 := hc.1
  have c2 : r ≤ 6 := hc.2.1
  have c3 : s ≤ 40 := hc.2.2
  rw [F_X5_set, F_X6_set, F_X5_set_32, F_X6_set_33, in_w (x := x2) (a := 1) (b := 5) (a' := 1) (b' := 5) rfl rfl, in_w (x := x2) (a := 0) (b := 1000) (a' := 0) (b' := 1000) rfl rfl]
  by_cases h0 : x1 = 0
  · subst h0
    rw [if_pos rfl, if_pos rfl]
    cases hx : F_X5_isWithin x2 1 5 with
    | false =>
      simp only [bIf, show ¬ ((0 : Int32) = 1) by decide, if_false]
      exact ⟨_, A, B, rfl, rfl, hR2⟩
    | true =>
      simp only [bIt, if_true, bnd_e, he.sc8]
      refine ⟨_, _, _, rfl, rfl, hn, K, m, r, s, y, ?_, hK1, fun z => ⟨(hK2 z).1, (hK2 z).2.up⟩⟩
      refine BR.up ⟨he.I v_sc8 rfl rfl x2 rfl rfl, hs.fI (by omega), ht.fI (by omega), hm.fI c1 (by omega), hkk.fI c2 (by omega), fun i hi => ((hh i hi).fI c1 (by omega) (by omega)).fB (by omega) (by omega) (by omega), fun i hi => ((hp i hi).fI (by omega)).fB (by omega), (R_f.fI hf).fB c3 (by omega), hb.fI⟩
  · rw [if_neg h0, if_neg h0]
    by_cases h1 : x1 = 1
    · subst h1
      rw [if_pos rfl, if_pos rfl]
      cases hx : F_X5_isWithin x2 0 1000 with
      | false =>
        simp only [bIf]
        exact ⟨_, A, B, rfl, rfl, hR2⟩
      | true =>
        simp only [bIt, show ¬ ((1 : Int32) = 0) by decide, if_false, bnd_e, he.sc9]
        refine ⟨_, _, _, rfl, rfl, hn, K, m, r, s, y, ?_, hK1, fun z => ⟨(hK2 z).1, (hK2 z).2.up⟩⟩
        have hq := wi_toInt.mp hx
        have hs2 : R_s m r s y (sI A 1 9 x2) := by
          unfold R_s at *
          simp (disch := omega) only [gIn, gIe]
          exact ⟨hs.1, hs.2.1, hs.2.2.1, hs.2.2.2.1, hs.2.2.2.2.1, hq.1, hq.2⟩
        refine BR.up ⟨he.I v_sc9 rfl rfl x2 rfl rfl, hs2, ht.fI (by omega), hm.fI c1 (by omega), hkk.fI c2 (by omega), fun i hi => ((hh i hi).fI c1 (by omega) (by omega)).fB (by omega) (by omega) (by omega), fun i hi => ((hp i hi).fI (by omega)).fB (by omega), (R_f.fI hf).fB c3 (by omega), hb.fI⟩
    · rw [if_neg h1, if_neg h1]
      exact ⟨_, A, B, rfl, rfl, hR2⟩
theorem BR.heir {k : Nat} {K : KT} {m r s y : Nat} {A B : MM} (h : BR k K m r s y A B) {i : Nat} (hi : i < m) {x : Int32} (hx : x = -1 ∨ ∃ j, j < m ∧ x = nI j) : BR k K m r s y (sI A (7 + i) 3 x) (sL B 1 (111 + 7 * i + 3) x.toInt64) := by
  obtain ⟨he, hs, ht, hm, hkk, hh, hp, hf, hb⟩ := h
  have hc := he.1
  have c1 : m ≤ 24 := hc.1
  have c2 : r ≤ 6 := hc.2.1
  have c3 : s ≤ 40 := hc.2.2
  refine ⟨he.I (v_m3 hi) (t_m3 (by omega)) (z_m3 (by omega)) x (n_m3 (by omega)) rfl, hs.fI (by omega), ht.fI (by omega), fun z hz => ?_, hkk.fI c2 (by omega), fun q hq => ((hh q hq).fI c1 (by omega) (by omega)).fB (by omega) (by omega) (by omega), fun q hq => ((hp q hq).fI (by omega)).fB (by omega), (R_f.fI hf).fB c3 (by omega), hb.fI⟩
  have q := hm z hz
  rw [gIn (by omega : ¬ (7 + z = 7 + i ∧ 0 = 3)), gIn (by omega : ¬ (7 + z = 7 + i ∧ 6 = 3))]
  refine ⟨q.1, q.2.1, ?_, q.2.2.2⟩
  rw [gIs]
  split
  · exact hx
  · exact q.2.2.1
theorem sim_heir {N : Nat} (hN : 6000 ≤ N) : Sim_heir N Rel := by
  intro k n A B hk hR x1 x2
  have hR2 := hR.up
  obtain ⟨hn, K, m, r, s, y, hB, hK1, hK2⟩ := hR
  have hB0 := hB
  obtain ⟨he, hs, ht, hm, hkk, hh, hp, hf, hb⟩ := hB
  have hc := he.1
  have c1 : m ≤ 24 := hc.1
  rw [F_X5_heir, F_X6_heir, isM_A hs.1 (by omega), isM_A hs.1 (by omega), isM_B (he.cm hs) (by omega), isM_B (he.cm hs) (by omega)]
  cases hx : ib x1 m with
  | false => exact ⟨_, A, B, rfl, rfl, hR2⟩
  | true =>
    obtain ⟨i, hi, rfl⟩ := ib_of hx (by omega)
    simp (disch := omega) only [bIt, gd_ib, bnd_e, ixn, cellOf_3, he.m3 hi]
    by_cases h1 : x2 = -1
    · have hne : ¬ x2 = nI i := by
        rw [h1]
        intro q
        have := congrArg Int32.toInt q
        rw [nI_toInt (by omega), show (-1 : Int32).toInt = -1 from rfl] at this
        omega
      rw [if_neg hne, if_pos h1, if_pos h1]
      exact ⟨_, _, _, rfl, rfl, hn, K, m, r, s, y, (hB0.heir hi (Or.inl h1)).up, hK1, fun z => ⟨(hK2 z).1, (hK2 z).2.up⟩⟩
    · rw [if_neg h1, if_neg h1]
      cases hx2 : ib x2 m with
      | false =>
        simp only [bIf]
        refine ⟨_, A, B, ?_, rfl, hR2⟩
        split <;> rfl
      | true =>
        obtain ⟨j, hj, rfl⟩ := ib_of hx2 (by omega)
        simp only [bIt]
        by_cases h2 : nI j = nI i
        · rw [if_pos h2, if_pos h2]
          exact ⟨_, A, B, rfl, rfl, hR2⟩
        · rw [if_neg h2, if_neg h2]
          exact ⟨_, _, _, rfl, rfl, hn, K, m, r, s, y, (hB0.heir hi (Or.inr ⟨j, hj, rfl⟩)).up, hK1, fun z => ⟨(hK2 z).1, (hK2 z).2.up⟩⟩
theorem sim_sell {N : Nat} (hN : 6000 ≤ N) : Sim_sell N Rel := by
  intro k n A B hk hR x1 x2
  have hR2 := hR.up
  obtain ⟨hn, K, m, r, s, y, hB, hK1, hK2⟩ := hR
  obtain ⟨he, hs, ht, hm, hkk, hh, hp, hf, hb⟩ := hB
  have hc := he.1
  have c1 : m ≤ 24 := hc.1
  have c2 : r ≤ 6 := hc.2.1
  have c3 : s ≤ 40 := hc.2.2
  rw [F_X5_sell, F_X6_sell, isS_A hs.2.2.1 (by omega), isM_A hs.1 (by omega), isS_B (he.cs hs) (by omega), isM_B (he.cm hs) (by omega)]
  cases hx : ib x1 s with
  | false => exact ⟨_, A, B, rfl, rfl, hR2⟩
  | true =>
    obtain ⟨i, hi, rfl⟩ := ib_of hx (by omega)
    simp only [bIt]
    cases hx2 : ib x2 m with
    | false => exact ⟨_, A, B, rfl, rfl, hR2⟩
    | true =>
      obtain ⟨j, hj, rfl⟩ := ib_of hx2 (by omega)
      simp (disch := omega) only [bIt, gd_ib, bnd_e, ixn, part_0, he.s0 hi]
      refine ⟨_, _, _, rfl, rfl, hn, K, m, r, s, y, ?_, hK1, fun z => ⟨(hK2 z).1, (hK2 z).2.up⟩⟩
      refine BR.up ⟨he.I (v_s0 hi) (t_s0 (by omega)) (z_s0 (by omega)) _ (n_s0 (by omega)) rfl, hs.fI (by omega), ht.fI (by omega), hm.fI c1 (by omega), hkk.fI c2 (by omega), fun q hq => ?_, fun q hq => ((hp q hq).fI (by omega)).fB (by omega), (R_f.fI hf).fB c3 (by omega), hb.fI⟩
      refine R_h.fB ?_ (by omega) (by omega) (by omega)
      by_cases hqi : q = i
      · subst hqi
        obtain ⟨h0, ho, li, ra, u, kn, si, su, un, hf2, h1, h2, h3, h4⟩ := hh q hq
        refine ⟨?_, j, li, ra, u, kn, si, su, un, hf2, ?_, h2, ?_, fun z hz => ?_⟩
        · unfold R_o at *
          simp (disch := omega) only [gIn]
          exact h0
        · unfold R_v at *
          simp (disch := omega) only [gIn, gIe]
          exact ⟨trivial, h1.2.1, h1.2.2.1, h1.2.2.2.1, h1.2.2.2.2.1, h1.2.2.2.2.2.1, h1.2.2.2.2.2.2.1, h1.2.2.2.2.2.2.2.1, h1.2.2.2.2.2.2.2.2.1, hj, h1.2.2.2.2.2.2.2.2.2.2⟩
        · rw [prv_fI c1 (by omega) (by omega)]
          exact h3
        · simp only [gLsI]
          exact h4 z hz
      · exact (hh q hq).fI c1 (by omega) (by omega)
theorem sim_pledge {N : Nat} (hN : 6000 ≤ N) : Sim_pledge N Rel := by
  intro k n A B hk hR x1 x2 x3
  have hR2 := hR.up
  obtain ⟨hn, K, m, r, s, y, hB, hK1, hK2⟩ := hR
  obtain ⟨he, hs, ht, hm, hkk, hh, hp, hf, hb⟩ := hB
  have hc := he.1
  have c1 : m ≤ 24 := hc.1
  have c2 : r ≤ 6 := hc.2.1
  have c3 : s ≤ 40 := hc.2.2
  rw [F_X5_pledge, F_X6_pledge, isS_A hs.2.2.1 (by omega), isM_A hs.1 (by omega), isS_B (he.cs hs) (by omega), isM_B (he.cm hs) (by omega), in_w (x := x3) (a := 0) (b := 1000000000) (a' := 0) (b' := 1000000000) rfl rfl]
  cases hx : ib x1 s with
  | false => exact ⟨_, A, B, rfl, rfl, hR2⟩
  | true =>
    obtain ⟨i, hi, rfl⟩ := ib_of hx (by omega)
    simp only [bIt]
    cases hx2 : ib x2 m with
    | false => exact ⟨_, A, B, rfl, rfl, hR2⟩
    | true =>
      obtain ⟨j, hj, rfl⟩ := ib_of hx2 (by omega)
      simp only [bIt]
      cases hx3 : F_X5_isWithin x3 0 1000000000 with
      | false => exact ⟨_, A, B, rfl, rfl, hR2⟩
      | true =>
        simp (disch := omega) only [bIt, gd_ib, bnd_e, ixn, part_11, part_12, he.s11 hi]
        refine ⟨_, _, _, rfl, rfl, hn, K, m, r, s, y, ?_, hK1, fun z => ⟨(hK2 z).1, (hK2 z).2.up⟩⟩
        have e1 := he.b (fun c z hv => enc_x11 hc hv (show i < 40 by omega)) ((nI j).toInt64)
        have e2 := e1.L (v_s11 hi) (t_s11 (by omega)) x3.toInt64 (n_s11 (by omega))
        have e3 := e2.aI (c := 37 + i) (k := 12) (by unfold val; omega) (by omega) (nI j)
        refine BR.up ⟨e3, (R_s.fL hs).fI (by omega), (R_t.fL ht).fI (by omega), (R_m.fL hm).fI c1 (by omega), (hkk.fL c2 (by omega)).fI c2 (by omega), fun q hq => ((((hh q hq).fL (by omega)).fI c1 (by omega) (by omega)).fB (by omega) (by omega) (by omega)).fB (by omega) (by omega) (by omega), fun q hq => ?_, ((R_f.fI (hf.fL (by omega))).fB c3 (by omega)).fB c3 (by omega), (hb.fL c1 (by omega)).fI⟩
        by_cases hqi : q = i
        · subst hqi
          refine ⟨j, hj, ?_, Or.inl gIe⟩
          rw [gLn (by omega), gLe, nIw (by omega)]
        · exact ((((hp q hq).fL (by omega)).fI (by omega)).fB (by omega)).fB (by omega)

/-! ===== the year is one more ===== -/
theorem CM.year {k : Int} {K : KT} {m r s y : Nat} {A B : MM} (h : CM (100000000 * ((y : Int) + 1)) k K m r s y (fun _ => y + 1) (fun _ => False) A B) (hy : y < 60) : MS k K m r s (y + 1) (fun _ => False) (sI A 1 7 (nI (y + 1))) (sL B 1 5663 (lN (y + 1))) := by
  obtain ⟨he, hs, ht, hm, hkk, hh, hp, hf, hb⟩ := h
  have c1 : m ≤ 24 := he.1.1
  have c2 : r ≤ 6 := he.1.2.1
  have c3 : s ≤ 40 := he.1.2.2
  refine ⟨he.I v_sc7 rfl rfl (nI (y + 1)) rfl (by rw [nIw (by omega)]), ?_, ht.fI (by omega), hm.fI c1 (by omega), hkk.fI c2 (by omega), fun q hq => ((hh q hq).fI (by omega)).fB (by omega) (by omega) (by omega), fun q hq => ((hp q hq).fI (by omega)).fB (by omega), ?_, hb.fI⟩
  · unfold R_s at *
    simp (disch := omega) only [gIn, gIe]
    exact ⟨hs.1, hs.2.1, hs.2.2.1, trivial, by omega, hs.2.2.2.2.2⟩
  · unfold R_f
    rw [sumZ_congr (f := heI (sL B 1 5663 (lN (y + 1)))) (g := heI B) (fun i hi => heI_fB (by omega) (by omega)), gLsI]
    omega
theorem year_loop {N m r s y : Nat} {k : Int} {K : KT} {P : Nat → Prop} {x : Int32} {w : Int64} : ∀ (fu j : Nat) (A B : MM), MS k K m r s y P A B → j ≤ m → m < j + fu → ∃ (A' B' : MM), F_X0_beginNextYear_12 N fu (nI j) A = some A' ∧ F_X6_close_632 N x fu (nI s) w (nI j) B = F_X6_close_668 N x N (nI s) w (0 : Int32) B' ∧ MS k K m r s y P A' B' ∧ (∀ i, j ≤ i → i < m → gI A' (7 + i) 4 = 0) ∧ (∀ i, i < j → gI A' (7 + i) 4 = gI A (7 + i) 4) := by
  intro fu
  induction fu with
  | zero => intro j A B h0 h1 h2; omega
  | succ fu ih =>
    intro j A B h0 h1 h2
    have he := h0.1
    have hs := h0.2.1
    have c1 : m ≤ 24 := he.1.1
    rw [F_X0_beginNextYear_12, F_X6_close_632, he.cm hs, nIw (by omega), hs.1]
    simp (disch := omega) only [lNl, nIl]
    by_cases hj : m ≤ j
    · rw [if_pos hj, if_pos hj]
      exact ⟨A, B, rfl, rfl, h0, fun i h3 h4 => by omega, fun i _ => rfl⟩
    · rw [if_neg hj, if_neg hj, gd_ib (by omega) (by omega), bnd_e, cellOf_4, gd_ib (by omega) (by omega), bnd_e, ixn (by omega), ixn (by omega), nI_1]
      obtain ⟨A', B', q1, q2, q3, q4, q5⟩ := ih (j + 1) (sI A (7 + j) 4 0) (sL B 1 (111 + 7 * j + 4) 0) (h0.m4 (by omega) (v := 0) (w := 0) rfl) (by omega) (by omega)
      refine ⟨A', B', q1, q2, q3, fun i h3 h4 => ?_, fun i h3 => by rw [q5 i (by omega), gIn (by omega)]⟩
      by_cases e : i = j
      · subst e
        rw [q5 i (by omega), gIe]
      · exact q4 i (by omega) h4
/-! ===== BACK goes ===== -/
theorem MS.gb {k : Int} {K : KT} {m r s y : Nat} {P : Nat → Prop} {A B : MM} (h : MS k K m r s y P A B) {j ra tg : Nat} (hj : j < s) (hra : ra < r) (htg : tg < m) {c : Int64} (h0 : 0 ≤ c.toInt) (h1 : c.toInt ≤ (gL A (31 + ra) 3).toInt) : MS k K m r s y P (sL (sL (sI A (37 + j) 13 1) (31 + ra) 3 (gL A (31 + ra) 3 - c)) (7 + tg) 1 (gL A (7 + tg) 1 + c)) (sL (sL (sL B 1 (303 + 14 * j + 13) 1) 1 (279 + 4 * ra + 3) (gL A (31 + ra) 3 - c)) 1 (111 + 7 * tg + 1) (gL A (7 + tg) 1 + c)) := by
  obtain ⟨he, hs, ht, hm, hkk, hh, hp, hf, hb⟩ := h
  have c1 : m ≤ 24 := he.1.1
  have c2 : r ≤ 6 := he.1.2.1
  have c3 : s ≤ 40 := he.1.2.2
  have e1 := he.Z (v_s13 hj) (t_s13 (by omega)) (z_s13 (by omega)) 1 (n_s13 (by omega)) (w := 1) rfl
  have e2 := e1.L (v_k3 hra) (t_k3 (by omega)) (gL A (31 + ra) 3 - c) (n_k3 (by omega))
  have e3 := e2.L (v_m1 htg) (t_m1 (by omega)) (gL A (7 + tg) 1 + c) (n_m1 (by omega))
  refine ⟨e3, (R_s.fL (R_s.fL (hs.fI (by omega)))), (R_t.fL (R_t.fL (ht.fI (by omega)))), (R_m.fL (R_m.fL (hm.fI c1 (by omega)))), fun z hz => ?_, fun q hq => ((((((hh q hq).fI (by omega)).fL (by omega)).fL (by omega)).fB (by omega) (by omega) (by omega)).fB (by omega) (by omega) (by omega)).fB (by omega) (by omega) (by omega), fun q hq => ((((((hp q hq).fI (by omega)).fL (by omega)).fL (by omega)).fB (by omega)).fB (by omega)).fB (by omega), (((((R_f.fI hf).fL (by omega)).fL (by omega)).fB c3 (by omega)).fB c3 (by omega)).fB c3 (by omega), ((R_d.fI hb).fL c1 (by omega)).fL c1 (by omega)⟩
  have q := hkk z hz
  rw [gIsL, gIsL, gIsL, gIsL, gIsL, gIsL, gIn (by omega), gIn (by omega), gIn (by omega), gLn (by omega)]
  refine ⟨q.1, q.2.1, q.2.2.1, ?_⟩
  by_cases e : z = ra
  · subst e
    rw [gLe, fb_subL (by omega) (by omega)]
    omega
  · rw [gLn (by omega), gLsI]
    exact q.2.2.2
theorem gb_c {x st : Int64} (h : 0 ≤ st.toInt) : (¬ (0 : Int64) ≤ x → mnL (mxL x 0) st = 0) ∧ ((0 : Int64) ≤ x → x ≤ st → mnL (mxL x 0) st = x) ∧ ((0 : Int64) ≤ x → ¬ x ≤ st → mnL (mxL x 0) st = st) ∧ 0 ≤ (mnL (mxL x 0) st).toInt ∧ (mnL (mxL x 0) st).toInt ≤ st.toInt := by
  have z0 : (0 : Int64).toInt = 0 := rfl
  unfold mnL mxL
  simp only [Int64.lt_iff_toInt_lt, Int64.le_iff_toInt_le, z0]
  by_cases h1 : 0 < x.toInt
  · rw [if_pos h1]
    by_cases h2 : st.toInt < x.toInt
    · rw [if_pos h2]
      exact ⟨fun q => by omega, fun _ q => by omega, fun _ _ => rfl, h, Int.le_refl _⟩
    · rw [if_neg h2]
      exact ⟨fun q => by omega, fun _ _ => rfl, fun _ q => by omega, by omega, by omega⟩
  · rw [if_neg h1, if_neg (by rw [z0]; omega)]
    exact ⟨fun _ => rfl, fun q _ => i64 (by rw [z0]; omega), fun q q2 => by omega, by rw [z0]; omega, by rw [z0]; exact h⟩
section GB
variable {N m r s y j ra li ho tg : Nat} {K : KT} {A B : MM}
theorem gb_A (hs : R_s m r s y A) (c1 : m ≤ 24) (c2 : r ≤ 6) (hra : ra < r) (hli : li < m) (hho : ho < m) (htg : tg < m) (x0 : gI A (37 + j) 0 = nI ho) (x1 : gI A (37 + j) 1 = nI li) (x4 : gI A (37 + j) 4 = nI ra) (hx : (gI A (7 + li) 3 = -1 ∧ tg = ho) ∨ gI A (7 + li) 3 = nI tg) : F_X0_giveBackOf N (37 + j) (sI A (37 + j) 13 1) = some (sL (sL (sI A (37 + j) 13 1) (31 + ra) 3 (gL A (31 + ra) 3 - mnL (mxL (gL A (37 + j) 6 - gL A (37 + j) 7) 0) (gL A (31 + ra) 3))) (7 + tg) 1 (gL A (7 + tg) 1 + mnL (mxL (gL A (37 + j) 6 - gL A (37 + j) 7) 0) (gL A (31 + ra) 3))) := by
  generalize hc : mnL (mxL (gL A (37 + j) 6 - gL A (37 + j) 7) 0) (gL A (31 + ra) 3) = c
  rw [F_X0_giveBackOf]
  simp (disch := omega) only [gIn, gLsI, gIsL, x4, x1, x0, gd_ib, bnd_e, ixn, hc]
  have hsM : ∀ z, F_X0_isMember z (sL (sI A (37 + j) 13 1) (31 + ra) 3 (gL A (31 + ra) 3 - c)) = ib z m := fun z => isM_A (by rw [gIsL, gIn (by omega)]; exact hs.1) (by omega)
  rw [hsM]
  rcases hx with ⟨hx, rfl⟩ | hx
  · rw [hx, ib_m1, bIf]
    simp (disch := omega) only [gLn, gLsI]
  · rw [hx, ib_nI htg (by omega), bIt, gd_ib (by omega) (by omega), ixn (by omega)]
    simp (disch := omega) only [gLn, gLsI]
set_option maxHeartbeats 4000000 in
theorem gb_B (he : Eqv K m r s A B) (hj : j < s) (hra : ra < r) (hli : li < m) (hho : ho < m) (htg : tg < m) (x0 : gI A (37 + j) 0 = nI ho) (x1 : gI A (37 + j) 1 = nI li) (x4 : gI A (37 + j) 4 = nI ra) (hx : (gI A (7 + li) 3 = -1 ∧ tg = ho) ∨ gI A (7 + li) 3 = nI tg) (hst : 0 ≤ (gL A (31 + ra) 3).toInt) : F_X6_backGoes N (nI j) B = some (sL (sL (sL B 1 (303 + 14 * j + 13) 1) 1 (279 + 4 * ra + 3) (gL A (31 + ra) 3 - mnL (mxL (gL A (37 + j) 6 - gL A (37 + j) 7) 0) (gL A (31 + ra) 3))) 1 (111 + 7 * tg + 1) (gL A (7 + tg) 1 + mnL (mxL (gL A (37 + j) 6 - gL A (37 + j) 7) 0) (gL A (31 + ra) 3))) := by
  have c1 : m ≤ 24 := he.1.1
  have c2 : r ≤ 6 := he.1.2.1
  have c3 : s ≤ 40 := he.1.2.2
  obtain ⟨k1, k2, k3, -, -⟩ := gb_c (x := gL A (37 + j) 6 - gL A (37 + j) 7) hst
  have b0 : gL B 1 (303 + 14 * j + 0) = lN ho := by rw [he.s0 hj, x0, nIw (by omega)]
  have b1 : gL B 1 (303 + 14 * j + 1) = lN li := by rw [he.s1 hj, x1, nIw (by omega)]
  have b4 : gL B 1 (303 + 14 * j + 4) = lN ra := by rw [he.s4 hj, x4, nIw (by omega)]
  have b6 := he.s6 hj
  have b7 := he.s7 hj
  have bk := he.k3 hra
  have bm := he.m1 htg
  have bh := he.m3 hli
  rw [F_X6_backGoes]
  simp (disch := omega) only [part_13, part_4, part_6, part_7, part_1, part_0, gd_ib, bnd_e, ixn, gLn, b0, b1, b4, b6, b7, lNi, groupCell_3, cellOf_3, cellOf_1, bk]
  generalize gL A (37 + j) 6 - gL A (37 + j) 7 = x7 at *
  rcases hx with ⟨hx, rfl⟩ | hx
  · have hn : ¬ (0 : Int64) ≤ gL B 1 (111 + 7 * li + 3) := by rw [bh, hx]; decide
    by_cases g1 : (0 : Int64) ≤ x7
    · rw [if_pos g1]
      by_cases g2 : x7 ≤ gL A (31 + ra) 3
      · rw [if_pos g2, if_neg hn, k2 g1 g2, bm]
      · rw [if_neg g2, if_neg hn, k3 g1 g2, bm]
    · rw [if_neg g1, if_neg hn, k1 g1, bm]
  · have hy : gL B 1 (111 + 7 * li + 3) = lN tg := by rw [bh, hx, nIw (by omega)]
    have hn : (0 : Int64) ≤ gL B 1 (111 + 7 * li + 3) := by
      rw [hy, Int64.le_iff_toInt_le, lN_toInt' (by omega), show (0 : Int64).toInt = 0 from rfl]
      omega
    by_cases g1 : (0 : Int64) ≤ x7
    · rw [if_pos g1]
      by_cases g2 : x7 ≤ gL A (31 + ra) 3
      · rw [if_pos g2, if_pos hn, k2 g1 g2]
        simp (disch := omega) only [hy, lNi, cellOf_1, gd_ib, ixn, gLn, bm]
      · rw [if_neg g2, if_pos hn, k3 g1 g2]
        simp (disch := omega) only [hy, lNi, cellOf_1, gd_ib, ixn, gLn, bm]
    · rw [if_neg g1, if_pos hn, k1 g1]
      simp (disch := omega) only [hy, lNi, cellOf_1, gd_ib, ixn, gLn, bm]
end GB
theorem gb_loop {N m r s y : Nat} {k : Int} {K : KT} {x : Int32} {w : Int64} (hN : 6000 ≤ N) : ∀ (fu j : Nat) (A B : MM), MS k K m r s y (fun _ => False) A B → j ≤ s → s < j + fu → ∃ (A' B' : MM), F_X0_giveBack_2 N fu (nI j) A = some A' ∧ F_X6_close_668 N x fu (nI s) w (nI j) B = some (w, B') ∧ MS k K m r s y (fun _ => False) A' B' ∧ (∀ i, i < m → gI A' (7 + i) 4 = gI A (7 + i) 4) := by
  intro fu
  induction fu with
  | zero => intro j A B h0 h1 h2; omega
  | succ fu ih =>
    intro j A B h0 h1 h2
    have h00 := h0
    obtain ⟨he, hs, ht, hm, hkk, hh, hp, hf, hb⟩ := h0
    have c1 : m ≤ 24 := he.1.1
    have c2 : r ≤ 6 := he.1.2.1
    have c3 : s ≤ 40 := he.1.2.2
    have hy : y ≤ 60 := hs.2.2.2.2.1
    rw [F_X0_giveBack_2, F_X6_close_668, hs.2.2.1]
    simp (disch := omega) only [nIl]
    by_cases hj : s ≤ j
    · rw [if_pos hj, if_pos hj]
      exact ⟨A, B, rfl, rfl, h00, fun i _ => rfl⟩
    · have hj2 : j < s := by omega
      obtain ⟨g0, ho, li, ra, u, kn, si, su, un, hf2, g1, g2, -⟩ := hh j hj2
      have g10 := g1
      obtain ⟨v0, v1, v4, v3, v5, v8, v9, v10, v14, r0, r1, r4, r3, r3', r5, r8, r9, r9', r95, r10, r14⟩ := g1
      obtain ⟨hst, q1, q2, -, -⟩ := stands_sim (N := N) hN he hs hj2 g10 g0 (by omega) r8 g2
      have e3 : ((gI A (37 + j) 5).toInt64 = (3 : Int64)) = (gI A (37 + j) 5 = 3) := by rw [show (3 : Int64) = (3 : Int32).toInt64 from rfl, weq]
      have e13 : ((bo (gI A (37 + j) 13)).toInt64 = (0 : Int64)) = (bo (gI A (37 + j) 13) = 0) := by rw [show (0 : Int64) = (0 : Int32).toInt64 from rfl, weq]
      rw [if_neg hj, if_neg hj, gd_ib (by omega) (by omega), ixn (by omega), part_5, part_13, gd_ib (by omega) (by omega), gd_ib (by omega) (by omega), ixn (by omega), ixn (by omega), he.s5 hj2, he.s13 hj2, q1, q2, bn1_e, bn1_e, nI_1]
      simp only [e3, e13]
      have nx := ih (j + 1) A B h00 (by omega) (by omega)
      by_cases k1 : gI A (37 + j) 5 = 3
      · rw [if_pos k1, if_pos k1]
        by_cases k2 : bo (gI A (37 + j) 13) = 0
        · rw [if_pos k2, if_pos k2]
          by_cases k3 : hst = 3
          · rw [if_pos k3, if_pos k3, bnd_e]
            have hk := hkk ra r4
            obtain ⟨tg, htg, hx⟩ : ∃ tg, tg < m ∧ ((gI A (7 + li) 3 = -1 ∧ tg = ho) ∨ gI A (7 + li) 3 = nI tg) := by
              rcases (hm li r1).2.2.1 with q | ⟨z, z1, z2⟩
              · exact ⟨ho, r0, Or.inl ⟨q, rfl⟩⟩
              · exact ⟨z, z1, Or.inr z2⟩
            have hc := gb_c (x := gL A (37 + j) 6 - gL A (37 + j) 7) hk.2.2.2.1
            rw [gb_A hs c1 c2 r4 r1 r0 htg v0 v1 v4 hx, gb_B he hj2 r4 r1 r0 htg v0 v1 v4 hx hk.2.2.2.1, bn1_e, bn1_e]
            obtain ⟨A', B', w1, w2, w3, w4⟩ := ih (j + 1) _ _ (h00.gb hj2 r4 htg (c := mnL (mxL (gL A (37 + j) 6 - gL A (37 + j) 7) 0) (gL A (31 + ra) 3)) hc.2.2.2.1 hc.2.2.2.2) (by omega) (by omega)
            refine ⟨A', B', w1, w2, w3, fun i hi => ?_⟩
            rw [w4 i hi, gIsL, gIsL, gIn (by omega)]
          · rw [if_neg k3, if_neg k3]
            exact nx
        · rw [if_neg k2, if_neg k2]
          exact nx
      · rw [if_neg k1, if_neg k1]
        exact nx

/-! ===== buy ===== -/
section Buy
variable {k : Nat} {K : KT} {m r s y N : Nat} {A B : MM}
/-- the class for an age, on both sides -/
theorem rank_loop (h : BR k K m r s y A B) {v x2 z : Int32} {w : Int64} (hv1 : -110 ≤ v.toInt) (hv2 : v.toInt ≤ 60) (hw : w = (gI A 1 7 - v).toInt64) : ∀ (fu j : Nat), j ≤ r → r < j + fu → ∃ g : Int32, F_X0_rankFor_35 N x2 z fu v (nI j) A = some g ∧ F_X6_classFor_2 N w fu (nI j) B = some g ∧ (g = -1 ∨ ∃ q, q < r ∧ g = nI q) := by
  subst hw
  obtain ⟨he, hs, ht, hmm, hkk, hh, hp, hf, hb⟩ := h
  have c2 : r ≤ 6 := he.1.2.1
  intro fu
  induction fu with
  | zero => intro j h1 h2; omega
  | succ fu ih =>
    intro j h1 h2
    rw [F_X0_rankFor_35, F_X6_classFor_2, he.cr hs, nIw (by omega), hs.2.1]
    simp (disch := omega) only [lNl, nIl]
    by_cases hj : r ≤ j
    · rw [if_pos hj, if_pos hj]
      exact ⟨-1, rfl, rfl, Or.inl rfl⟩
    · have hj2 : j < r := by omega
      rw [if_neg hj, if_neg hj]
      simp (disch := omega) only [gd_ib, ixn, groupCell_0, groupCell_1, he.k0 hj2, he.k1 hj2, nI_1]
      rw [in_w rfl rfl]
      cases F_X5_isWithin (gI A 1 7 - v) (gI A (31 + j) 0) (gI A (31 + j) 1) with
      | false =>
        rw [bIf, bIf]
        exact ih (j + 1) (by omega) (by omega)
      | true =>
        rw [bIt, bIt]
        exact ⟨nI j, rfl, rfl, Or.inr ⟨j, hj2, rfl⟩⟩
theorem age_w (hs : R_s m r s y A) {v : Int32} (hv1 : -110 ≤ v.toInt) (hv2 : v.toInt ≤ 60) : (gI A 1 7).toInt64 - v.toInt64 = (gI A 1 7 - v).toInt64 := by
  have hy : y ≤ 60 := hs.2.2.2.2.1
  have ey : (gI A 1 7).toInt = y := by rw [hs.2.2.2.1, nI_toInt (by omega)]
  apply i64
  rw [toInt64_toInt, fb_subL, fb_subI, toInt64_toInt, toInt64_toInt]
  all_goals (try rw [toInt64_toInt, toInt64_toInt])
  all_goals omega
/-- what the class does when the lives are fit -/
def tailA (N : Nat) (x1 x2 z x4 kn : Int32) (f : Int32 → Int32) (A : MM) : Option (Int64 × MM) :=
  bn1 (F_X0_rankFor N x2 z A) (fun x11 =>
    if x11 = (-1 : Int32) then some ((-1000000000000000 : Int64), A)
    else if gI A 1 6 < (40 : Int32) then
      bn2 (F_X0_addShare N x1 x2 z x4 x11 A) (fun x15 M14 => gd (ib x15 40) (bnd (sI M14 (37 + (ix x15)) 5 kn) (fun M17 => bnd (sI M17 (37 + (ix x15)) 9 (f (gI M17 1 7))) (fun M19 => some (x15.toInt64, M19)))))
    else some ((-1000000000000000 : Int64), A))
set_option maxHeartbeats 8000000 in
theorem buy_core (hN : 6000 ≤ N) (h : BR k K m r s y A B) {ho li u kn su : Nat} {o x3 x6 : Int32} {f : Int32 → Int32} (hfs : f (nI y) = nI su) (i0 : ho < m) (i1 : li < m) (i3 : 1 ≤ u) (i4 : u ≤ 1000) (i5 : kn ≤ 3) (i6 : y ≤ su) (i7 : su ≤ 90) (i8 : kn ≤ 1 → su = y) (i9 : (kn ≠ 1 → o = -1) ∧ (kn = 1 → o = x3 ∧ ∃ j, j < m ∧ o = nI j)) (i10 : 1 < kn → x6 = nI (su - y)) : ∃ (w : Int64) (A' B' : MM) (s' : Nat), tailA N (nI ho) (nI li) o (nI u) (nI kn) f A = some (w, A') ∧ F_X6_buy_106 N (nI ho) (nI li) x3 (nI u) (nI kn) x6 B = some (w, B') ∧ BR k K m r s' y A' B' := by
  have h00 := h
  obtain ⟨he, hs, ht, hmm, hkk, hh, hp, hf, hb⟩ := h
  have c1 : m ≤ 24 := he.1.1
  have c2 : r ≤ 6 := he.1.2.1
  have c3 : s ≤ 40 := he.1.2.2
  have hy : y ≤ 60 := hs.2.2.2.2.1
  have hO : o = -1 ∨ ∃ j, j < m ∧ o = nI j := by
    by_cases q : kn = 1
    · exact Or.inr (i9.2 q).2
    · exact Or.inl (i9.1 q)
  -- the birth that counts
  have hbirth : ∃ v : Int32, -110 ≤ v.toInt ∧ v.toInt ≤ 60 ∧ F_X0_rankFor N (nI li) o A = F_X0_rankFor_35 N (nI li) o N v (0 : Int32) A ∧ F_X6_buy_106 N (nI ho) (nI li) x3 (nI u) (nI kn) x6 B = F_X6_buy_152 N (nI ho) (nI li) x3 (nI u) (nI kn) x6 v.toInt64 B := by
    have q1 := hmm li i1
    rw [F_X0_rankFor, F_X6_buy_106]
    simp (disch := omega) only [gd_ib, bnd_e, ixn, cellOf_0, he.m0 i1]
    have ek : (nI kn = (1 : Int32)) = (kn = 1) := nIe (b := 1) (by omega) (by omega)
    simp only [ek]
    by_cases g : kn = 1
    · obtain ⟨rfl, j, hj, rfl⟩ := i9.2 g
      have q2 := hmm j hj
      rw [if_pos g, isM_A hs.1 (by omega), ib_nI hj (by omega), bIt]
      simp (disch := omega) only [gd_ib, bnd_e, ixn, cellOf_0, he.m0 hj, wle]
      unfold mxI
      by_cases g2 : gI A (7 + li) 0 < gI A (7 + j) 0
      · rw [if_pos g2, if_neg (by rw [Int32.le_iff_toInt_le]; rw [Int32.lt_iff_toInt_lt] at g2; omega)]
        exact ⟨_, q2.1, q2.2.1, rfl, rfl⟩
      · rw [if_neg g2, if_pos (by rw [Int32.le_iff_toInt_le]; rw [Int32.lt_iff_toInt_lt] at g2; omega)]
        exact ⟨_, q1.1, q1.2.1, rfl, rfl⟩
    · rw [if_neg g, i9.1 g, isM_A hs.1 (by omega), ib_m1, bIf]
      exact ⟨_, q1.1, q1.2.1, rfl, rfl⟩
  obtain ⟨v, hv1, hv2, hvA, hvB⟩ := hbirth
  obtain ⟨g, g1, g2, g3⟩ := rank_loop (N := N) h00 (x2 := nI li) (z := o) hv1 hv2 rfl N 0 (by omega) (by omega)
  rw [tailA, hvA, hvB, F_X6_buy_152, F_X6_classFor, he.sc7, age_w hs hv1 hv2]
  rw [show (0 : Int32) = nI 0 from rfl, g1, g2, bn1_e, bn1_e]
  rcases g3 with rfl | ⟨ra, hra, rfl⟩
  · rw [if_pos rfl, if_pos (by decide)]
    exact ⟨_, A, B, s, rfl, rfl, h00⟩
  · have e0 : ¬ nI ra < nI 0 := by rw [nIlt (by omega) (by omega)]; omega
    have e40 : (nI s < (40 : Int32)) = (s < 40) := nIlt (b := 40) (by omega) (by omega)
    have e40' : (lN s = (40 : Int64)) = (s = 40) := lNe (b := 40) (by omega) (by omega)
    rw [if_neg (fun q => m1_ne (by omega) q.symm), if_neg e0, he.cs hs, hs.2.2.1]
    simp only [e40, e40']
    by_cases hs40 : s < 40
    · rw [if_pos hs40, if_neg (by omega), bnd_e, lNi]
      obtain ⟨B1, l1, l2, l3, l4⟩ := buy_l1 (N := N) (s := s) (x1 := nI ho) (x2 := nI li) (x3 := x3) (x4 := nI u) (x5 := nI kn) (x6 := x6) (ra := nI ra) hs40 N 0 B (by omega) (by omega)
      obtain ⟨B2, n1, n2, n3, n4⟩ := buy_l2 (N := N) (s := s) (x1 := nI ho) (x2 := nI li) (x3 := x3) (x4 := nI u) (x5 := nI kn) (x6 := x6) (ra := nI ra) hs40 N 0 B1 (by omega) (by omega)
      rw [l1, show (0 : Int32) = nI 0 from rfl, n1]
      have hB2 : ∀ q, (q < 303 + 14 * s ∨ 303 + 14 * s + 14 ≤ q) → (q < 863 + 60 * s ∨ 863 + 60 * s + 60 ≤ q) → (q < 3263 + 60 * s ∨ 3263 + 60 * s + 60 ≤ q) → gL B2 1 q = gL B 1 q := fun q q1 q2 q3 => by
        rw [n2, if_neg (by omega), l2, if_neg (by omega)]
      have hB2p : ∀ f, f < 14 → gL B2 1 (303 + 14 * s + f) = 0 := fun f hf => by
        rw [n2, if_neg (by omega), l2, if_pos (by omega)]
      have hB2r : ∀ j, j < 60 → gL B2 1 (863 + 60 * s + j) = 0 ∧ gL B2 1 (3263 + 60 * s + j) = 0 := fun j hj => by
        rw [n2, if_pos (by omega), n2, if_pos (by omega)]
        exact ⟨rfl, rfl⟩
      obtain ⟨p, hpd⟩ : ∃ p : Int64, p = (nI u).toInt64 * (gI A (31 + ra) 2).toInt64 := ⟨_, rfl⟩
      have hpr := hkk ra hra
      have hpb : 0 ≤ p.toInt ∧ p.toInt ≤ 10000000 := by
        obtain ⟨pr, hpr1, hpr2⟩ := ib_of (x := gI A (31 + ra) 2) (n := 10001) (ibm.mpr (by omega)) (by omega)
        have hm2 : u * pr ≤ 1000 * 10000 := Nat.mul_le_mul i4 (by omega)
        rw [hpd, hpr2, nIw (by omega), nI_l (by omega), lN_mul, pk_lT (by omega)]
        omega
      have hpB : (nI u).toInt64 * gL B2 1 (279 + 4 * ra + 2) = p := by
        rw [hB2 _ (by omega) (by omega) (by omega), he.k2 hra, hpd]
      have hfin : ∃ B', F_X6_buy_236 N (nI ho) (nI li) x3 (nI u) (nI kn) x6 1 (nI ra) (nI s) (nI 60) B2 = some ((nI s).toInt64, B') ∧ (∀ q, q ≠ 303 + 14 * s + 0 → q ≠ 303 + 14 * s + 1 → q ≠ 303 + 14 * s + 2 → q ≠ 303 + 14 * s + 3 → q ≠ 303 + 14 * s + 4 → q ≠ 303 + 14 * s + 5 → q ≠ 303 + 14 * s + 6 → q ≠ 303 + 14 * s + 8 → q ≠ 303 + 14 * s + 9 → q ≠ 279 + 4 * ra + 3 → q ≠ 5671 → q ≠ 5670 → gL B' 1 q = gL B2 1 q) ∧ gL B' 2 = gL B2 2 ∧ gI B' = gI B2 ∧ gL B' 1 (303 + 14 * s + 0) = lN ho ∧ gL B' 1 (303 + 14 * s + 1) = lN li ∧ gL B' 1 (303 + 14 * s + 2) = o.toInt64 ∧ gL B' 1 (303 + 14 * s + 3) = lN u ∧ gL B' 1 (303 + 14 * s + 4) = lN ra ∧ gL B' 1 (303 + 14 * s + 5) = lN kn ∧ gL B' 1 (303 + 14 * s + 6) = p ∧ gL B' 1 (303 + 14 * s + 8) = gL B 1 5663 ∧ gL B' 1 (303 + 14 * s + 9) = lN (su - y) ∧ gL B' 1 (279 + 4 * ra + 3) = gL B 1 (279 + 4 * ra + 3) + p ∧ gL B' 1 5671 = gL B 1 5671 + p ∧ gL B' 1 5670 = gL B 1 5670 + 1 := by
        rw [F_X6_buy_236, if_pos (by decide)]
        simp (disch := omega) only [part_0, part_1, part_2, part_3, part_4, part_5, part_6, part_8, part_9, groupCell_2, groupCell_3, gd_ib, ixn, hpB, bnd_e]
        have ek : (nI kn = (1 : Int32)) = (kn = 1) := nIe (b := 1) (by omega) (by omega)
        have ek' : (nI kn ≤ (1 : Int32)) = (kn ≤ 1) := nIl (b := 1) (by omega) (by omega)
        simp only [ek, ek']
        by_cases q1 : kn = 1
        · rw [if_pos q1, if_pos (by omega)]
          refine ⟨_, rfl, ?_, ?_, rfl, ?_, ?_, ?_, ?_, ?_, ?_, ?_, ?_, ?_, ?_, ?_, ?_⟩
          · intro q f0 f1 f2 f3 f4 f5 f6 f8 f9 f10 f11 f12
            simp (disch := omega) only [gLn]
          · rw [gL_ne (by decide), gL_ne (by decide), gL_ne (by decide), gL_ne (by decide), gL_ne (by decide), gL_ne (by decide), gL_ne (by decide), gL_ne (by decide), gL_ne (by decide), gL_ne (by decide), gL_ne (by decide), gL_ne (by decide)]
          all_goals simp (disch := omega) only [gLn, gLe, hB2]
          · exact nIw (by omega)
          · exact nIw (by omega)
          · rw [(i9.2 q1).1]
          · exact nIw (by omega)
          · exact nIw (by omega)
          · exact nIw (by omega)
          · rw [i8 (by omega), Nat.sub_self]; rfl
        · rw [if_neg q1]
          have eo : (-1 : Int64) = o.toInt64 := by rw [i9.1 q1]; rfl
          by_cases q2 : kn ≤ 1
          · rw [if_pos q2]
            refine ⟨_, rfl, ?_, ?_, rfl, ?_, ?_, ?_, ?_, ?_, ?_, ?_, ?_, ?_, ?_, ?_, ?_⟩
            · intro q f0 f1 f2 f3 f4 f5 f6 f8 f9 f10 f11 f12
              simp (disch := omega) only [gLn]
            · rw [gL_ne (by decide), gL_ne (by decide), gL_ne (by decide), gL_ne (by decide), gL_ne (by decide), gL_ne (by decide), gL_ne (by decide), gL_ne (by decide), gL_ne (by decide), gL_ne (by decide), gL_ne (by decide), gL_ne (by decide)]
            all_goals simp (disch := omega) only [gLn, gLe, hB2]
            · exact nIw (by omega)
            · exact nIw (by omega)
            · exact eo
            · exact nIw (by omega)
            · exact nIw (by omega)
            · exact nIw (by omega)
            · rw [i8 (by omega), Nat.sub_self]; rfl
          · rw [if_neg q2]
            refine ⟨_, rfl, ?_, ?_, rfl, ?_, ?_, ?_, ?_, ?_, ?_, ?_, ?_, ?_, ?_, ?_, ?_⟩
            · intro q f0 f1 f2 f3 f4 f5 f6 f8 f9 f10 f11 f12
              simp (disch := omega) only [gLn]
            · rw [gL_ne (by decide), gL_ne (by decide), gL_ne (by decide), gL_ne (by decide), gL_ne (by decide), gL_ne (by decide), gL_ne (by decide), gL_ne (by decide), gL_ne (by decide), gL_ne (by decide), gL_ne (by decide), gL_ne (by decide)]
            all_goals simp (disch := omega) only [gLn, gLe, hB2]
            · exact nIw (by omega)
            · exact nIw (by omega)
            · exact eo
            · exact nIw (by omega)
            · exact nIw (by omega)
            · exact nIw (by omega)
            · rw [i10 (by omega), nIw (by omega)]
      obtain ⟨B', w1, w2, w3, w4, f0, f1, f2, f3, f4, f5, f6, f8, f9, fk, ft, fs⟩ := hfin
      obtain ⟨A9, hA9⟩ : ∃ A9, A9 = sI (sI (sI (sL (sI (sI (sI (sL (sI A (37 + s) 5 0) (37 + s) 7 0) (37 + s) 8 (nI y)) (37 + s) 9 (nI y)) (37 + s) 10 0) (37 + s) 11 0) (37 + s) 12 (-1)) (37 + s) 13 0) (37 + s) 14 (nI y) := ⟨_, rfl⟩
      obtain ⟨A1, t1, t2, t3⟩ := fill_loop (N := N) (c := 37 + s + 40) N 0 A9 (by omega) (by omega)
      have t1' : F_J7_fill_d0a16_6 N (37 + s + 40) 0 N (0 : Int32) 60 A9 = some A1 := t1
      have hbeg : F_X3_begin N (37 + s) (nI y) A = some A1 := by
        rw [F_X3_begin]
        simp only [bnd_e]
        rw [← hA9, F_J7_fill_d0a16, t1', bn1_e]
      have u1 : ∀ c j, c ≠ 37 + s → gI A1 c j = gI A c j := fun c j q => by
        rw [t3, hA9]
        simp (disch := omega) only [gIn, gIsL]
      have u2 : ∀ c j, c ≠ 37 + s → c ≠ 77 + s → gL A1 c j = gL A c j := fun c j q q' => by
        rw [t2, if_neg (by omega), hA9]
        simp (disch := omega) only [gLn, gLsI]
      have u3 : gI A1 (37 + s) 8 = nI y ∧ gI A1 (37 + s) 10 = 0 ∧ gI A1 (37 + s) 12 = -1 ∧ gI A1 (37 + s) 13 = 0 ∧ gI A1 (37 + s) 14 = nI y := by
        rw [t3, hA9]
        simp (disch := omega) only [gIn, gIsL, gIe]
        exact ⟨trivial, trivial, trivial, trivial, trivial⟩
      have u4 : gL A1 (37 + s) 7 = 0 ∧ gL A1 (37 + s) 11 = 0 := by
        rw [t2, if_neg (by omega), t2, if_neg (by omega), hA9]
        simp (disch := omega) only [gLn, gLsI, gLe]
        exact ⟨trivial, trivial⟩
      have u5 : ∀ j, j < 60 → gL A1 (77 + s) j = 0 := fun j hj => by rw [t2, if_pos (by omega)]
      obtain ⟨A3, hA3⟩ : ∃ A3, A3 = sI (sL (sL (sL (sI (sI (sI (sI (sI A1 (37 + s) 0 (nI ho)) (37 + s) 1 (nI li)) (37 + s) 2 o) (37 + s) 3 (nI u)) (37 + s) 4 (nI ra)) (37 + s) 6 p) (31 + ra) 3 (gL A (31 + ra) 3 + p)) 1 12 (gL A 1 12 + p)) 1 6 (nI (s + 1)) := ⟨_, rfl⟩
      have hadd : F_X0_addShare N (nI ho) (nI li) o (nI u) (nI ra) A = some (nI s, A3) := by
        rw [F_X0_addShare, hs.2.2.1, hs.2.2.2.1, gd_ib (by omega) (by omega), ixn (by omega), hbeg, bn1_e]
        simp (disch := omega) only [bnd_e, gd_ib, ixn, gLn, gLe, gLsI, gIn, gIe, gIsL, u1, u2, hs.2.2.1, nI_1, nI_pred, ← hpd]
        rw [hA3]
      rw [hadd, bn2_e, gd_ib hs40 (by omega), ixn (by omega), bnd_e, bnd_e]
      have ey : gI (sI A3 (37 + s) 5 (nI kn)) 1 7 = nI y := by
        rw [hA3]
        simp (disch := omega) only [gIn, gIsL, u1]
        exact hs.2.2.2.1
      rw [ey, hfs]
      refine ⟨_, _, B', s + 1, rfl, w1, h00.growS hs40 (ho := ho) (li := li) (ra := ra) (u := u) (kn := kn) (su := su) (o := o) (p := p) i0 i1 hra i3 i4 i5 i6 i7 i8 hO hpb.1 hpb.2 ?_ ?_ ?_ ?_ ?_ ?_ ?_ ?_ ?_ ?_ ?_ ?_ ?_ ?_ ?_ ?_ ?_ ?_ ?_ ?_ ?_ ?_ ?_ ?_ ?_ f0 f1 f2 f3 f4 f5 f6 ?_ ?_ f9 ?_ ?_ ?_ ?_ ?_ ?_ ?_⟩
      · intro c j q1 q2
        rw [hA3]
        simp (disch := omega) only [gIn, gIsL, u1]
      · intro c j q1 q2 q3 q4
        rw [hA3]
        simp (disch := omega) only [gLn, gLsI, u2]
      · rw [hA3]
        simp (disch := omega) only [gIn, gIsL, gIe]
      · rw [hA3]
        simp (disch := omega) only [gIn, gIsL, gIe]
      · rw [hA3]
        simp (disch := omega) only [gIn, gIsL, gIe]
      · rw [hA3]
        simp (disch := omega) only [gIn, gIsL, gIe]
      · rw [hA3]
        simp (disch := omega) only [gIn, gIsL, gIe]
      · rw [hA3]
        simp (disch := omega) only [gIn, gIsL, gIe]
      · simp (disch := omega) only [gIn, gIe]
      · rw [hA3]
        simp (disch := omega) only [gIn, gIsL]
        exact u3.1
      · simp (disch := omega) only [gIe]
      · rw [hA3]
        simp (disch := omega) only [gIn, gIsL]
        exact u3.2.1
      · rw [hA3]
        simp (disch := omega) only [gIn, gIsL]
        exact u3.2.2.1
      · rw [hA3]
        simp (disch := omega) only [gIn, gIsL]
        exact u3.2.2.2.1
      · rw [hA3]
        simp (disch := omega) only [gIn, gIsL]
        exact u3.2.2.2.2
      · rw [hA3]
        simp (disch := omega) only [gLn, gLsI, gLe]
      · rw [hA3]
        simp (disch := omega) only [gLn, gLsI]
        exact u4.1
      · rw [hA3]
        simp (disch := omega) only [gLn, gLsI]
        exact u4.2
      · intro j hj
        rw [hA3]
        simp (disch := omega) only [gLn, gLsI]
        exact u5 j hj
      · rw [hA3]
        simp (disch := omega) only [gLn, gLsI, gLe]
      · rw [hA3]
        simp (disch := omega) only [gLn, gLsI, gLe]
      · intro q q0 q1 q2 q3 q4 q5 q6
        rw [w2 q (by omega) (by omega) (by omega) (by omega) (by omega) (by omega) (by omega) (by omega) (by omega) q4 q5 q6, hB2 q q1 q2 q3]
      · rw [w3, n3, l3]
      · rw [w4, n4, l4]
      · rw [fs, he.cs hs, lN_1]
      · rw [w2 _ (by omega) (by omega) (by omega) (by omega) (by omega) (by omega) (by omega) (by omega) (by omega) (by omega) (by omega) (by omega), hB2p 7 (by omega)]
      · rw [f8, he.cy hs]
      · rw [w2 _ (by omega) (by omega) (by omega) (by omega) (by omega) (by omega) (by omega) (by omega) (by omega) (by omega) (by omega) (by omega), hB2p 10 (by omega)]
      · rw [w2 _ (by omega) (by omega) (by omega) (by omega) (by omega) (by omega) (by omega) (by omega) (by omega) (by omega) (by omega) (by omega), hB2p 11 (by omega)]
      · rw [w2 _ (by omega) (by omega) (by omega) (by omega) (by omega) (by omega) (by omega) (by omega) (by omega) (by omega) (by omega) (by omega), hB2p 12 (by omega)]
      · rw [w2 _ (by omega) (by omega) (by omega) (by omega) (by omega) (by omega) (by omega) (by omega) (by omega) (by omega) (by omega) (by omega), hB2p 13 (by omega)]
      · intro j hj
        rw [w2 _ (by omega) (by omega) (by omega) (by omega) (by omega) (by omega) (by omega) (by omega) (by omega) (by omega) (by omega) (by omega), w2 _ (by omega) (by omega) (by omega) (by omega) (by omega) (by omega) (by omega) (by omega) (by omega) (by omega) (by omega) (by omega)]
        exact hB2r j hj
      · rw [fk, he.k3 hra]
      · rw [ft, he.sc12]
    · rw [if_neg hs40, if_pos (by omega)]
      exact ⟨_, A, B, s, rfl, rfl, h00⟩
end Buy

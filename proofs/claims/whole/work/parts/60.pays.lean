/-! ===== an amount is paid out ===== -/
theorem sL_same {M : MM} {c j : Nat} : sL M c j (gL M c j) = M := by
  unfold sL gL
  refine Prod.ext rfl ?_
  funext c' j'
  show (if c' = c ∧ j' = j then M.2 c j else M.2 c' j') = M.2 c' j'
  split
  · next h => rw [h.1, h.2]
  · rfl
theorem mn_lN {x z : Nat} (hx : x < 2 ^ 63) (hz : z < 2 ^ 63) : mnL (lN x) (lN z) = lN (min x z) := by
  unfold mnL
  by_cases h : z < x
  · rw [if_pos ((pk_lLT hz hx).mpr h), Nat.min_eq_right (by omega)]
  · rw [if_neg (fun q => h ((pk_lLT hz hx).mp q)), Nat.min_eq_left (by omega)]
/-- the reference's memory behind an amount, in one piece -/
def payM (B : MM) (i ho q : Nat) (a tx owed pl : Int64) : MM :=
  bnd (sL B 1 5665 (gL B 1 5665 + tx)) (fun M2 =>
  bnd (sL M2 1 (111 + 7 * ho + 2) (gL M2 1 (111 + 7 * ho + 2) - owed)) (fun M8 =>
  bnd (sL M8 1 5664 (gL M8 1 5664 + owed)) (fun M9 =>
  bnd (sL M9 1 (303 + 14 * i + 12) (gL M9 1 (303 + 14 * i + 12) - pl)) (fun M13 =>
  bnd (sL M13 1 (111 + 7 * q + 1) (gL M13 1 (111 + 7 * q + 1) + pl)) (fun M16 =>
  bnd (sL M16 1 (111 + 7 * ho + 1) (gL M16 1 (111 + 7 * ho + 1) + (((a - tx) - owed) - pl))) (fun M19 =>
  sL M19 1 (303 + 14 * i + 7) (gL M19 1 (303 + 14 * i + 7) + a)))))))
section Pays
variable {K : KT} {m r s y N i : Nat} {A B : MM}
theorem pays_B (he : Eqv K m r s A B) (hi : i < s) {ho q : Nat} (h0 : gI A (37 + i) 0 = nI ho) (hho : ho < m) (hq : q < m) (h11 : gL B 1 (303 + 14 * i + 11) = lN q) (a : Int64) : F_X6_pays N (nI i) a B = some (payM B i ho q a ((a * gL B 1 5667) / 1000) (mnL (a - (a * gL B 1 5667) / 1000) (gL B 1 (111 + 7 * ho + 2))) (mnL ((a - (a * gL B 1 5667) / 1000) - mnL (a - (a * gL B 1 5667) / 1000) (gL B 1 (111 + 7 * ho + 2))) (gL B 1 (303 + 14 * i + 12)))) := by
  have c1 : m ≤ 24 := he.1.1
  have c3 : s ≤ 40 := he.1.2.2
  have e0 : gL B 1 (303 + 14 * i + 0) = lN ho := by rw [he.s0 hi, h0, nIw (by omega)]
  generalize htx : (a * gL B 1 5667) / 1000 = tx
  rw [F_X6_pays]
  simp (disch := omega) only [part_0, part_7, part_11, part_12, gd_ib, bnd_e, ixn, htx, gLn, e0, lNi, cellOf_1, cellOf_2, h11]
  generalize hd : gL B 1 (111 + 7 * ho + 2) = de
  generalize hp : gL B 1 (303 + 14 * i + 12) = pe
  by_cases c : a - tx ≤ de
  · have em : mnL (a - tx) de = a - tx := by
      unfold mnL
      rw [if_neg]
      rw [Int64.lt_iff_toInt_lt]
      rw [Int64.le_iff_toInt_le] at c
      omega
    rw [if_pos c, em]
    by_cases d : a - tx - (a - tx) ≤ pe
    · have em2 : mnL (a - tx - (a - tx)) pe = a - tx - (a - tx) := by
        unfold mnL
        rw [if_neg]
        rw [Int64.lt_iff_toInt_lt]
        rw [Int64.le_iff_toInt_le] at d
        omega
      rw [if_pos d, em2]
      unfold payM
      simp (disch := omega) only [bnd_e, gLn, hd, hp, e0, lNi, cellOf_1, gd_ib, ixn, h11]
    · have em2 : mnL (a - tx - (a - tx)) pe = pe := by
        unfold mnL
        rw [if_pos]
        rw [Int64.lt_iff_toInt_lt]
        rw [Int64.le_iff_toInt_le] at d
        omega
      rw [if_neg d, em2]
      unfold payM
      simp (disch := omega) only [bnd_e, gLn, hd, hp, e0, lNi, cellOf_1, gd_ib, ixn, h11]
  · have em : mnL (a - tx) de = de := by
      unfold mnL
      rw [if_pos]
      rw [Int64.lt_iff_toInt_lt]
      rw [Int64.le_iff_toInt_le] at c
      omega
    rw [if_neg c, em]
    by_cases d : a - tx - de ≤ pe
    · have em2 : mnL (a - tx - de) pe = a - tx - de := by
        unfold mnL
        rw [if_neg]
        rw [Int64.lt_iff_toInt_lt]
        rw [Int64.le_iff_toInt_le] at d
        omega
      rw [if_pos d, em2]
      unfold payM
      simp (disch := omega) only [bnd_e, gLn, hd, hp, e0, lNi, cellOf_1, gd_ib, ixn, h11]
    · have em2 : mnL (a - tx - de) pe = pe := by
        unfold mnL
        rw [if_pos]
        rw [Int64.lt_iff_toInt_lt]
        rw [Int64.le_iff_toInt_le] at d
        omega
      rw [if_neg d, em2]
      unfold payM
      simp (disch := omega) only [bnd_e, gLn, hd, hp, e0, lNi, cellOf_1, gd_ib, ixn, h11]
end Pays

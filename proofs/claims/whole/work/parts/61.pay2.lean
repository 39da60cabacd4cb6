def payC (A : MM) (c ho q : Nat) (a tx owed pl : Int64) : MM :=
  bnd (sL A 1 11 (gL A 1 11 + tx)) (fun M2 =>
  bnd (sL M2 (7 + ho) 2 (gL M2 (7 + ho) 2 - owed)) (fun M8 =>
  bnd (sL M8 1 10 (gL M8 1 10 + owed)) (fun M9 =>
  bnd (sL M9 c 11 (gL M9 c 11 - pl)) (fun M13 =>
  bnd (sL M13 (7 + q) 1 (gL M13 (7 + q) 1 + pl)) (fun M16 =>
  bnd (sL M16 (7 + ho) 1 (gL M16 (7 + ho) 1 + (((a - tx) - owed) - pl))) (fun M19 =>
  sL M19 c 7 (gL M19 c 7 + a)))))))
theorem payC_I {A : MM} {c ho q : Nat} {a tx owed pl : Int64} : gI (payC A c ho q a tx owed pl) = gI A := rfl
theorem payM_I {B : MM} {i ho q : Nat} {a tx owed pl : Int64} : gI (payM B i ho q a tx owed pl) = gI B := rfl
section Pays2
variable {K : KT} {m r s y N i : Nat} {A B : MM}
theorem pay_A (hs : R_s m r s y A) (c1 : m ≤ 24) {ho q : Nat} (h0 : gI A (37 + i) 0 = nI ho) (hho : ho < m) (hq : q < m) (a : Int64) (hpl : gI A (37 + i) 12 = nI q ∨ (gI A (37 + i) 12 = -1 ∧ mnL ((a - (a * (gI A 1 9).toInt64) / 1000) - mnL (a - (a * (gI A 1 9).toInt64) / 1000) (gL A (7 + ho) 2)) (gL A (37 + i) 11) = 0)) : F_X0_payOut N (37 + i) a A = some (payC A (37 + i) ho q a ((a * (gI A 1 9).toInt64) / 1000) (mnL (a - (a * (gI A 1 9).toInt64) / 1000) (gL A (7 + ho) 2)) (mnL ((a - (a * (gI A 1 9).toInt64) / 1000) - mnL (a - (a * (gI A 1 9).toInt64) / 1000) (gL A (7 + ho) 2)) (gL A (37 + i) 11))) := by
  have et : F_X5_parted a ((gI A 1 9).toInt64) 1000 = (a * (gI A 1 9).toInt64) / 1000 := by
    rw [F_X5_parted, if_neg (by decide)]
  rw [F_X0_payOut, h0, et]
  generalize (a * (gI A 1 9).toInt64) / 1000 = tx at *
  generalize hd : mnL (a - tx) (gL A (7 + ho) 2) = owed at *
  simp (disch := omega) only [gd_ib, bnd_e, ixn, hd, gIsL]
  rcases hpl with h | ⟨h, h2⟩
  · rw [h, isM_A hs.1 (by omega), ib_nI hq (by omega), bIt]
    rw [isM_A (m := m) (by simp only [gIsL]; exact hs.1) (by omega), ib_nI hq (by omega), bIt]
    simp (disch := omega) only [gd_ib, ixn]
    rfl
  · rw [h, isM_A hs.1 (by omega), ib_m1, bIf, h2]
    rw [isM_A (m := m) (by simp only [gIsL]; exact hs.1) (by omega), ib_m1, bIf]
    unfold payC
    simp only [bnd_e, Int64.sub_zero, Int64.add_zero, sL_same]
theorem Eqv.pay (he : Eqv K m r s A B) (hi : i < s) {ho q : Nat} (hho : ho < m) (hq : q < m) (a tx owed pl : Int64) : Eqv K m r s (payC A (37 + i) ho q a tx owed pl) (payM B i ho q a tx owed pl) := by
  have c1 : m ≤ 24 := he.1.1
  have c3 : s ≤ 40 := he.1.2.2
  unfold payC payM
  simp only [bnd_e]
  rw [he.sc11]
  have e1 := he.L v_sc11 rfl (gL A 1 11 + tx) (j := 5665) rfl
  generalize sL A 1 11 (gL A 1 11 + tx) = A1 at e1 ⊢
  generalize sL B 1 5665 (gL A 1 11 + tx) = B1 at e1 ⊢
  rw [e1.m2 hho]
  have e2 := e1.L (v_m2 hho) (t_m2 (by omega)) (gL A1 (7 + ho) 2 - owed) (n_m2 (by omega))
  generalize sL A1 (7 + ho) 2 (gL A1 (7 + ho) 2 - owed) = A2 at e2 ⊢
  generalize sL B1 1 (111 + 7 * ho + 2) (gL A1 (7 + ho) 2 - owed) = B2 at e2 ⊢
  rw [e2.sc10]
  have e3 := e2.L v_sc10 rfl (gL A2 1 10 + owed) (j := 5664) rfl
  generalize sL A2 1 10 (gL A2 1 10 + owed) = A3 at e3 ⊢
  generalize sL B2 1 5664 (gL A2 1 10 + owed) = B3 at e3 ⊢
  rw [e3.s11 hi]
  have e4 := e3.L (v_s11 hi) (t_s11 (by omega)) (gL A3 (37 + i) 11 - pl) (n_s11 (by omega))
  generalize sL A3 (37 + i) 11 (gL A3 (37 + i) 11 - pl) = A4 at e4 ⊢
  generalize sL B3 1 (303 + 14 * i + 12) (gL A3 (37 + i) 11 - pl) = B4 at e4 ⊢
  rw [e4.m1 hq]
  have e5 := e4.L (v_m1 hq) (t_m1 (by omega)) (gL A4 (7 + q) 1 + pl) (n_m1 (by omega))
  generalize sL A4 (7 + q) 1 (gL A4 (7 + q) 1 + pl) = A5 at e5 ⊢
  generalize sL B4 1 (111 + 7 * q + 1) (gL A4 (7 + q) 1 + pl) = B5 at e5 ⊢
  rw [e5.m1 hho]
  have e6 := e5.L (v_m1 hho) (t_m1 (by omega)) (gL A5 (7 + ho) 1 + (a - tx - owed - pl)) (n_m1 (by omega))
  generalize sL A5 (7 + ho) 1 (gL A5 (7 + ho) 1 + (a - tx - owed - pl)) = A6 at e6 ⊢
  generalize sL B5 1 (111 + 7 * ho + 1) (gL A5 (7 + ho) 1 + (a - tx - owed - pl)) = B6 at e6 ⊢
  rw [e6.s7 hi]
  exact e6.L (v_s7 hi) (t_s7 (by omega)) (gL A6 (37 + i) 7 + a) (n_s7 (by omega))
/-- how much of an amount goes to the debt -/
theorem owe_bd {a tx de : Int64} {t : Int32} (ha : 0 ≤ a.toInt) (ha2 : a.toInt ≤ 10000000000000) (ht : 0 ≤ t.toInt) (ht2 : t.toInt ≤ 1000) (htx : tx = (a * t.toInt64) / 1000) (hd : 0 ≤ de.toInt) : 0 ≤ (mnL (a - tx) de).toInt ∧ (mnL (a - tx) de).toInt ≤ a.toInt ∧ (mnL (a - tx) de).toInt ≤ de.toInt ∧ 0 ≤ ((a - tx) - mnL (a - tx) de).toInt := by
  have z0 : (0 : Int64).toInt = 0 := rfl
  obtain ⟨an, han, rfl⟩ := pk_lOf (x := a) (by rw [Int64.lt_iff_toInt_lt, z0]; omega)
  obtain ⟨dn, hdn, rfl⟩ := pk_lOf (x := de) (by rw [Int64.lt_iff_toInt_lt, z0]; omega)
  obtain ⟨tn, htn, rfl⟩ := ib_of (x := t) (n := 1001) (ibm.mpr (by omega)) (by omega)
  rw [pk_lT han] at ha2
  have e1 : tx = lN (an * tn / 1000) := by
    rw [htx, nIw (by omega), lN_mul, show (1000 : Int64) = lN 1000 from rfl]
    have hb : an * tn ≤ 10000000000000 * 1000 := Nat.mul_le_mul (by omega) (by omega)
    exact pk_lDiv (by omega) (by omega) (by omega)
  have hle : an * tn / 1000 ≤ an := by
    have hb : an * tn ≤ an * 1000 := Nat.mul_le_mul (Nat.le_refl _) (by omega)
    omega
  rw [e1, lN_sub hle, mn_lN (by omega) hdn, lN_sub (Nat.min_le_left _ _), pk_lT (by omega), pk_lT (by omega), pk_lT hdn, pk_lT (by omega)]
  omega
theorem mn_zero {x : Int64} (h : 0 ≤ x.toInt) : mnL x 0 = 0 := by
  unfold mnL
  split
  · rfl
  · next q =>
    rw [Int64.lt_iff_toInt_lt, show (0 : Int64).toInt = 0 from rfl] at q
    exact i64 (by rw [show (0 : Int64).toInt = 0 from rfl]; omega)
theorem payC_L {c ho q c' j' : Nat} {a tx owed pl : Int64} (h1 : ¬ (c' = 1 ∧ (j' = 10 ∨ j' = 11))) (h2 : ¬ (c' = 7 + ho ∧ (j' = 1 ∨ j' = 2))) (h3 : ¬ (c' = 7 + q ∧ j' = 1)) (h4 : ¬ (c' = c ∧ (j' = 7 ∨ j' = 11))) : gL (payC A c ho q a tx owed pl) c' j' = gL A c' j' := by
  unfold payC
  simp (disch := omega) only [bnd_e, gLn]
theorem payM_L {i ho q j' : Nat} {a tx owed pl : Int64} (h1 : j' ≠ 5664 ∧ j' ≠ 5665) (h2 : j' ≠ 111 + 7 * ho + 1 ∧ j' ≠ 111 + 7 * ho + 2 ∧ j' ≠ 111 + 7 * q + 1) (h3 : j' ≠ 303 + 14 * i + 7 ∧ j' ≠ 303 + 14 * i + 12) : gL (payM B i ho q a tx owed pl) 1 j' = gL B 1 j' := by
  unfold payM
  simp (disch := omega) only [bnd_e, gLn]
theorem payM_c {i ho q c' : Nat} {a tx owed pl : Int64} (h : c' ≠ 1) : gL (payM B i ho q a tx owed pl) c' = gL B c' := by
  unfold payM
  simp only [bnd_e]
  rw [gL_ne h, gL_ne h, gL_ne h, gL_ne h, gL_ne h, gL_ne h, gL_ne h]
/-- an amount is paid out on both sides -/
theorem pays_sim (he : Eqv K m r s A B) (hs : R_s m r s y A) (hi : i < s) {ho : Nat} (h0 : gI A (37 + i) 0 = nI ho) (hho : ho < m) (hp : R_p m A B i) {a : Int64} (ha : 0 ≤ a.toInt) (ha2 : a.toInt ≤ 10000000000000) (hd : 0 ≤ (gL A (7 + ho) 2).toInt) : ∃ (A' B' : MM) (t : Int64) (q : Nat), q < m ∧ F_X0_payOut N (37 + i) a A = some A' ∧ F_X6_pays N (nI i) a B = some B' ∧ Eqv K m r s A' B' ∧ gI A' = gI A ∧ gI B' = gI B ∧ (∀ c' j', ¬ (c' = 1 ∧ (j' = 10 ∨ j' = 11)) → ¬ (c' = 7 + ho ∧ (j' = 1 ∨ j' = 2)) → ¬ (c' = 7 + q ∧ j' = 1) → ¬ (c' = 37 + i ∧ (j' = 7 ∨ j' = 11)) → gL A' c' j' = gL A c' j') ∧ (∀ j', j' ≠ 5664 ∧ j' ≠ 5665 → (j' ≠ 111 + 7 * ho + 1 ∧ j' ≠ 111 + 7 * ho + 2 ∧ j' ≠ 111 + 7 * q + 1) → (j' ≠ 303 + 14 * i + 7 ∧ j' ≠ 303 + 14 * i + 12) → gL B' 1 j' = gL B 1 j') ∧ (∀ c', c' ≠ 1 → gL B' c' = gL B c') ∧ gL A' 1 10 = gL A 1 10 + t ∧ gL A' (7 + ho) 2 = gL A (7 + ho) 2 - t ∧ 0 ≤ t.toInt ∧ t.toInt ≤ a.toInt ∧ t.toInt ≤ (gL A (7 + ho) 2).toInt ∧ R_p m A' B' i := by
  have c1 : m ≤ 24 := he.1.1
  have c3 : s ≤ 40 := he.1.2.2
  obtain ⟨q, hq, h11, hpl⟩ := hp
  have hb := owe_bd (de := gL A (7 + ho) 2) ha ha2 hs.2.2.2.2.2.1 hs.2.2.2.2.2.2 rfl hd
  have hA := pay_A (N := N) (i := i) hs c1 h0 hho hq a (hpl.imp id (fun z => ⟨z.1, by rw [z.2]; exact mn_zero hb.2.2.2⟩))
  have hB := pays_B (N := N) he hi h0 hho hq h11 a
  rw [he.sc9, he.m2 hho, he.s11 hi] at hB
  generalize (a * (gI A 1 9).toInt64) / 1000 = tx at *
  generalize howe : mnL (a - tx) (gL A (7 + ho) 2) = owed at *
  generalize hple : mnL (a - tx - owed) (gL A (37 + i) 11) = pl at *
  refine ⟨_, _, owed, q, hq, hA, hB, he.pay hi hho hq a tx owed pl, payC_I, payM_I, fun c' j' => payC_L, fun j' => payM_L, fun c' => payM_c, ?_, ?_, hb.1, hb.2.1, hb.2.2.1, q, hq, ?_, ?_⟩
  · unfold payC
    simp (disch := omega) only [bnd_e, gLn, gLe]
  · unfold payC
    simp (disch := omega) only [bnd_e, gLn, gLe]
  · rw [payM_L (by omega) (by omega) (by omega)]
    exact h11
  · rw [payC_I]
    rcases hpl with z | z
    · exact Or.inl z
    · refine Or.inr ⟨z.1, ?_⟩
      have hz : pl = 0 := by rw [← hple, z.2]; exact mn_zero hb.2.2.2
      unfold payC
      simp (disch := omega) only [bnd_e, gLn, gLe]
      rw [z.2, hz]; rfl
end Pays2

/-! ===== books that hold the same ===== -/
def vI (m r s c j : Nat) : Prop := (c = 3 ∧ j ≤ 110) ∨ (c = 1 ∧ 4 ≤ j ∧ j ≤ 9) ∨ (7 ≤ c ∧ c < 7 + m ∧ (j = 0 ∨ j = 3 ∨ j = 6)) ∨ (31 ≤ c ∧ c < 31 + r ∧ j < 3) ∨ (37 ≤ c ∧ c < 37 + s ∧ j < 15 ∧ j ≠ 6 ∧ j ≠ 7 ∧ j ≠ 11 ∧ j ≠ 13)
def vZ (m s c j : Nat) : Prop := (7 ≤ c ∧ c < 7 + m ∧ (j = 4 ∨ j = 5)) ∨ (37 ≤ c ∧ c < 37 + s ∧ j = 13)
def vL (m r s c j : Nat) : Prop := (c = 1 ∧ 10 ≤ j ∧ j ≤ 12) ∨ (7 ≤ c ∧ c < 7 + m ∧ (j = 1 ∨ j = 2)) ∨ (31 ≤ c ∧ c < 31 + r ∧ j = 3) ∨ (37 ≤ c ∧ c < 37 + s ∧ (j = 6 ∨ j = 7 ∨ j = 11)) ∨ (77 ≤ c ∧ c < 77 + s ∧ j < 60)
def Ag (m r s : Nat) (A2 A : MM) : Prop := (∀ c j, vI m r s c j → gI A2 c j = gI A c j) ∧ (∀ c j, vZ m s c j → bo (gI A2 c j) = bo (gI A c j)) ∧ (∀ c j, vL m r s c j → gL A2 c j = gL A c j)
theorem val_L {m r s c k : Nat} (hc : cap m r s) (h : val m r s c k) (hL : isL c k = true) : vL m r s c k := by
  unfold isL at hL
  simp only [Bool.or_eq_true, Bool.and_eq_true, decide_eq_true_eq, beq_iff_eq] at hL
  obtain ⟨q1, q2, q3⟩ := hc
  unfold val at h
  unfold vL
  omega
theorem val_Z {m r s c k : Nat} (hc : cap m r s) (h : val m r s c k) (hZ : isZ c k = true) : vZ m s c k := by
  unfold isZ at hZ
  simp only [Bool.or_eq_true, Bool.and_eq_true, decide_eq_true_eq, beq_iff_eq] at hZ
  obtain ⟨q1, q2, q3⟩ := hc
  unfold val at h
  unfold vZ
  omega
set_option maxHeartbeats 4000000 in
theorem val_I {m r s c k : Nat} (hc : cap m r s) (h : val m r s c k) (hL : ¬ isL c k = true) (hZ : ¬ isZ c k = true) : vI m r s c k := by
  unfold isL at hL
  unfold isZ at hZ
  simp only [Bool.or_eq_true, Bool.and_eq_true, decide_eq_true_eq, beq_iff_eq, not_or] at hL hZ
  obtain ⟨q1, q2, q3⟩ := hc
  obtain ⟨⟨⟨⟨l1, l2⟩, l3⟩, l4⟩, l5⟩ := hL
  obtain ⟨z1, z2⟩ := hZ
  unfold vI
  rcases h with h | h | h | h | h | h
  · omega
  · clear l2 l3 l4 l5 z1 z2; omega
  · clear l1 l3 l4 l5 z2; omega
  · clear l1 l2 l4 l5 z1 z2; omega
  · clear l1 l2 l3 l5 z1; omega
  · omega
theorem Ag.rdd {m r s : Nat} {A2 A : MM} (h : Ag m r s A2 A) (hc : cap m r s) {c k : Nat} (hv : val m r s c k) : rd A2 c k = rd A c k := by
  unfold rd
  by_cases hL : isL c k = true
  · rw [if_pos hL, if_pos hL, h.2.2 c k (val_L hc hv hL)]
  · rw [if_neg hL, if_neg hL]
    by_cases hZ : isZ c k = true
    · rw [if_pos hZ, if_pos hZ, h.2.1 c k (val_Z hc hv hZ)]
    · rw [if_neg hZ, if_neg hZ, h.1 c k (val_I hc hv hL hZ)]
theorem bo_ne {x z : Int32} (h : bo x = bo z) (hx : x ≠ 0) : z ≠ 0 := fun q => by
  rw [q] at h
  have : bo x = 0 := h
  rw [bo0] at this
  exact hx this
set_option maxHeartbeats 4000000 in
theorem BR.same {k : Nat} {K K2 : KT} {m r s y : Nat} {A B A2 B2 : MM} (h : BR k K m r s y A B) (g : Ag m r s A2 A) (b : ∀ q, q < 5672 → gL B2 1 q = gL B 1 q) (e1 : shE A2 K2.1) (e2 : gL B2 2 = K2.2.1) (e3 : gI B2 0 = K2.2.2) : BR k K2 m r s y A2 B2 := by
  obtain ⟨he, hs, ht, hm, hkk, hh, hp, hf, hb⟩ := h
  have hc := he.1
  have c1 : m ≤ 24 := hc.1
  have c2 : r ≤ 6 := hc.2.1
  have c3 : s ≤ 40 := hc.2.2
  obtain ⟨gi, gz, gl⟩ := g
  refine ⟨⟨hc, fun c j hv => ?_, e1, e2, e3⟩, ?_, fun z hz => ?_, fun z hz => ?_, fun z hz => ?_, fun z hz => ?_, fun z hz => ?_, ?_, fun z hz => ?_⟩
  · rw [b _ (enc_lt hc hv), he.2.1 c j hv, Ag.rdd ⟨gi, gz, gl⟩ hc hv]
  · unfold R_s at *
    rw [gi 1 4 (by unfold vI; omega), gi 1 5 (by unfold vI; omega), gi 1 6 (by unfold vI; omega), gi 1 7 (by unfold vI; omega), gi 1 9 (by unfold vI; omega)]
    exact hs
  · rw [gi 3 z (by unfold vI; omega)]
    exact ht z hz
  · rw [gi _ 0 (by unfold vI; omega), gi _ 3 (by unfold vI; omega), gi _ 6 (by unfold vI; omega)]
    exact hm z hz
  · rw [gi _ 0 (by unfold vI; omega), gi _ 1 (by unfold vI; omega), gi _ 2 (by unfold vI; omega), gl _ 3 (by unfold vL; omega)]
    exact hkk z hz
  · obtain ⟨h0, ho, li, ra, u, kn, si, su, un, hf2, h1, h2, h3, h4⟩ := hh z hz
    refine ⟨?_, ho, li, ra, u, kn, si, su, un, hf2, ?_, ?_, ?_, fun j hj => ?_⟩
    · unfold R_o at *
      rw [gi _ 2 (by unfold vI; omega)]
      exact h0
    · unfold R_v at *
      rw [gi _ 0 (by unfold vI; omega), gi _ 1 (by unfold vI; omega), gi _ 4 (by unfold vI; omega), gi _ 3 (by unfold vI; omega), gi _ 5 (by unfold vI; omega), gi _ 8 (by unfold vI; omega), gi _ 9 (by unfold vI; omega), gi _ 10 (by unfold vI; omega), gi _ 14 (by unfold vI; omega)]
      exact h1
    · rw [b _ (by omega)]
      exact h2
    · rintro (q | q)
      · refine h3 (Or.inl ?_)
        obtain ⟨j, j1, j2, j3⟩ := q
        rw [gi _ 1 (by unfold vI; omega), gi _ 2 (by unfold vI; omega)] at j2
        exact ⟨j, j1, j2, bo_ne (gz _ 4 (by unfold vZ; omega)) j3⟩
      · exact h3 (Or.inr q)
    · rw [b _ (by omega), gl _ j (by unfold vL; omega)]
      exact h4 j hj
  · obtain ⟨q, q1, q2, q3⟩ := hp z hz
    refine ⟨q, q1, ?_, ?_⟩
    · rw [b _ (by omega)]
      exact q2
    · rw [gi _ 12 (by unfold vI; omega), gl _ 11 (by unfold vL; omega)]
      exact q3
  · unfold R_f at *
    rw [gl 1 10 (by unfold vL; omega), sumZ_congr (f := heI B2) (g := heI B) (fun i hi => heI_of (fun j hj => b _ (by omega)))]
    exact hf
  · rw [gl _ 2 (by unfold vL; omega)]
    exact hb z hz
/-! ===== a book is copied ===== -/
theorem cpM {N c0 c1 : Nat} {A : MM} (h : c0 ≠ c1) : ∃ A1, F_X1_copyFrom N c0 c1 A = some A1 ∧ (∀ c j, c ≠ c0 → gI A1 c j = gI A c j) ∧ (∀ c j, c ≠ c0 → gL A1 c j = gL A c j) ∧ (∀ j, (j = 0 ∨ j = 3 ∨ j = 6) → gI A1 c0 j = gI A c1 j) ∧ (∀ j, (j = 4 ∨ j = 5) → gI A1 c0 j = bo (gI A c1 j)) ∧ (∀ j, (j = 1 ∨ j = 2) → gL A1 c0 j = gL A c1 j) := by
  rw [F_X1_copyFrom]
  simp only [bnd_e]
  refine ⟨_, rfl, ?_, ?_, ?_, ?_, ?_⟩
  · intro c j q
    simp (disch := omega) only [gIn, gIsL]
  · intro c j q
    simp (disch := omega) only [gLn, gLsI]
  · intro j q
    rcases q with rfl | rfl | rfl
    all_goals simp (disch := omega) only [gIn, gIsL, gIe]
  · intro j q
    rcases q with rfl | rfl
    all_goals simp (disch := omega) only [gIn, gIsL, gIe]
  · intro j q
    rcases q with rfl | rfl
    all_goals simp (disch := omega) only [gLn, gLsI, gLe]
theorem cpR {N c0 c1 : Nat} {A : MM} (h : c0 ≠ c1) : ∃ A1, F_X2_copyFrom N c0 c1 A = some A1 ∧ (∀ c j, c ≠ c0 → gI A1 c j = gI A c j) ∧ (∀ c j, c ≠ c0 → gL A1 c j = gL A c j) ∧ (∀ j, j < 3 → gI A1 c0 j = gI A c1 j) ∧ gL A1 c0 3 = gL A c1 3 := by
  rw [F_X2_copyFrom]
  simp only [bnd_e]
  refine ⟨_, rfl, ?_, ?_, ?_, ?_⟩
  · intro c j q
    simp (disch := omega) only [gIn, gIsL]
  · intro c j q
    simp (disch := omega) only [gLn, gLsI]
  · intro j q
    rcases (show j = 0 ∨ j = 1 ∨ j = 2 by omega) with rfl | rfl | rfl
    all_goals simp (disch := omega) only [gIn, gIsL, gIe]
  · simp (disch := omega) only [gLn, gLsI, gLe]
section CopyLoops
variable {N c0 c1 m r s : Nat}
theorem cp_l3 (hd : c0 + 116 ≤ c1 ∨ c1 + 116 ≤ c0) (hs : s ≤ 40) : ∀ (fu j : Nat) (A : MM), gI A c0 6 = nI s → j ≤ s → s < j + fu → ∃ A', F_X0_copyFrom_147 N c0 c1 fu (nI j) A = some A' ∧ (∀ c z, (c < c0 + 36 + j ∨ c0 + 36 + s ≤ c) → gI A' c z = gI A c z) ∧ (∀ c z, (c < c0 + 36 + j ∨ c0 + 36 + s ≤ c) → (c < c0 + 76 + j ∨ c0 + 76 + s ≤ c) → gL A' c z = gL A c z) ∧ (∀ i, j ≤ i → i < s → (∀ z, z < 15 → z ≠ 6 → z ≠ 7 → z ≠ 11 → z ≠ 13 → gI A' (c0 + 36 + i) z = gI A (c1 + 36 + i) z) ∧ gI A' (c0 + 36 + i) 13 = bo (gI A (c1 + 36 + i) 13) ∧ (∀ z, (z = 6 ∨ z = 7 ∨ z = 11) → gL A' (c0 + 36 + i) z = gL A (c1 + 36 + i) z) ∧ (∀ z, z < 60 → gL A' (c0 + 76 + i) z = gL A (c1 + 76 + i) z)) := by
  intro fu
  induction fu with
  | zero => intro j A h0 h1 h2; omega
  | succ fu ih =>
    intro j A h0 h1 h2
    rw [F_X0_copyFrom_147, h0]
    simp (disch := omega) only [nIl]
    by_cases hj : s ≤ j
    · rw [if_pos hj]
      exact ⟨A, rfl, fun _ _ _ => rfl, fun _ _ _ _ => rfl, fun i h3 h4 => by omega⟩
    · rw [if_neg hj, gd_ib (by omega) (by omega), ixn (by omega), show c0 + 5 + 31 + j = c0 + 36 + j by omega, show c1 + 5 + 31 + j = c1 + 36 + j by omega, nI_1]
      obtain ⟨A1, t1, t2, t3, t4, t5, t6, t7⟩ := cpS (N := N) (c0 := c0 + 36 + j) (c1 := c1 + 36 + j) (A := A) (by omega) (by omega) (by omega)
      rw [t1, bn1_e]
      obtain ⟨A', q1, q2, q3, q4⟩ := ih (j + 1) A1 (by rw [t2 _ _ (by omega)]; exact h0) (by omega) (by omega)
      refine ⟨A', q1, fun c z h3 => ?_, fun c z h3 h4 => ?_, fun i h3 h4 => ?_⟩
      · rw [q2 c z (by omega), t2 c z (by omega)]
      · rw [q3 c z (by omega) (by omega), t3 c z (by omega) (by omega)]
      · by_cases e : i = j
        · subst e
          refine ⟨fun z z1 z2 z3 z4 z5 => ?_, ?_, fun z z1 => ?_, fun z z1 => ?_⟩
          · rw [q2 _ _ (by omega), t4 z z1 z2 z3 z4 z5]
          · rw [q2 _ _ (by omega), t5]
          · rw [q3 _ _ (by omega) (by omega), t6 z z1]
          · rw [q3 _ _ (by omega) (by omega), show c0 + 76 + i = c0 + 36 + i + 40 by omega, t7 z z1, show c1 + 36 + i + 40 = c1 + 76 + i by omega]
        · obtain ⟨w1, w2, w3, w4⟩ := q4 i (by omega) h4
          refine ⟨fun z z1 z2 z3 z4 z5 => ?_, ?_, fun z z1 => ?_, fun z z1 => ?_⟩
          · rw [w1 z z1 z2 z3 z4 z5, t2 _ _ (by omega)]
          · rw [w2, t2 _ _ (by omega)]
          · rw [w3 z z1, t3 _ _ (by omega) (by omega)]
          · rw [w4 z z1, t3 _ _ (by omega) (by omega)]
theorem cp_l2 (hd : c0 + 116 ≤ c1 ∨ c1 + 116 ≤ c0) (hs : r ≤ 6) : ∀ (fu j : Nat) (A : MM), gI A c0 5 = nI r → j ≤ r → r < j + fu → ∃ A', F_X0_copyFrom_116 N c0 c1 fu (nI j) A = F_X0_copyFrom_147 N c0 c1 N (0 : Int32) A' ∧ (∀ c z, (c < c0 + 30 + j ∨ c0 + 30 + r ≤ c) → gI A' c z = gI A c z ∧ gL A' c z = gL A c z) ∧ (∀ i, j ≤ i → i < r → (∀ z, z < 3 → gI A' (c0 + 30 + i) z = gI A (c1 + 30 + i) z) ∧ gL A' (c0 + 30 + i) 3 = gL A (c1 + 30 + i) 3) := by
  intro fu
  induction fu with
  | zero => intro j A h0 h1 h2; omega
  | succ fu ih =>
    intro j A h0 h1 h2
    rw [F_X0_copyFrom_116, h0]
    simp (disch := omega) only [nIl]
    by_cases hj : r ≤ j
    · rw [if_pos hj]
      exact ⟨A, rfl, fun _ _ _ => ⟨rfl, rfl⟩, fun i h3 h4 => by omega⟩
    · rw [if_neg hj, gd_ib (by omega) (by omega), ixn (by omega), show c0 + 4 + 26 + j = c0 + 30 + j by omega, show c1 + 4 + 26 + j = c1 + 30 + j by omega, nI_1]
      obtain ⟨A1, t1, t2, t3, t4, t5⟩ := cpR (N := N) (c0 := c0 + 30 + j) (c1 := c1 + 30 + j) (A := A) (by omega)
      rw [t1, bn1_e]
      obtain ⟨A', q1, q2, q4⟩ := ih (j + 1) A1 (by rw [t2 _ _ (by omega)]; exact h0) (by omega) (by omega)
      refine ⟨A', q1, fun c z h3 => ?_, fun i h3 h4 => ?_⟩
      · rw [(q2 c z (by omega)).1, (q2 c z (by omega)).2, t2 c z (by omega), t3 c z (by omega)]
        exact ⟨rfl, rfl⟩
      · by_cases e : i = j
        · subst e
          refine ⟨fun z z1 => ?_, ?_⟩
          · rw [(q2 _ _ (by omega)).1, t4 z z1]
          · rw [(q2 _ _ (by omega)).2, t5]
        · obtain ⟨w1, w2⟩ := q4 i (by omega) h4
          refine ⟨fun z z1 => ?_, ?_⟩
          · rw [w1 z z1, t2 _ _ (by omega)]
          · rw [w2, t3 _ _ (by omega)]
theorem cp_l1 (hd : c0 + 116 ≤ c1 ∨ c1 + 116 ≤ c0) (hs : m ≤ 24) : ∀ (fu j : Nat) (A : MM), gI A c0 4 = nI m → j ≤ m → m < j + fu → ∃ A', F_X0_copyFrom_85 N c0 c1 fu (nI j) A = F_X0_copyFrom_116 N c0 c1 N (0 : Int32) A' ∧ (∀ c z, (c < c0 + 6 + j ∨ c0 + 6 + m ≤ c) → gI A' c z = gI A c z ∧ gL A' c z = gL A c z) ∧ (∀ i, j ≤ i → i < m → (∀ z, (z = 0 ∨ z = 3 ∨ z = 6) → gI A' (c0 + 6 + i) z = gI A (c1 + 6 + i) z) ∧ (∀ z, (z = 4 ∨ z = 5) → gI A' (c0 + 6 + i) z = bo (gI A (c1 + 6 + i) z)) ∧ (∀ z, (z = 1 ∨ z = 2) → gL A' (c0 + 6 + i) z = gL A (c1 + 6 + i) z)) := by
  intro fu
  induction fu with
  | zero => intro j A h0 h1 h2; omega
  | succ fu ih =>
    intro j A h0 h1 h2
    rw [F_X0_copyFrom_85, h0]
    simp (disch := omega) only [nIl]
    by_cases hj : m ≤ j
    · rw [if_pos hj]
      exact ⟨A, rfl, fun _ _ _ => ⟨rfl, rfl⟩, fun i h3 h4 => by omega⟩
    · rw [if_neg hj, gd_ib (by omega) (by omega), ixn (by omega), show c0 + 3 + 3 + j = c0 + 6 + j by omega, show c1 + 3 + 3 + j = c1 + 6 + j by omega, nI_1]
      obtain ⟨A1, t1, t2, t3, t4, t5, t6⟩ := cpM (N := N) (c0 := c0 + 6 + j) (c1 := c1 + 6 + j) (A := A) (by omega)
      rw [t1, bn1_e]
      obtain ⟨A', q1, q2, q4⟩ := ih (j + 1) A1 (by rw [t2 _ _ (by omega)]; exact h0) (by omega) (by omega)
      refine ⟨A', q1, fun c z h3 => ?_, fun i h3 h4 => ?_⟩
      · rw [(q2 c z (by omega)).1, (q2 c z (by omega)).2, t2 c z (by omega), t3 c z (by omega)]
        exact ⟨rfl, rfl⟩
      · by_cases e : i = j
        · subst e
          refine ⟨fun z z1 => ?_, fun z z1 => ?_, fun z z1 => ?_⟩
          · rw [(q2 _ _ (by omega)).1, t4 z z1]
          · rw [(q2 _ _ (by omega)).1, t5 z z1]
          · rw [(q2 _ _ (by omega)).2, t6 z z1]
        · obtain ⟨w1, w2, w3⟩ := q4 i (by omega) h4
          refine ⟨fun z z1 => ?_, fun z z1 => ?_, fun z z1 => ?_⟩
          · rw [w1 z z1, t2 _ _ (by omega)]
          · rw [w2 z z1, t2 _ _ (by omega)]
          · rw [w3 z z1, t3 _ _ (by omega)]
end CopyLoops
theorem gIcpI {M : MM} {a b k c j : Nat} : gI (cpI M a b k) c j = if c = b ∧ j < k then gI M a j else gI M c j := rfl
theorem gLcpI {M : MM} {a b k : Nat} : gL (cpI M a b k) = gL M := rfl
set_option maxHeartbeats 8000000 in
theorem copy_spec {N c0 c1 m r s : Nat} {A : MM} (hN : 6000 ≤ N) (h0 : 1 ≤ c0) (h1 : 1 ≤ c1) (hd : c0 + 116 ≤ c1 ∨ c1 + 116 ≤ c0) (hc : cap m r s) (hm : gI A c1 4 = nI m) (hr : gI A c1 5 = nI r) (hs : gI A c1 6 = nI s) : ∃ A', F_X0_copyFrom N c0 c1 A = some A' ∧ (∀ c j, (c < c0 ∨ c0 + 116 ≤ c) → gI A' c j = gI A c j ∧ gL A' c j = gL A c j) ∧ (∀ c j, vI m r s c j → gI A' (c0 - 1 + c) j = gI A (c1 - 1 + c) j) ∧ (∀ c j, vZ m s c j → gI A' (c0 - 1 + c) j = bo (gI A (c1 - 1 + c) j)) ∧ (∀ c j, vL m r s c j → gL A' (c0 - 1 + c) j = gL A (c1 - 1 + c) j) := by
  obtain ⟨k1, k2, k3⟩ := hc
  obtain ⟨A1, hA1⟩ : ∃ A1, A1 = sL (sL (sL (sI (sI (sI (sI (sI (sI (cpI A (c1 + 1 + 1) (c0 + 1 + 1) 111) c0 4 (nI m)) c0 5 (nI r)) c0 6 (nI s)) c0 7 (gI A c1 7)) c0 8 (gI A c1 8)) c0 9 (gI A c1 9)) c0 10 (gL A c1 10)) c0 11 (gL A c1 11)) c0 12 (gL A c1 12) := ⟨_, rfl⟩
  have hcI : ∀ j, j ≤ 12 → gI (cpI A (c1 + 1 + 1) (c0 + 1 + 1) 111) c1 j = gI A c1 j := fun j _ => by rw [gIcpI, if_neg (by omega)]
  have hst : F_X0_copyFrom N c0 c1 A = F_X0_copyFrom_85 N c0 c1 N (0 : Int32) A1 := by
    rw [F_X0_copyFrom, F_X4_copyFrom, bnd_e, bn1_e]
    simp (disch := omega) only [bnd_e, gIn, gIsL, gLn, gLsI, hcI, hm, hr, hs, gLcpI]
    rw [← hA1]
  have u1 : ∀ c j, c ≠ c0 → c ≠ c0 + 2 → gI A1 c j = gI A c j := fun c j q q' => by
    rw [hA1]
    simp (disch := omega) only [gIsL, gIn]
    rw [gIcpI, if_neg (by omega)]
  have u2 : ∀ c j, c ≠ c0 → gL A1 c j = gL A c j := fun c j q => by
    rw [hA1]
    simp (disch := omega) only [gLsI, gLn, gLcpI]
  have u3 : ∀ j, j ≤ 110 → gI A1 (c0 + 2) j = gI A (c1 + 2) j := fun j q => by
    rw [hA1]
    simp (disch := omega) only [gIsL, gIn]
    rw [gIcpI, if_pos (by omega)]
  have u4 : ∀ j, 4 ≤ j → j ≤ 9 → gI A1 c0 j = gI A c1 j := fun j q q' => by
    rw [hA1]
    rcases (show j = 4 ∨ j = 5 ∨ j = 6 ∨ j = 7 ∨ j = 8 ∨ j = 9 by omega) with rfl | rfl | rfl | rfl | rfl | rfl
    all_goals simp (disch := omega) only [gIsL, gIn, gIe, hm, hr, hs]
  have u5 : ∀ j, 10 ≤ j → j ≤ 12 → gL A1 c0 j = gL A c1 j := fun j q q' => by
    rw [hA1]
    rcases (show j = 10 ∨ j = 11 ∨ j = 12 by omega) with rfl | rfl | rfl
    all_goals simp (disch := omega) only [gLn, gLe]
  obtain ⟨A2, q1, q2, q3⟩ := cp_l1 (N := N) (m := m) hd k1 N 0 A1 (by rw [u4 4 (by omega) (by omega)]; exact hm) (by omega) (by omega)
  obtain ⟨A3, q4, q5, q6⟩ := cp_l2 (N := N) (r := r) hd k2 N 0 A2 (by rw [(q2 _ _ (by omega)).1, u4 5 (by omega) (by omega)]; exact hr) (by omega) (by omega)
  obtain ⟨A4, q7, q8, q9, q10⟩ := cp_l3 (N := N) (s := s) hd k3 N 0 A3 (by rw [(q5 _ _ (by omega)).1, (q2 _ _ (by omega)).1, u4 6 (by omega) (by omega)]; exact hs) (by omega) (by omega)
  have q1' : F_X0_copyFrom_85 N c0 c1 N (0 : Int32) A1 = F_X0_copyFrom_116 N c0 c1 N (0 : Int32) A2 := q1
  have q4' : F_X0_copyFrom_116 N c0 c1 N (0 : Int32) A2 = F_X0_copyFrom_147 N c0 c1 N (0 : Int32) A3 := q4
  have q7' : F_X0_copyFrom_147 N c0 c1 N (0 : Int32) A3 = some A4 := q7
  refine ⟨A4, by rw [hst, q1', q4', q7'], fun c j q => ⟨?_, ?_⟩, fun c j q => ?_, fun c j q => ?_, fun c j q => ?_⟩
  · rw [q8 c j (by omega), (q5 c j (by omega)).1, (q2 c j (by omega)).1, u1 c j (by omega) (by omega)]
  · rw [q9 c j (by omega) (by omega), (q5 c j (by omega)).2, (q2 c j (by omega)).2, u2 c j (by omega)]
  · rcases q with ⟨rfl, q⟩ | ⟨rfl, q⟩ | q | q | q
    · rw [q8 _ _ (by omega), (q5 _ _ (by omega)).1, (q2 _ _ (by omega)).1, show c0 - 1 + 3 = c0 + 2 by omega, show c1 - 1 + 3 = c1 + 2 by omega, u3 j q]
    · rw [q8 _ _ (by omega), (q5 _ _ (by omega)).1, (q2 _ _ (by omega)).1, show c0 - 1 + 1 = c0 by omega, show c1 - 1 + 1 = c1 by omega, u4 j q.1 q.2]
    · rw [q8 _ _ (by omega), (q5 _ _ (by omega)).1, show c0 - 1 + c = c0 + 6 + (c - 7) by omega, show c1 - 1 + c = c1 + 6 + (c - 7) by omega, (q3 (c - 7) (by omega) (by omega)).1 j q.2.2, u1 _ _ (by omega) (by omega)]
    · rw [q8 _ _ (by omega), show c0 - 1 + c = c0 + 30 + (c - 31) by omega, show c1 - 1 + c = c1 + 30 + (c - 31) by omega, (q6 (c - 31) (by omega) (by omega)).1 j q.2.2, (q2 _ _ (by omega)).1, u1 _ _ (by omega) (by omega)]
    · rw [show c0 - 1 + c = c0 + 36 + (c - 37) by omega, show c1 - 1 + c = c1 + 36 + (c - 37) by omega, (q10 (c - 37) (by omega) (by omega)).1 j q.2.2.1 q.2.2.2.1 q.2.2.2.2.1 q.2.2.2.2.2.1 q.2.2.2.2.2.2, (q5 _ _ (by omega)).1, (q2 _ _ (by omega)).1, u1 _ _ (by omega) (by omega)]
  · rcases q with q | ⟨qa, qb, rfl⟩
    · rw [q8 _ _ (by omega), (q5 _ _ (by omega)).1, show c0 - 1 + c = c0 + 6 + (c - 7) by omega, show c1 - 1 + c = c1 + 6 + (c - 7) by omega, (q3 (c - 7) (by omega) (by omega)).2.1 j q.2.2, u1 _ _ (by omega) (by omega)]
    · rw [show c0 - 1 + c = c0 + 36 + (c - 37) by omega, show c1 - 1 + c = c1 + 36 + (c - 37) by omega, (q10 (c - 37) (by omega) (by omega)).2.1, (q5 _ _ (by omega)).1, (q2 _ _ (by omega)).1, u1 _ _ (by omega) (by omega)]
  · rcases q with ⟨rfl, q⟩ | q | ⟨qa, qb, rfl⟩ | q | q
    · rw [q9 _ _ (by omega) (by omega), (q5 _ _ (by omega)).2, (q2 _ _ (by omega)).2, show c0 - 1 + 1 = c0 by omega, show c1 - 1 + 1 = c1 by omega, u5 j q.1 q.2]
    · rw [q9 _ _ (by omega) (by omega), (q5 _ _ (by omega)).2, show c0 - 1 + c = c0 + 6 + (c - 7) by omega, show c1 - 1 + c = c1 + 6 + (c - 7) by omega, (q3 (c - 7) (by omega) (by omega)).2.2 j q.2.2, u2 _ _ (by omega)]
    · rw [q9 _ _ (by omega) (by omega), show c0 - 1 + c = c0 + 30 + (c - 31) by omega, show c1 - 1 + c = c1 + 30 + (c - 31) by omega, (q6 (c - 31) (by omega) (by omega)).2, (q2 _ _ (by omega)).2, u2 _ _ (by omega)]
    · rw [show c0 - 1 + c = c0 + 36 + (c - 37) by omega, show c1 - 1 + c = c1 + 36 + (c - 37) by omega, (q10 (c - 37) (by omega) (by omega)).2.2.1 j q.2.2, (q5 _ _ (by omega)).2, (q2 _ _ (by omega)).2, u2 _ _ (by omega)]
    · rw [show c0 - 1 + c = c0 + 76 + (c - 77) by omega, show c1 - 1 + c = c1 + 76 + (c - 77) by omega, (q10 (c - 77) (by omega) (by omega)).2.2.2 j q.2.2, (q5 _ _ (by omega)).2, (q2 _ _ (by omega)).2, u2 _ _ (by omega)]
theorem keep_B {N : Nat} : ∀ (fu j : Nat) (B : MM), j ≤ 5672 → 5672 < j + fu → ∃ B1, F_X6_keep_2 N fu (nI j) B = some (1, sI B1 0 2 1) ∧ gL B1 1 = gL B 1 ∧ (∀ q, gL B1 2 q = if j ≤ q ∧ q < 5672 then gL B 1 q else gL B 2 q) ∧ gI B1 = gI B := by
  intro fu
  induction fu with
  | zero => intro j B h1 h2; omega
  | succ fu ih =>
    intro j B h1 h2
    rw [F_X6_keep_2]
    have e60 : ((5672 : Int32) ≤ nI j) = (5672 ≤ j) := nIl (a := 5672) (by omega) (by omega)
    simp only [e60]
    by_cases hj : 5672 ≤ j
    · rw [if_pos hj]
      exact ⟨B, rfl, rfl, fun q => by rw [if_neg (by omega)], rfl⟩
    · rw [if_neg hj, gd_ib (by omega) (by omega), bnd_e, ixn (by omega), nI_1]
      obtain ⟨B1, q1, q2, q3, q4⟩ := ih (j + 1) (sL B 2 j (gL B 1 j)) (by omega) (by omega)
      refine ⟨B1, q1, by rw [q2, gL_ne (by decide)], fun q => ?_, q4⟩
      rw [q3 q]
      by_cases e1 : q = j
      · subst e1
        rw [if_neg (by omega), gLe, if_pos (by omega)]
      · by_cases e2 : j + 1 ≤ q ∧ q < 5672
        · rw [if_pos e2, if_pos (by omega), gLn (by omega)]
        · rw [if_neg e2, if_neg (by omega), gLn (by omega)]
theorem back_B {N : Nat} : ∀ (fu j : Nat) (B : MM), j ≤ 5672 → 5672 < j + fu → ∃ B1, F_X6_back_13 N fu (nI j) B = some (1, B1) ∧ gL B1 2 = gL B 2 ∧ (∀ q, gL B1 1 q = if j ≤ q ∧ q < 5672 then gL B 2 q else gL B 1 q) ∧ gI B1 = gI B := by
  intro fu
  induction fu with
  | zero => intro j B h1 h2; omega
  | succ fu ih =>
    intro j B h1 h2
    rw [F_X6_back_13]
    have e60 : ((5672 : Int32) ≤ nI j) = (5672 ≤ j) := nIl (a := 5672) (by omega) (by omega)
    simp only [e60]
    by_cases hj : 5672 ≤ j
    · rw [if_pos hj]
      exact ⟨B, rfl, rfl, fun q => by rw [if_neg (by omega)], rfl⟩
    · rw [if_neg hj, gd_ib (by omega) (by omega), bnd_e, ixn (by omega), nI_1]
      obtain ⟨B1, q1, q2, q3, q4⟩ := ih (j + 1) (sL B 1 j (gL B 2 j)) (by omega) (by omega)
      refine ⟨B1, q1, by rw [q2, gL_ne (by decide)], fun q => ?_, q4⟩
      rw [q3 q]
      by_cases e1 : q = j
      · subst e1
        rw [if_neg (by omega), gLe, if_pos (by omega)]
      · by_cases e2 : j + 1 ≤ q ∧ q < 5672
        · rw [if_pos e2, if_pos (by omega), gLn (by omega)]
        · rw [if_neg e2, if_neg (by omega), gLn (by omega)]
theorem shm_I {A : MM} {c j : Nat} : gI (shm A) c j = gI A (c + 116) j := rfl
theorem shm_L {A : MM} {c j : Nat} : gL (shm A) c j = gL A (c + 116) j := rfl
theorem wB_L {w : Nat → Int64} {q : Nat} : gL (wB w) 1 q = w q := by
  show (if 1 = 1 then w q else 0) = w q
  rw [if_pos rfl]
theorem vI_c {m r s c j : Nat} (hc : cap m r s) (h : vI m r s c j) : 1 ≤ c ∧ c < 117 := by
  obtain ⟨q1, q2, q3⟩ := hc
  unfold vI at h
  omega
theorem vZ_c {m r s c j : Nat} (hc : cap m r s) (h : vZ m s c j) : 1 ≤ c ∧ c < 117 := by
  obtain ⟨q1, q2, q3⟩ := hc
  unfold vZ at h
  omega
theorem vL_c {m r s c j : Nat} (hc : cap m r s) (h : vL m r s c j) : 1 ≤ c ∧ c < 117 := by
  obtain ⟨q1, q2, q3⟩ := hc
  unfold vL at h
  omega
/-- all is kept, out of a memory whose first book is A's -/
theorem keep_core {N k : Nat} (hN : 6000 ≤ N) {K : KT} {m r s y : Nat} {A B X : MM} (h : BR k K m r s y A B) (hI : ∀ c j, c < 117 → gI X c j = gI A c j) (hL : ∀ c j, c < 117 → gL X c j = gL A c j) : ∃ (A' B' : MM), F_X0_copyFrom N 117 1 X = some A' ∧ F_X6_keep N B = some (1, B') ∧ Rel (k + 1) 233 A' B' := by
  have h00 := h
  obtain ⟨he, hs, -⟩ := h
  have hc := he.1
  obtain ⟨A', a1, a2, a3, a4, a5⟩ := copy_spec (N := N) (c0 := 117) (c1 := 1) (A := X) hN (by omega) (by omega) (by omega) hc (by rw [hI _ _ (by omega)]; exact hs.1) (by rw [hI _ _ (by omega)]; exact hs.2.1) (by rw [hI _ _ (by omega)]; exact hs.2.2.1)
  obtain ⟨B1, b1, b2, b3, b4⟩ := keep_B (N := N) N 0 B (by omega) (by omega)
  have b1' : F_X6_keep N B = some (1, sI B1 0 2 1) := b1
  refine ⟨A', sI B1 0 2 1, a1, b1', Or.inr rfl, (A', gL B1 2, gI (sI B1 0 2 1) 0), m, r, s, y, ?_, fun q => by omega, fun _ => ⟨?_, ?_⟩⟩
  · refine BR.up (h00.same ⟨fun c j q => ?_, fun c j q => ?_, fun c j q => ?_⟩ (fun q _ => ?_) (fun c j _ => ⟨rfl, rfl⟩) rfl rfl)
    · have w := vI_c hc q
      rw [(a2 c j (by omega)).1, hI c j w.2]
    · have w := vZ_c hc q
      rw [(a2 c j (by omega)).1, hI c j w.2]
    · have w := vL_c hc q
      rw [(a2 c j (by omega)).2, hL c j w.2]
    · show gL B1 1 q = _
      rw [b2]
  · show gI (sI B1 0 2 1) 0 2 = 1
    exact gIe
  · refine ⟨(shm A', gL (wB (gL B1 2)) 2, gI (wB (gL B1 2)) 0), m, r, s, y, BR.up (h00.same ⟨fun c j q => ?_, fun c j q => ?_, fun c j q => ?_⟩ (fun q hq => ?_) (fun c j _ => ⟨rfl, rfl⟩) rfl rfl)⟩
    · have w := vI_c hc q
      show gI (shm A') c j = _
      rw [shm_I, show c + 116 = 117 - 1 + c by omega, a3 c j q, show 1 - 1 + c = c by omega, hI c j w.2]
    · have w := vZ_c hc q
      show bo (gI (shm A') c j) = _
      rw [shm_I, show c + 116 = 117 - 1 + c by omega, a4 c j q, bo_bo, show 1 - 1 + c = c by omega, hI c j w.2]
    · have w := vL_c hc q
      show gL (shm A') c j = _
      rw [shm_L, show c + 116 = 117 - 1 + c by omega, a5 c j q, show 1 - 1 + c = c by omega, hL c j w.2]
    · show gL (wB (gL B1 2)) 1 q = _
      rw [wB_L, b3, if_pos (by omega)]
theorem sim_keep {N : Nat} (hN : 6000 ≤ N) : Sim_keep N Rel := by
  intro k n A B hk hR
  obtain ⟨hn, K, m, r, s, y, hB, hK1, hK2⟩ := hR
  refine ⟨fun _ => ?_, fun _ => ?_⟩
  · refine keep_core hN hB (fun c j h => ?_) (fun c j h => ?_)
    · show (if c < 117 then A.1 c j else M0.1 c j) = _
      rw [if_pos h]; rfl
    · show (if c < 117 then A.2 c j else M0.2 c j) = _
      rw [if_pos h]; rfl
  · exact keep_core hN hB (fun _ _ _ => rfl) (fun _ _ _ => rfl)
theorem sim_back {N : Nat} (hN : 6000 ≤ N) : Sim_back N Rel := by
  intro k n A B hk hR
  have hR2 := hR.up
  obtain ⟨hn, K, m, r, s, y, hB, hK1, hK2⟩ := hR
  obtain ⟨he, -⟩ := hB
  have e02 : gI B 0 2 = K.2.2 2 := by rw [he.2.2.2.2]
  refine ⟨fun q => ?_, fun q => ?_⟩
  · refine ⟨B, ?_, by rw [← q]; exact hR2⟩
    rw [F_X6_back, e02, hK1 q, if_pos (by decide)]
  · obtain ⟨g1, K2, m', r', s', y', g2⟩ := hK2 q
    have g20 := g2
    obtain ⟨he', hs', -⟩ := g2
    have hc := he'.1
    have hsh : ∀ c j, 117 ≤ c → gI A c j = gI K.1 c j ∧ gL A c j = gL K.1 c j := he.2.2.1
    obtain ⟨A', a1, a2, a3, a4, a5⟩ := copy_spec (N := N) (c0 := 1) (c1 := 117) (A := A) (m := m') (r := r') (s := s') hN (by omega) (by omega) (by omega) hc (by rw [(hsh _ _ (by omega)).1]; exact hs'.1) (by rw [(hsh _ _ (by omega)).1]; exact hs'.2.1) (by rw [(hsh _ _ (by omega)).1]; exact hs'.2.2.1)
    obtain ⟨B1, b1, b2, b3, b4⟩ := back_B (N := N) N 0 B (by omega) (by omega)
    have b1' : F_X6_back_13 N N (0 : Int32) B = some (1, B1) := b1
    refine ⟨A', B1, a1, ?_, Or.inr rfl, K, m', r', s', y', ?_, fun z => by omega, fun _ => ⟨g1, (hK2 q).2.up⟩⟩
    · rw [F_X6_back, e02, g1, if_neg (by decide), b1']
    · refine BR.up (g20.same ⟨fun c j w => ?_, fun c j w => ?_, fun c j w => ?_⟩ (fun z hz => ?_) (fun c j w => ?_) ?_ ?_)
      · have w' := vI_c hc w
        have q3 := a3 c j w
        rw [show 1 - 1 + c = c by omega, show 117 - 1 + c = c + 116 by omega, (hsh _ _ (by omega)).1] at q3
        exact q3
      · have w' := vZ_c hc w
        have q3 := a4 c j w
        rw [show 1 - 1 + c = c by omega, show 117 - 1 + c = c + 116 by omega, (hsh _ _ (by omega)).1] at q3
        rw [q3, bo_bo]; rfl
      · have w' := vL_c hc w
        have q3 := a5 c j w
        rw [show 1 - 1 + c = c by omega, show 117 - 1 + c = c + 116 by omega, (hsh _ _ (by omega)).2] at q3
        exact q3
      · rw [b3, if_pos (by omega), wB_L, he.2.2.2.1]
      · rw [(a2 c j (by omega)).1, (a2 c j (by omega)).2]
        exact hsh c j w
      · rw [b2]; exact he.2.2.2.1
      · rw [b4]; exact he.2.2.2.2
/-! ===== the start ===== -/
theorem t0_w : ∀ j, j < 111 → w0 j = (t0 j).toInt64 ∧ 0 ≤ (t0 j).toInt ∧ (t0 j).toInt ≤ 100000 := by decide +kernel
theorem M0_3 {j : Nat} : gI M0 3 j = t0 j := by
  show (if kd 3 = 7 then t0 j else if kd 3 = 0 ∧ j = 8 then 2 else 0) = t0 j
  rw [if_pos (by decide)]
theorem M0_1 {j : Nat} : gI M0 1 j = if j = 8 then 2 else 0 := by
  show (if kd 1 = 7 then t0 j else if kd 1 = 0 ∧ j = 8 then 2 else 0) = _
  rw [if_neg (by decide)]
  by_cases h : j = 8
  · rw [if_pos ⟨by decide, h⟩, if_pos h]
  · rw [if_neg (fun q => h q.2), if_neg h]
theorem rel_start : Rel 0 117 M0 B0 := by
  have hB : ∀ q, gL B0 1 q = w0 q := fun q => by
    show (if 1 = 1 then w0 q else 0) = w0 q
    rw [if_pos rfl]
  refine ⟨Or.inl rfl, (M0, gL B0 2, gI B0 0), 0, 0, 0, 0, ⟨⟨⟨by omega, by omega, by omega⟩, fun c k hv => ?_, fun _ _ _ => ⟨rfl, rfl⟩, rfl, rfl⟩, ?_, fun z hz => ?_, fun i hi => by omega, fun i hi => by omega, fun i hi => by omega, fun i hi => by omega, ?_, fun i hi => by omega⟩, fun _ => rfl, fun q => by omega⟩
  · have hv2 : (c = 3 ∧ k ≤ 110) ∨ (c = 1 ∧ 4 ≤ k ∧ k ≤ 12) := by unfold val at hv; omega
    rcases hv2 with ⟨rfl, hk⟩ | ⟨rfl, hk1, hk2⟩
    · rw [hB, show enc 3 k = k from rfl, (t0_w k (by omega)).1]
      unfold rd
      rw [if_neg (by simp [isL]), if_neg (by simp [isZ]), M0_3]
    · rw [hB]
      rcases (show k = 4 ∨ k = 5 ∨ k = 6 ∨ k = 7 ∨ k = 8 ∨ k = 9 ∨ k = 10 ∨ k = 11 ∨ k = 12 by omega) with rfl | rfl | rfl | rfl | rfl | rfl | rfl | rfl | rfl
      all_goals decide +kernel
  · unfold R_s
    rw [M0_1, M0_1, M0_1, M0_1, M0_1]
    exact ⟨rfl, rfl, rfl, rfl, by omega, by decide, by decide⟩
  · rw [M0_3]
    exact (t0_w z (by omega)).2
  · unfold R_f
    exact ⟨by decide, by decide⟩

/-! ===== how a share stands ===== -/
def pB (A : MM) (j : Nat) : Bool := !(decide (gI A (7 + j) 4 = 0))
def dB (A : MM) (j : Nat) : Bool := !(decide (gI A (7 + j) 5 = 0))
theorem bo0 (x : Int32) : (bo x = 0) = (x = 0) := by
  unfold bo
  by_cases h : x = 0
  · simp [h]
  · simp [h]
theorem bo1 (x : Int32) : ((bo x).toInt64 = 1) = ¬ x = 0 := by
  unfold bo
  by_cases h : x = 0
  · rw [if_pos h]; simp [h]
  · rw [if_neg h]; simp [h]
theorem m1_ne {j : Nat} (h : j < 6000) : ¬ (-1 : Int32) = nI j := fun q => by
  have := congrArg Int32.toInt q
  rw [nI_toInt (by omega), show (-1 : Int32).toInt = -1 from rfl] at this
  omega
theorem ib_m1 {n : Nat} : ib (-1) n = false := by
  rw [Bool.eq_false_iff]
  intro h
  have := (ibm.mp h).1
  rw [show (-1 : Int32).toInt = -1 from rfl] at this
  omega
section Stands
variable {K : KT} {m r s y N i : Nat} {A B : MM}
theorem dead_A (hs : R_s m r s y A) (c1 : m ≤ 24) {j : Nat} (hj : j < m) : F_X0_isDead N (nI j) A = some (dB A j) := by
  rw [F_X0_isDead, isM_A hs.1 (by omega), ib_nI hj (by omega), bIt, gd_ib (by omega) (by omega), ixn (by omega)]
  simp only [bo0]
  unfold dB
  by_cases h : gI A (7 + j) 5 = 0 <;> simp [h]
theorem prov_A (hs : R_s m r s y A) (c1 : m ≤ 24) {j : Nat} (hj : j < m) : F_X0_isProved N (nI j) A = some (pB A j) := by
  rw [F_X0_isProved, isM_A hs.1 (by omega), ib_nI hj (by omega), bIt, gd_ib (by omega) (by omega), ixn (by omega)]
  simp only [bo0]
  unfold pB
  by_cases h : gI A (7 + j) 4 = 0 <;> simp [h]
theorem prov_N (hs : R_s m r s y A) (c1 : m ≤ 24) : F_X0_isProved N (-1) A = some false := by
  rw [F_X0_isProved, isM_A hs.1 (by omega), ib_m1, bIf]
theorem dead_B (he : Eqv K m r s A B) {j : Nat} (hj : j < m) : F_X6_isDead N (lN j) B = some (dB A j) := by
  have c1 : m ≤ 24 := he.1.1
  rw [F_X6_isDead, lNi, cellOf_5, gd_ib (by omega) (by omega), ixn (by omega), he.m5 hj]
  simp only [bo1]
  unfold dB
  by_cases h : gI A (7 + j) 5 = 0 <;> simp [h]
theorem hasL (he : Eqv K m r s A B) (hi : i < s) (x : Int32) : F_X6_hasLife N (nI i) x B = some (F_X3_hasLife (37 + i) x A) := by
  have c3 : s ≤ 40 := he.1.2.2
  rw [F_X6_hasLife, F_X3_hasLife, part_1, part_2]
  simp (disch := omega) only [gd_ib, ixn, he.s1 hi, he.s2 hi, weq]
  split
  · rfl
  · split <;> rfl
theorem hasL_iff {x : Int32} : F_X3_hasLife (37 + i) x A = true ↔ (gI A (37 + i) 1 = x ∨ gI A (37 + i) 2 = x) := by
  rw [F_X3_hasLife]
  by_cases h1 : gI A (37 + i) 1 = x <;> by_cases h2 : gI A (37 + i) 2 = x <;> simp [h1, h2]
def aD (A : MM) (i : Nat) (li : Nat) : Bool := dB A li && (decide (gI A (37 + i) 2 = -1) || dB A (ix (gI A (37 + i) 2)))
theorem allD_A (hs : R_s m r s y A) (c1 : m ≤ 24) {li : Nat} (h1 : gI A (37 + i) 1 = nI li) (hl : li < m) (ho : R_o m A i) : F_X0_isAllDead N (37 + i) A = some (aD A i li) := by
  rw [F_X0_isAllDead, h1, dead_A hs c1 hl, bn1_e]
  unfold aD
  cases hd : dB A li with
  | false => rw [bIf]; rfl
  | true =>
    rw [bIt]
    rcases ho with h | ⟨j, hj, h⟩
    · rw [h, if_pos rfl]; rfl
    · rw [h, if_neg (fun q => m1_ne (by omega) q.symm), dead_A hs c1 hj, bn1_e, ixn (by omega)]
      have hne : ¬ nI j = -1 := fun q => m1_ne (by omega) q.symm
      cases dB A j <;> simp [bI, hne]
theorem lN_toInt' {q : Nat} (h : q < 6000) : (lN q).toInt = q := pk_lT (by omega)
theorem allD_B (he : Eqv K m r s A B) (hi : i < s) {li : Nat} (h1 : gI A (37 + i) 1 = nI li) (hl : li < m) (ho : R_o m A i) : F_X6_areDead N (nI i) B = some (aD A i li) := by
  have c1 : m ≤ 24 := he.1.1
  have c3 : s ≤ 40 := he.1.2.2
  rw [F_X6_areDead, part_1, part_2]
  simp (disch := omega) only [gd_ib, ixn, bnd_e, he.s1 hi, he.s2 hi, h1, nIw, dead_B he hl, bn1_e]
  unfold aD
  cases hd : dB A li with
  | false => rw [bIf]; rfl
  | true =>
    rw [bIt]
    rcases ho with h | ⟨j, hj, h⟩
    · rw [h, if_pos (by decide)]; rfl
    · rw [h, nIw (by omega), if_neg (by rw [Int64.lt_iff_toInt_lt, lN_toInt' (by omega), show (0 : Int64).toInt = 0 from rfl]; omega), dead_B he hj, bn1_e, ixn (by omega)]
      have hne : ¬ nI j = -1 := fun q => m1_ne (by omega) q.symm
      cases dB A j <;> simp [bI, hne]
theorem sure_B (he : Eqv K m r s A B) (hi : i < s) {kn si su z : Nat} (h5 : gI A (37 + i) 5 = nI kn) (h8 : gI A (37 + i) 8 = nI si) (h9 : gL B 1 (303 + 14 * i + 9) = lN (su - si)) (hk : kn ≤ 3) (hsu : si ≤ su) (hsu2 : su ≤ 90) (hz : z < 6000) : F_X6_isSure N (nI i) (lN z) B = some (decide (1 < kn) && decide (z < su)) := by
  have c3 : s ≤ 40 := he.1.2.2
  rw [F_X6_isSure, part_5, part_8, part_9]
  simp (disch := omega) only [gd_ib, ixn, he.s5 hi, he.s8 hi, h5, h8, h9, nIw, lN_add, show si + (su - si) = su by omega]
  have e1 : (lN kn ≤ (1 : Int64)) = (kn ≤ 1) := lNl (b := 1) (by omega) (by omega)
  by_cases a1 : kn ≤ 1
  · rw [if_pos (e1 ▸ a1)]
    simp [Nat.not_lt.mpr a1]
  · rw [if_neg (e1 ▸ a1)]
    simp (disch := omega) only [lNl]
    by_cases a2 : su ≤ z
    · rw [if_pos a2]
      simp [Nat.not_lt.mpr a2]
    · rw [if_neg a2]
      simp [Nat.lt_of_not_le a1, Nat.lt_of_not_le a2]
/-- the reference's search for a proved life -/
theorem prvLoop (he : Eqv K m r s A B) (hs : R_s m r s y A) (hi : i < s) {T : Option Int32} (hT : T = (bn1 (F_X6_isSure N (nI i) (gL B 1 5663) B) (fun x3 => if bI x3 = (0 : Int32) then bn1 (F_X6_areDead N (nI i) B) (fun x5 => if bI x5 = (0 : Int32) then gd (ib (F_X6_part (nI i) (10 : Int32)) 5672) (if gL B 1 5666 ≤ gL B 1 (ix (F_X6_part (nI i) (10 : Int32))) then some (2 : Int32) else some (1 : Int32)) else some (3 : Int32)) else some (0 : Int32)))) : ∀ (fu j : Nat) (v : Int32), j ≤ m → m < j + fu → (v = 0 ∨ v = 1) → ((v = 1 ∨ ∃ q, j ≤ q ∧ q < m ∧ F_X3_hasLife (37 + i) (nI q) A = true ∧ pB A q = true) → F_X6_stands_4 N (nI i) fu v (nI j) B = some 0) ∧ (¬ (v = 1 ∨ ∃ q, j ≤ q ∧ q < m ∧ F_X3_hasLife (37 + i) (nI q) A = true ∧ pB A q = true) → F_X6_stands_4 N (nI i) fu v (nI j) B = T) := by
  have c1 : m ≤ 24 := he.1.1
  have c3 : s ≤ 40 := he.1.2.2
  intro fu
  induction fu with
  | zero => intro j v h1 h2; omega
  | succ fu ih =>
    intro j v h1 h2 h3
    rw [F_X6_stands_4, he.cm hs, nIw (by omega)]
    simp (disch := omega) only [lNl]
    by_cases hj : m ≤ j
    · rw [if_pos hj]
      rcases h3 with rfl | rfl
      · rw [if_pos rfl]
        constructor
        · rintro (h | ⟨q, q1, q2, -⟩)
          · exact absurd h (by decide)
          · omega
        · intro _; exact hT.symm
      · rw [if_neg (by decide)]
        exact ⟨fun _ => rfl, fun h => absurd (Or.inl rfl) h⟩
    · rw [if_neg hj, nI_1]
      rcases h3 with rfl | rfl
      · rw [if_pos rfl, hasL he hi, bn1_e]
        have ih0 := ih (j + 1) 0 (by omega) (by omega) (Or.inl rfl)
        have up : ∀ (hn : ¬ (F_X3_hasLife (37 + i) (nI j) A = true ∧ pB A j = true)), ((0 : Int32) = 1 ∨ ∃ q, j ≤ q ∧ q < m ∧ F_X3_hasLife (37 + i) (nI q) A = true ∧ pB A q = true) ↔ ((0 : Int32) = 1 ∨ ∃ q, j + 1 ≤ q ∧ q < m ∧ F_X3_hasLife (37 + i) (nI q) A = true ∧ pB A q = true) := by
          intro hn
          constructor
          · rintro (h | ⟨q, q1, q2, q3, q4⟩)
            · exact Or.inl h
            · refine Or.inr ⟨q, ?_, q2, q3, q4⟩
              by_cases e : q = j
              · subst e; exact absurd ⟨q3, q4⟩ hn
              · omega
          · rintro (h | ⟨q, q1, q2, q3⟩)
            · exact Or.inl h
            · exact Or.inr ⟨q, by omega, q2, q3⟩
        cases hl : F_X3_hasLife (37 + i) (nI j) A with
        | false =>
          rw [bIf, up (by rw [hl]; rintro ⟨q, -⟩; cases q)]
          exact ih0
        | true =>
          rw [bIt, cellOf_4, gd_ib (by omega) (by omega), ixn (by omega), he.m4 (by omega)]
          simp only [bo1]
          by_cases hp : gI A (7 + j) 4 = 0
          · rw [if_neg (by simp [hp]), up (by rintro ⟨-, q⟩; unfold pB at q; simp [hp] at q)]
            exact ih0
          · rw [if_pos hp]
            have ih1 := (ih (j + 1) 1 (by omega) (by omega) (Or.inr rfl)).1 (Or.inl rfl)
            exact ⟨fun _ => ih1, fun h => absurd (Or.inr ⟨j, by omega, by omega, hl, by unfold pB; simp [hp]⟩) h⟩
      · rw [if_neg (by decide)]
        have ih1 := (ih (j + 1) 1 (by omega) (by omega) (Or.inr rfl)).1 (Or.inl rfl)
        exact ⟨fun _ => ih1, fun h => absurd (Or.inl rfl) h⟩
theorem prv_iff : prv m A i ↔ ∃ q, q < m ∧ F_X3_hasLife (37 + i) (nI q) A = true ∧ pB A q = true := by
  unfold prv pB
  constructor
  · rintro ⟨j, h1, h2, h3⟩
    exact ⟨j, h1, hasL_iff.mpr h2, by simp [h3]⟩
  · rintro ⟨j, h1, h2, h3⟩
    exact ⟨j, h1, hasL_iff.mp h2, by simpa using h3⟩
/-- both sides answer alike how a share stands -/
theorem stands_sim (hN : 6000 ≤ N) (he : Eqv K m r s A B) (hs : R_s m r s y A) (hi : i < s) {y2 ho li ra u kn si su un hf : Nat} (hv : R_v m r y2 A i ho li ra u kn si su un hf) (hO : R_o m A i) (hy2 : y2 ≤ 100) (hsy : si ≤ y) (hx : gL B 1 (303 + 14 * i + 9) = lN (su - si)) : ∃ h, F_X0_howItIs N (37 + i) A = some h ∧ F_X6_stands N (nI i) B = some h ∧ (h = 0 ↔ (prv m A i ∨ y < su)) ∧ (h = 0 ∨ h = 1 ∨ h = 2 ∨ h = 3) := by
  have c1 : m ≤ 24 := he.1.1
  have c3 : s ≤ 40 := he.1.2.2
  have hy : y ≤ 60 := hs.2.2.2.2.1
  obtain ⟨v0, v1, v4, v3, v5, v8, v9, v10, v14, r0, r1, r4, r3, r3', r5, r8, r9, r9', r95, r10, r14⟩ := hv
  have hB := prvLoop (N := N) he hs hi rfl N 0 (nI 0) (by omega) (by omega) (Or.inl rfl)
  have hpv : (nI 0 = 1 ∨ ∃ q, 0 ≤ q ∧ q < m ∧ F_X3_hasLife (37 + i) (nI q) A = true ∧ pB A q = true) ↔ prv m A i := by
    rw [prv_iff]
    constructor
    · rintro (h | ⟨q, -, q2, q3⟩)
      · exact absurd h (by decide)
      · exact ⟨q, q2, q3⟩
    · rintro ⟨q, q2, q3⟩; exact Or.inr ⟨q, by omega, q2, q3⟩
  rw [hpv] at hB
  have hB0 : F_X6_stands N (nI i) B = F_X6_stands_4 N (nI i) N (nI 0) (nI 0) B := rfl
  have hkey : (prv m A i) ↔ (pB A li = true ∨ ∃ j, j < m ∧ gI A (37 + i) 2 = nI j ∧ pB A j = true) := by
    unfold prv pB
    constructor
    · rintro ⟨j, h1, h2 | h2, h3⟩
      · rw [v1, nIe (by omega) (by omega)] at h2
        subst h2
        exact Or.inl (by simp [h3])
      · exact Or.inr ⟨j, h1, h2, by simp [h3]⟩
    · rintro (h | ⟨j, h1, h2, h3⟩)
      · exact ⟨li, r1, Or.inl v1, by simpa using h⟩
      · exact ⟨j, h1, Or.inr h2, by simpa using h3⟩
  have hA : ∃ po, F_X0_isProved N (gI A (37 + i) 2) A = some po ∧ (po = true ↔ ∃ j, j < m ∧ gI A (37 + i) 2 = nI j ∧ pB A j = true) := by
    rcases hO with h | ⟨j, hj, h⟩
    · refine ⟨false, by rw [h]; exact prov_N hs c1, ?_⟩
      constructor
      · intro q; cases q
      · rintro ⟨j, h1, h2, -⟩
        rw [h] at h2
        exact absurd h2 (m1_ne (by omega))
    · refine ⟨pB A j, by rw [h]; exact prov_A hs c1 hj, ?_⟩
      constructor
      · intro q; exact ⟨j, hj, h, q⟩
      · rintro ⟨j2, h1, h2, h3⟩
        rw [h, nIe (by omega) (by omega)] at h2
        rw [h2]; exact h3
  obtain ⟨po, hpo, hpo2⟩ := hA
  have hC : ((prv m A i ∨ y < su) → F_X0_howItIs N (37 + i) A = some 0) ∧ (¬ (prv m A i ∨ y < su) → F_X0_howItIs N (37 + i) A = bn1 (some (aD A i li)) (fun x6 => if bI x6 = (0 : Int32) then (if gI A 1 8 ≤ nI un then some 2 else some 1) else some 3)) := by
    rw [F_X0_howItIs, v1, prov_A hs c1 r1, bn1_e, hpo, v9, hs.2.2.2.1, v10, allD_A hs c1 v1 r1 hO]
    cases h1 : pB A li with
    | true =>
      exact ⟨fun _ => rfl, fun h => absurd (Or.inl (hkey.mpr (Or.inl h1))) h⟩
    | false =>
      rw [bIf, bn1_e]
      cases h2 : po with
      | true =>
        exact ⟨fun _ => rfl, fun h => absurd (Or.inl (hkey.mpr (Or.inr (hpo2.mp h2)))) h⟩
      | false =>
        rw [bIf]
        simp (disch := omega) only [nIl]
        have hnp : ¬ prv m A i := by
          rw [hkey]
          rintro (q | q)
          · rw [h1] at q; cases q
          · rw [← hpo2, h2] at q; cases q
        by_cases h3 : su ≤ y
        · rw [if_pos h3]
          exact ⟨fun q => absurd q (by rintro (q | q); exact hnp q; omega), fun _ => rfl⟩
        · rw [if_neg h3]
          exact ⟨fun _ => rfl, fun q => absurd (Or.inr (by omega)) q⟩
  by_cases hp : prv m A i
  · exact ⟨0, hC.1 (Or.inl hp), hB0.trans (hB.1 hp), ⟨fun _ => Or.inl hp, fun _ => rfl⟩, Or.inl rfl⟩
  · rw [hB0, hB.2 hp, he.cy hs, sure_B he hi v5 v8 hx r5 r9 r9' (by omega), bn1_e, allD_B he hi v1 r1 hO, bn1_e]
    have e2 : (decide (1 < kn) && decide (y < su)) = decide (y < su) := by
      by_cases h : 1 < kn
      · simp [h]
      · have := r95 (by omega)
        simp [show ¬ y < su by omega]
    rw [e2]
    by_cases hsu : y < su
    · rw [hC.1 (Or.inr hsu), decide_eq_true hsu, bIt]
      exact ⟨0, rfl, rfl, ⟨fun _ => Or.inr hsu, fun _ => rfl⟩, Or.inl rfl⟩
    · have hno : ¬ (prv m A i ∨ y < su) := by rintro (q | q); exact hp q; exact hsu q
      rw [hC.2 hno, decide_eq_false hsu, bIf, bn1_e]
      cases haD : aD A i li with
      | true =>
        rw [bIt, bIt]
        exact ⟨3, rfl, rfl, ⟨fun q => absurd q (by decide), fun q => absurd q hno⟩, by decide⟩
      | false =>
        rw [bIf, bIf, part_10, gd_ib (by omega) (by omega), ixn (by omega), he.s10 hi, v10, he.sc8]
        simp only [wle]
        by_cases h8 : gI A 1 8 ≤ nI un
        · rw [if_pos h8]
          exact ⟨2, rfl, rfl, ⟨fun q => absurd q (by decide), fun q => absurd q hno⟩, by decide⟩
        · rw [if_neg h8]
          exact ⟨1, rfl, rfl, ⟨fun q => absurd q (by decide), fun q => absurd q hno⟩, by decide⟩
end Stands

section Buy2
variable {K : KT} {m r s y N : Nat} {A B : MM}
theorem cbl_no (hs : R_s m r s y A) (c1 : m ≤ 24) {x z w : Int32} (h : ib x m = false) : F_X0_canBeLives N x z w A = some false := by
  rw [F_X0_canBeLives, isM_A hs.1 (by omega), h, bIf]
theorem cbl_dead (hs : R_s m r s y A) (c1 : m ≤ 24) {li : Nat} (hl : li < m) {z w : Int32} (h : dB A li = true) : F_X0_canBeLives N (nI li) z w A = some false := by
  unfold dB at h
  rw [F_X0_canBeLives, isM_A hs.1 (by omega), ib_nI hl (by omega), bIt, gd_ib (by omega) (by omega), ixn (by omega)]
  simp only [bo0]
  rw [if_neg (by simpa using h)]
theorem cbl_0 (hs : R_s m r s y A) (c1 : m ≤ 24) {li : Nat} (hl : li < m) {z : Int32} (h : dB A li = false) : F_X0_canBeLives N (nI li) z 0 A = some true := by
  unfold dB at h
  rw [F_X0_canBeLives, isM_A hs.1 (by omega), ib_nI hl (by omega), bIt, gd_ib (by omega) (by omega), ixn (by omega)]
  simp only [bo0]
  rw [if_pos (by simpa using h), if_pos trivial]
theorem cbl_1n (hs : R_s m r s y A) (c1 : m ≤ 24) {li : Nat} (hl : li < m) {z : Int32} (h : dB A li = false) (hz : ib z m = false) : F_X0_canBeLives N (nI li) z 1 A = some false := by
  unfold dB at h
  rw [F_X0_canBeLives, isM_A hs.1 (by omega), ib_nI hl (by omega), bIt, gd_ib (by omega) (by omega), ixn (by omega)]
  simp only [bo0]
  rw [if_pos (by simpa using h), if_neg (by decide), isM_A hs.1 (by omega), hz, bIf]
theorem cbl_1 (hs : R_s m r s y A) (c1 : m ≤ 24) {li j : Nat} (hl : li < m) (h : dB A li = false) (hj : j < m) : F_X0_canBeLives N (nI li) (nI j) 1 A = if nI j = nI li then some false else some (!(dB A j)) := by
  unfold dB at h
  rw [F_X0_canBeLives, isM_A hs.1 (by omega), ib_nI hl (by omega), bIt, gd_ib (by omega) (by omega), ixn (by omega)]
  simp only [bo0]
  rw [if_pos (by simpa using h), if_neg (by decide), isM_A hs.1 (by omega), ib_nI hj (by omega), bIt, gd_ib (by omega) (by omega), ixn (by omega)]
  unfold dB
  by_cases e : gI A (7 + j) 5 = 0 <;> simp [e]
section BuyA
variable {x1 x2 x3 x4 x5 x6 : Int32}
theorem bA_no1 (hs : R_s m r s y A) (c1 : m ≤ 24) (h : ib x1 m = false) : F_X5_buy N x1 x2 x3 x4 x5 x6 A = some ((-1000000000000000 : Int64), A) := by
  rw [F_X5_buy, F_X5_buy_53, isM_A hs.1 (by omega), h]
  simp only [bIf]
  repeat' split
  all_goals rfl
theorem bA_no2 (hs : R_s m r s y A) (c1 : m ≤ 24) (h : ib x2 m = false) : F_X5_buy N x1 x2 x3 x4 x5 x6 A = some ((-1000000000000000 : Int64), A) := by
  rw [F_X5_buy, F_X5_buy_53]
  simp only [bIf, bIt, cbl_no hs c1 h, bn1_e]
  repeat' split
  all_goals rfl
theorem bA_no3 (hs : R_s m r s y A) (c1 : m ≤ 24) {li : Nat} (i1 : li < m) (hd : dB A li = true) : F_X5_buy N x1 (nI li) x3 x4 x5 x6 A = some ((-1000000000000000 : Int64), A) := by
  rw [F_X5_buy, F_X5_buy_53]
  simp only [bIf, bIt, cbl_dead hs c1 i1 hd, bn1_e]
  repeat' split
  all_goals rfl
theorem bA_no4 (h : F_X5_isWithin x5 0 3 = false) : F_X5_buy N x1 x2 x3 x4 x5 x6 A = some ((-1000000000000000 : Int64), A) := by
  rw [F_X5_buy, h, bIf]
theorem bA_no5 (h : F_X5_isWithin x5 0 3 = true) (h4 : F_X5_isWithin x4 1 1000 = false) : F_X5_buy N x1 x2 x3 x4 x5 x6 A = some ((-1000000000000000 : Int64), A) := by
  rw [F_X5_buy, h, bIt, h4, bIf]
variable {ho li : Nat}
theorem bA_0 (hs : R_s m r s y A) (c1 : m ≤ 24) (i0 : ho < m) (i1 : li < m) (hd : dB A li = false) (h4 : F_X5_isWithin x4 1 1000 = true) : F_X5_buy N (nI ho) (nI li) x3 x4 (nI 0) x6 A = tailA N (nI ho) (nI li) (-1) x4 (nI 0) (fun v => v) A := by
  rw [F_X5_buy, F_X5_buy_53, tailA, isM_A hs.1 (by omega), ib_nI i0 (by omega), h4, show F_X5_isWithin (nI 0) 0 3 = true by decide]
  simp only [bIt, if_neg (show ¬ nI 0 = (1 : Int32) by decide), if_neg (show ¬ nI 0 = (2 : Int32) by decide), if_neg (show ¬ nI 0 = (3 : Int32) by decide), cbl_0 hs c1 i1 hd, bn1_e]
theorem bA_1 (hs : R_s m r s y A) (c1 : m ≤ 24) (i0 : ho < m) (h4 : F_X5_isWithin x4 1 1000 = true) : F_X5_buy N (nI ho) (nI li) x3 x4 (nI 1) x6 A = bn1 (F_X0_canBeLives N (nI li) x3 1 A) (fun z => if bI z = (0 : Int32) then some ((-1000000000000000 : Int64), A) else tailA N (nI ho) (nI li) x3 x4 (nI 1) (fun v => v) A) := by
  rw [F_X5_buy, F_X5_buy_53, tailA, isM_A hs.1 (by omega), ib_nI i0 (by omega), h4, show F_X5_isWithin (nI 1) 0 3 = true by decide]
  simp only [bIt, if_pos (show nI 1 = (1 : Int32) by decide), if_neg (show ¬ nI 1 = (2 : Int32) by decide), if_neg (show ¬ nI 1 = (3 : Int32) by decide)]
theorem bA_2 (hs : R_s m r s y A) (c1 : m ≤ 24) (i0 : ho < m) (i1 : li < m) (hd : dB A li = false) (h4 : F_X5_isWithin x4 1 1000 = true) : F_X5_buy N (nI ho) (nI li) x3 x4 (nI 2) x6 A = if bI (F_X5_isWithin x6 1 30) = (0 : Int32) then some ((-1000000000000000 : Int64), A) else tailA N (nI ho) (nI li) (-1) x4 (nI 2) (fun v => v + x6) A := by
  rw [F_X5_buy, F_X5_buy_53, tailA, isM_A hs.1 (by omega), ib_nI i0 (by omega), h4, show F_X5_isWithin (nI 2) 0 3 = true by decide]
  simp only [bIt, if_neg (show ¬ nI 2 = (1 : Int32) by decide), if_pos (show nI 2 = (2 : Int32) by decide), cbl_0 hs c1 i1 hd, bn1_e]
theorem bA_3 (hs : R_s m r s y A) (c1 : m ≤ 24) (i0 : ho < m) (i1 : li < m) (hd : dB A li = false) (h4 : F_X5_isWithin x4 1 1000 = true) : F_X5_buy N (nI ho) (nI li) x3 x4 (nI 3) x6 A = if bI (F_X5_isWithin x6 1 30) = (0 : Int32) then some ((-1000000000000000 : Int64), A) else tailA N (nI ho) (nI li) (-1) x4 (nI 3) (fun v => v + x6) A := by
  rw [F_X5_buy, F_X5_buy_53, tailA, isM_A hs.1 (by omega), ib_nI i0 (by omega), h4, show F_X5_isWithin (nI 3) 0 3 = true by decide]
  simp only [bIt, if_neg (show ¬ nI 3 = (1 : Int32) by decide), if_neg (show ¬ nI 3 = (2 : Int32) by decide), if_pos (show nI 3 = (3 : Int32) by decide), cbl_0 hs c1 i1 hd, bn1_e]
end BuyA
end Buy2
set_option maxHeartbeats 8000000 in
theorem sim_buy {N : Nat} (hN : 6000 ≤ N) : Sim_buy N Rel := by
  intro k n A B hk hR x1 x2 x3 x4 x5 x6
  have hR2 := hR.up
  obtain ⟨hn, K, m, r, s, y, hB, hK1, hK2⟩ := hR
  have hB0 := hB
  obtain ⟨he, hs, ht, hm, hkk, hh, hp, hf, hb⟩ := hB
  have c1 : m ≤ 24 := he.1.1
  have c3 : s ≤ 40 := he.1.2.2
  have hy : y ≤ 60 := hs.2.2.2.2.1
  have fin : ∀ {X Y : Option (Int64 × MM)}, (∃ (w : Int64) (A' B' : MM) (s' : Nat), X = some (w, A') ∧ Y = some (w, B') ∧ BR k K m r s' y A' B') → ∃ (w : Int64) (A' B' : MM), X = some (w, A') ∧ Y = some (w, B') ∧ Rel (k + 1) n A' B' := by
    rintro X Y ⟨w, A', B', s', q1, q2, q3⟩
    exact ⟨w, A', B', q1, q2, hn, K, m, r, s', _, q3.up, hK1, fun z => ⟨(hK2 z).1, (hK2 z).2.up⟩⟩
  have no : ∀ {X Y : Option (Int64 × MM)}, X = some ((-1000000000000000 : Int64), A) → Y = some ((-1000000000000000 : Int64), B) → ∃ (w : Int64) (A' B' : MM), X = some (w, A') ∧ Y = some (w, B') ∧ Rel (k + 1) n A' B' := fun q1 q2 => ⟨_, A, B, q1, q2, hR2⟩
  rw [F_X6_buy, isM_B (he.cm hs) (by omega), isM_B (he.cm hs) (by omega), isM_B (he.cm hs) (by omega), in_w (x := x5) (a := 0) (b := 3) (a' := 0) (b' := 3) rfl rfl, in_w (x := x4) (a := 1) (b := 1000) (a' := 1) (b' := 1000) rfl rfl, in_w (x := x6) (a := 1) (b := 30) (a' := 1) (b' := 30) rfl rfl]
  cases h1 : ib x1 m with
  | false => exact no (bA_no1 hs c1 h1) bIf
  | true =>
    obtain ⟨ho, i0, rfl⟩ := ib_of h1 (by omega)
    rw [bIt]
    cases h2 : ib x2 m with
    | false => exact no (bA_no2 hs c1 h2) bIf
    | true =>
      obtain ⟨li, i1, rfl⟩ := ib_of h2 (by omega)
      rw [bIt, nIw (by omega), dead_B he i1, bn1_e]
      cases hd : dB A li with
      | true => exact no (bA_no3 hs c1 i1 hd) bIt
      | false =>
        rw [bIf]
        cases h5 : F_X5_isWithin x5 0 3 with
        | false => exact no (bA_no4 h5) bIf
        | true =>
          rw [bIt]
          cases h4 : F_X5_isWithin x4 1 1000 with
          | false => exact no (bA_no5 h5 h4) bIf
          | true =>
            rw [bIt]
            have g5 := wi_toInt.mp h5
            have g4 := wi_toInt.mp h4
            rw [show (0 : Int32).toInt = 0 from rfl, show (3 : Int32).toInt = 3 from rfl] at g5
            rw [show (1 : Int32).toInt = 1 from rfl, show (1000 : Int32).toInt = 1000 from rfl] at g4
            obtain ⟨u, hu, rfl⟩ := ib_of (x := x4) (n := 1001) (ibm.mpr (by omega)) (by omega)
            obtain ⟨kn, hkn, rfl⟩ := ib_of (x := x5) (n := 4) (ibm.mpr (by omega)) (by omega)
            rw [nI_toInt (by omega)] at g4
            rcases (show kn = 0 ∨ kn = 1 ∨ kn = 2 ∨ kn = 3 by omega) with rfl | rfl | rfl | rfl
            · rw [bA_0 hs c1 i0 i1 hd h4]
              simp only [if_neg (show ¬ nI 0 = (1 : Int32) by decide), if_pos (show nI 0 ≤ (1 : Int32) by decide)]
              exact fin (buy_core (f := fun v => v) (kn := 0) hN hB0 (su := y) (x3 := x3) (x6 := x6) (o := -1) rfl i0 i1 (by omega) (by omega) (by omega) (Nat.le_refl _) (by omega) (fun _ => rfl) ⟨fun _ => rfl, fun q => by omega⟩ (fun q => by omega))
            · rw [bA_1 hs c1 i0 h4]
              simp only [if_pos (show nI 1 = (1 : Int32) by decide), if_pos (show nI 1 ≤ (1 : Int32) by decide)]
              cases h3 : ib x3 m with
              | false => exact no (by rw [cbl_1n hs c1 i1 hd h3, bn1_e, bIf]) bIf
              | true =>
                obtain ⟨j, hj, rfl⟩ := ib_of h3 (by omega)
                rw [cbl_1 hs c1 i1 hd hj, bIt]
                by_cases e : nI j = nI li
                · rw [if_pos e, if_pos e, bn1_e, bIf]
                  exact no rfl rfl
                · rw [if_neg e, if_neg e, bn1_e, nIw (by omega), dead_B he hj, bn1_e]
                  cases hd2 : dB A j with
                  | true =>
                    rw [bIt, Bool.not_true, bIf]
                    exact no rfl rfl
                  | false =>
                    rw [bIf, Bool.not_false, bIt]
                    exact fin (buy_core (f := fun v => v) (kn := 1) hN hB0 (su := y) (x3 := nI j) (x6 := x6) (o := nI j) rfl i0 i1 (by omega) (by omega) (by omega) (Nat.le_refl _) (by omega) (fun _ => rfl) ⟨fun q => absurd rfl q, fun _ => ⟨rfl, j, hj, rfl⟩⟩ (fun q => by omega))
            · rw [bA_2 hs c1 i0 i1 hd h4]
              simp only [if_neg (show ¬ nI 2 = (1 : Int32) by decide), if_neg (show ¬ nI 2 ≤ (1 : Int32) by decide)]
              cases h6 : F_X5_isWithin x6 1 30 with
              | false => exact no bIf bIf
              | true =>
                rw [bIt, bIt]
                have g6 := wi_toInt.mp h6
                rw [show (1 : Int32).toInt = 1 from rfl, show (30 : Int32).toInt = 30 from rfl] at g6
                obtain ⟨v, hv, rfl⟩ := ib_of (x := x6) (n := 31) (ibm.mpr (by omega)) (by omega)
                exact fin (buy_core (f := fun w => w + nI v) (kn := 2) hN hB0 (su := y + v) (x3 := x3) (x6 := nI v) (o := -1) (nI_add _ _) i0 i1 (by omega) (by omega) (by omega) (by omega) (by omega) (fun q => by omega) ⟨fun _ => rfl, fun q => by omega⟩ (fun _ => by rw [show y + v - y = v by omega]))
            · rw [bA_3 hs c1 i0 i1 hd h4]
              simp only [if_neg (show ¬ nI 3 = (1 : Int32) by decide), if_neg (show ¬ nI 3 ≤ (1 : Int32) by decide)]
              cases h6 : F_X5_isWithin x6 1 30 with
              | false => exact no bIf bIf
              | true =>
                rw [bIt, bIt]
                have g6 := wi_toInt.mp h6
                rw [show (1 : Int32).toInt = 1 from rfl, show (30 : Int32).toInt = 30 from rfl] at g6
                obtain ⟨v, hv, rfl⟩ := ib_of (x := x6) (n := 31) (ibm.mpr (by omega)) (by omega)
                exact fin (buy_core (f := fun w => w + nI v) (kn := 3) hN hB0 (su := y + v) (x3 := x3) (x6 := nI v) (o := -1) (nI_add _ _) i0 i1 (by omega) (by omega) (by omega) (by omega) (by omega) (fun q => by omega) ⟨fun _ => rfl, fun q => by omega⟩ (fun _ => by rw [show y + v - y = v by omega]))

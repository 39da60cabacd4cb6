/-! ===== pure part: numbers ===== -/
theorem ibm {x : Int32} {n : Nat} : ib x n = true ↔ 0 ≤ x.toInt ∧ x.toInt < n := by
  rw [← vp_in_iff]
  constructor
  · exact ib_in
  · intro h
    unfold vp_in at h
    simp only [ib, Bool.and_eq_true, Bool.not_eq_true', decide_eq_false_iff_not, decide_eq_true_eq]
    exact ⟨fun q => h (Or.inl q), Nat.not_le.mp (fun q => h (Or.inr q))⟩
theorem ib_of {x : Int32} {n : Nat} (h : ib x n = true) (hn : n < 2 ^ 31) : ∃ j, j < n ∧ x = nI j := vp_in_of (ib_in h) hn
theorem ib_nI {j n : Nat} (h : j < n) (hn : n ≤ 6000) : ib (nI j) n = true := by
  rw [ibm, nI_toInt (by omega)]
  omega
theorem ixn {e : Nat} (h : e < 6000) : ix (nI e) = e := nI_clamp (by omega)
theorem gd_ib {α : Type} {e n : Nat} {x : Option α} (h : e < n) (hn : n ≤ 6000) : gd (ib (nI e) n) x = x := by rw [ib_nI h hn]; rfl
theorem gd_t {α : Type} {b : Bool} {x : Option α} (h : b = true) : gd b x = x := by rw [h]; rfl
theorem bnd_e {α β : Type} {x : α} {f : α → β} : bnd x f = f x := rfl
theorem bn1_e {α γ : Type} {x : α} {f : α → Option γ} : bn1 (some x) f = f x := rfl
theorem bn2_e {α β γ : Type} {x : α} {y : β} {f : α → β → Option γ} : bn2 (some (x, y)) f = f x y := rfl
theorem nIl {a b : Nat} (ha : a < 6000) (hb : b < 6000) : (nI a ≤ nI b) = (a ≤ b) := propext (nI_leI (by omega) (by omega))
theorem nIlt {a b : Nat} (ha : a < 6000) (hb : b < 6000) : (nI a < nI b) = (a < b) := propext (nI_ltI (by omega) (by omega))
theorem nIe {a b : Nat} (ha : a < 6000) (hb : b < 6000) : (nI a = nI b) = (a = b) := propext (nI_eq (by omega) (by omega))
theorem nIw {a : Nat} (ha : a < 6000) : (nI a).toInt64 = lN a := nI_l (by omega)
theorem lNi {a : Nat} : (lN a).toInt32 = nI a := lN_i a
theorem lNl {a b : Nat} (ha : a < 6000) (hb : b < 6000) : (lN a ≤ lN b) = (a ≤ b) := propext (lN_le (by omega) (by omega))
theorem lNlt {a b : Nat} (ha : a < 6000) (hb : b < 6000) : (lN a < lN b) = (a < b) := propext (lN_lt (by omega) (by omega))
theorem lNe {a b : Nat} (ha : a < 6000) (hb : b < 6000) : (lN a = lN b) = (a = b) := propext (lN_eq (by omega) (by omega))
theorem i2 (x : Int32) : x.toInt64.toInt32 = x := Int32.toInt32_toInt64 x
theorem wle {x y : Int32} : (x.toInt64 ≤ y.toInt64) = (x ≤ y) := propext (by rw [Int64.le_iff_toInt_le, Int32.le_iff_toInt_le, Int32.toInt_toInt64, Int32.toInt_toInt64])
theorem wlt {x y : Int32} : (x.toInt64 < y.toInt64) = (x < y) := propext (by rw [Int64.lt_iff_toInt_lt, Int32.lt_iff_toInt_lt, Int32.toInt_toInt64, Int32.toInt_toInt64])
theorem weq {x y : Int32} : (x.toInt64 = y.toInt64) = (x = y) := propext ⟨fun h => by rw [← i2 x, ← i2 y, h], fun h => by rw [h]⟩
theorem bI0 (b : Bool) : (bI b = 0) = (b = false) := by cases b <;> simp [bI]
theorem drx (i y : Nat) : ((863 : Int32) + (60 : Int32) * nI i) + nI y = nI (863 + 60 * i + y) := by
  rw [show ((863 : Int32) + (60 : Int32) * nI i) + nI y = (nI 863 + nI 60 * nI i) + nI y from rfl, pk_mul, nI_add, nI_add]
theorem hex (i y : Nat) : ((3263 : Int32) + (60 : Int32) * nI i) + nI y = nI (3263 + 60 * i + y) := by
  rw [show ((3263 : Int32) + (60 : Int32) * nI i) + nI y = (nI 3263 + nI 60 * nI i) + nI y from rfl, pk_mul, nI_add, nI_add]
theorem cellOfx (i f : Nat) : F_X6_cellOf (nI i) (nI f) = nI (111 + 7 * i + f) := by
  rw [F_X6_cellOf, show ((111 : Int32) + (7 : Int32) * nI i) + nI f = (nI 111 + nI 7 * nI i) + nI f from rfl, pk_mul, nI_add, nI_add]
theorem cellOf_0 (i : Nat) : F_X6_cellOf (nI i) (0 : Int32) = nI (111 + 7 * i + 0) := cellOfx i 0
theorem cellOf_1 (i : Nat) : F_X6_cellOf (nI i) (1 : Int32) = nI (111 + 7 * i + 1) := cellOfx i 1
theorem cellOf_2 (i : Nat) : F_X6_cellOf (nI i) (2 : Int32) = nI (111 + 7 * i + 2) := cellOfx i 2
theorem cellOf_3 (i : Nat) : F_X6_cellOf (nI i) (3 : Int32) = nI (111 + 7 * i + 3) := cellOfx i 3
theorem cellOf_4 (i : Nat) : F_X6_cellOf (nI i) (4 : Int32) = nI (111 + 7 * i + 4) := cellOfx i 4
theorem cellOf_5 (i : Nat) : F_X6_cellOf (nI i) (5 : Int32) = nI (111 + 7 * i + 5) := cellOfx i 5
theorem cellOf_6 (i : Nat) : F_X6_cellOf (nI i) (6 : Int32) = nI (111 + 7 * i + 6) := cellOfx i 6
theorem groupCellx (i f : Nat) : F_X6_groupCell (nI i) (nI f) = nI (279 + 4 * i + f) := by
  rw [F_X6_groupCell, show ((279 : Int32) + (4 : Int32) * nI i) + nI f = (nI 279 + nI 4 * nI i) + nI f from rfl, pk_mul, nI_add, nI_add]
theorem groupCell_0 (i : Nat) : F_X6_groupCell (nI i) (0 : Int32) = nI (279 + 4 * i + 0) := groupCellx i 0
theorem groupCell_1 (i : Nat) : F_X6_groupCell (nI i) (1 : Int32) = nI (279 + 4 * i + 1) := groupCellx i 1
theorem groupCell_2 (i : Nat) : F_X6_groupCell (nI i) (2 : Int32) = nI (279 + 4 * i + 2) := groupCellx i 2
theorem groupCell_3 (i : Nat) : F_X6_groupCell (nI i) (3 : Int32) = nI (279 + 4 * i + 3) := groupCellx i 3
theorem partx (i f : Nat) : F_X6_part (nI i) (nI f) = nI (303 + 14 * i + f) := by
  rw [F_X6_part, show ((303 : Int32) + (14 : Int32) * nI i) + nI f = (nI 303 + nI 14 * nI i) + nI f from rfl, pk_mul, nI_add, nI_add]
theorem part_0 (i : Nat) : F_X6_part (nI i) (0 : Int32) = nI (303 + 14 * i + 0) := partx i 0
theorem part_1 (i : Nat) : F_X6_part (nI i) (1 : Int32) = nI (303 + 14 * i + 1) := partx i 1
theorem part_2 (i : Nat) : F_X6_part (nI i) (2 : Int32) = nI (303 + 14 * i + 2) := partx i 2
theorem part_3 (i : Nat) : F_X6_part (nI i) (3 : Int32) = nI (303 + 14 * i + 3) := partx i 3
theorem part_4 (i : Nat) : F_X6_part (nI i) (4 : Int32) = nI (303 + 14 * i + 4) := partx i 4
theorem part_5 (i : Nat) : F_X6_part (nI i) (5 : Int32) = nI (303 + 14 * i + 5) := partx i 5
theorem part_6 (i : Nat) : F_X6_part (nI i) (6 : Int32) = nI (303 + 14 * i + 6) := partx i 6
theorem part_7 (i : Nat) : F_X6_part (nI i) (7 : Int32) = nI (303 + 14 * i + 7) := partx i 7
theorem part_8 (i : Nat) : F_X6_part (nI i) (8 : Int32) = nI (303 + 14 * i + 8) := partx i 8
theorem part_9 (i : Nat) : F_X6_part (nI i) (9 : Int32) = nI (303 + 14 * i + 9) := partx i 9
theorem part_10 (i : Nat) : F_X6_part (nI i) (10 : Int32) = nI (303 + 14 * i + 10) := partx i 10
theorem part_11 (i : Nat) : F_X6_part (nI i) (11 : Int32) = nI (303 + 14 * i + 11) := partx i 11
theorem part_12 (i : Nat) : F_X6_part (nI i) (12 : Int32) = nI (303 + 14 * i + 12) := partx i 12
theorem part_13 (i : Nat) : F_X6_part (nI i) (13 : Int32) = nI (303 + 14 * i + 13) := partx i 13
/-! ===== reading written memory ===== -/
theorem gLs {M : MM} {c k c' k' : Nat} {v : Int64} : gL (sL M c k v) c' k' = if c' = c ∧ k' = k then v else gL M c' k' := rfl
theorem gIs {M : MM} {c k c' k' : Nat} {v : Int32} : gI (sI M c k v) c' k' = if c' = c ∧ k' = k then v else gI M c' k' := rfl
theorem gLsI {M : MM} {c k c' k' : Nat} {v : Int32} : gL (sI M c k v) c' k' = gL M c' k' := rfl
theorem gIsL {M : MM} {c k c' k' : Nat} {v : Int64} : gI (sL M c k v) c' k' = gI M c' k' := rfl
/-! ===== the cells that both have ===== -/
def scal (k : Nat) : Nat := if k = 7 then 5663 else if k = 10 then 5664 else if k = 11 then 5665 else if k = 8 then 5666 else if k = 9 then 5667 else if k = 12 then 5671 else 5664 + k
def enc (c k : Nat) : Nat := if c = 3 then k else if c = 1 then scal k else if c < 31 then 111 + 7 * (c - 7) + k else if c < 37 then 279 + 4 * (c - 31) + k else if c < 77 then 303 + 14 * (c - 37) + (if k = 11 then 12 else k) else 863 + 60 * (c - 77) + k
def val (m r s c k : Nat) : Prop := (c = 3 ∧ k ≤ 110) ∨ (c = 1 ∧ 4 ≤ k ∧ k ≤ 12) ∨ (7 ≤ c ∧ c < 7 + m ∧ k < 7) ∨ (31 ≤ c ∧ c < 31 + r ∧ k < 4) ∨ (37 ≤ c ∧ c < 37 + s ∧ k < 14 ∧ k ≠ 9 ∧ k ≠ 12) ∨ (77 ≤ c ∧ c < 77 + s ∧ k < 60)
def isL (c k : Nat) : Bool := (c == 1 && decide (10 ≤ k)) || (decide (7 ≤ c ∧ c < 31) && (k == 1 || k == 2)) || (decide (31 ≤ c ∧ c < 37) && k == 3) || (decide (37 ≤ c ∧ c < 77) && (k == 6 || k == 7 || k == 11)) || decide (77 ≤ c)
def isZ (c k : Nat) : Bool := (decide (7 ≤ c ∧ c < 31) && (k == 4 || k == 5)) || (decide (37 ≤ c ∧ c < 77) && k == 13)
def rd (A : MM) (c k : Nat) : Int64 := if isL c k = true then gL A c k else if isZ c k = true then (bo (gI A c k)).toInt64 else (gI A c k).toInt64
def cap (m r s : Nat) : Prop := m ≤ 24 ∧ r ≤ 6 ∧ s ≤ 40
theorem scal_inj : ∀ k, k < 13 → 4 ≤ k → ∀ k', k' < 13 → 4 ≤ k' → scal k = scal k' → k = k' := by decide
theorem scal_rg : ∀ k, k < 13 → 4 ≤ k → 5663 ≤ scal k ∧ scal k ≤ 5671 := by decide
def fsh (k : Nat) : Nat := if k = 11 then 12 else k
theorem fsh_rg {k : Nat} (h : k < 14) (h2 : k ≠ 9) (h3 : k ≠ 12) : fsh k < 14 ∧ fsh k ≠ 9 ∧ fsh k ≠ 11 := by unfold fsh; split <;> omega
theorem fsh_inj {k k' : Nat} (h : k ≠ 12) (h' : k' ≠ 12) (e : fsh k = fsh k') : k = k' := by unfold fsh at e; split at e <;> split at e <;> omega
theorem enc_for {m r s c k : Nat} (hc : cap m r s) (h : val m r s c k) : (c = 3 ∧ k ≤ 110 ∧ enc c k = k) ∨ (c = 1 ∧ 4 ≤ k ∧ k < 13 ∧ enc c k = scal k ∧ 5663 ≤ scal k ∧ scal k ≤ 5671) ∨ (7 ≤ c ∧ c < 31 ∧ k < 7 ∧ enc c k = 111 + 7 * (c - 7) + k) ∨ (31 ≤ c ∧ c < 37 ∧ k < 4 ∧ enc c k = 279 + 4 * (c - 31) + k) ∨ (37 ≤ c ∧ c < 77 ∧ k < 14 ∧ k ≠ 9 ∧ k ≠ 12 ∧ enc c k = 303 + 14 * (c - 37) + fsh k ∧ fsh k < 14 ∧ fsh k ≠ 9 ∧ fsh k ≠ 11) ∨ (77 ≤ c ∧ c < 117 ∧ k < 60 ∧ enc c k = 863 + 60 * (c - 77) + k) := by
  obtain ⟨q1, q2, q3⟩ := hc
  rcases h with a | a | a | a | a | a
  · exact Or.inl ⟨a.1, a.2, by unfold enc; rw [if_pos a.1]⟩
  · exact Or.inr (Or.inl ⟨a.1, a.2.1, by omega, by unfold enc; rw [if_neg (by omega), if_pos a.1], scal_rg k (by omega) a.2.1⟩)
  · exact Or.inr (Or.inr (Or.inl ⟨a.1, by omega, a.2.2, by unfold enc; rw [if_neg (by omega), if_neg (by omega), if_pos (by omega)]⟩))
  · exact Or.inr (Or.inr (Or.inr (Or.inl ⟨a.1, by omega, a.2.2, by unfold enc; rw [if_neg (by omega), if_neg (by omega), if_neg (by omega), if_pos (by omega)]⟩)))
  · exact Or.inr (Or.inr (Or.inr (Or.inr (Or.inl ⟨a.1, by omega, a.2.2.1, a.2.2.2.1, a.2.2.2.2, by unfold enc; rw [if_neg (by omega), if_neg (by omega), if_neg (by omega), if_neg (by omega), if_pos (by omega)]; rfl, fsh_rg a.2.2.1 a.2.2.2.1 a.2.2.2.2⟩))))
  · exact Or.inr (Or.inr (Or.inr (Or.inr (Or.inr ⟨a.1, by omega, a.2.2, by unfold enc; rw [if_neg (by omega), if_neg (by omega), if_neg (by omega), if_neg (by omega), if_neg (by omega)]⟩))))
set_option maxHeartbeats 4000000 in
theorem enc_inj {m r s c k c' k' : Nat} (hc : cap m r s) (h1 : val m r s c k) (h2 : val m r s c' k') (h : enc c k = enc c' k') : c = c' ∧ k = k' := by
  rcases enc_for hc h1 with a | a | a | a | a | a <;> rcases enc_for hc h2 with b | b | b | b | b | b
  case inr.inl.inr.inl => exact ⟨by omega, scal_inj k (by omega) (by omega) k' (by omega) (by omega) (by omega)⟩
  case inr.inr.inr.inr.inl.inr.inr.inr.inr.inl =>
    have e1 : c = c' ∧ fsh k = fsh k' := by omega
    exact ⟨e1.1, fsh_inj (by omega) (by omega) e1.2⟩
  all_goals omega
theorem enc_lt {m r s c k : Nat} (hc : cap m r s) (h1 : val m r s c k) : enc c k < 5672 := by
  rcases enc_for hc h1 with a | a | a | a | a | a <;> omega
theorem val_lt {m r s c k : Nat} (hc : cap m r s) (h1 : val m r s c k) : c < 117 := by
  obtain ⟨q1, q2, q3⟩ := hc
  rcases h1 with a | a | a | a | a | a <;> omega
theorem enc_x9 {m r s c k i : Nat} (hc : cap m r s) (h1 : val m r s c k) (hi : i < 40) : enc c k ≠ 303 + 14 * i + 9 := by
  rcases enc_for hc h1 with a | a | a | a | a | a <;> omega
theorem enc_x11 {m r s c k i : Nat} (hc : cap m r s) (h1 : val m r s c k) (hi : i < 40) : enc c k ≠ 303 + 14 * i + 11 := by
  rcases enc_for hc h1 with a | a | a | a | a | a <;> omega
theorem enc_he {m r s c k i y : Nat} (hc : cap m r s) (h1 : val m r s c k) (hi : i < 40) (hy : y < 60) : enc c k ≠ 3263 + 60 * i + y := by
  rcases enc_for hc h1 with a | a | a | a | a | a <;> omega
def sh (A : MM) : MM := (fun c k => A.1 (c + 116) k, fun c k => A.2 (c + 116) k)
abbrev KT : Type := MM × (Nat → Int64) × (Nat → Int32)
def shE (A A' : MM) : Prop := ∀ c k, 117 ≤ c → gI A c k = gI A' c k ∧ gL A c k = gL A' c k
/-- both books hold the same in all plain cells; what is kept is as it was -/
def Eqv (K : KT) (m r s : Nat) (A B : MM) : Prop := cap m r s ∧ (∀ c k, val m r s c k → gL B 1 (enc c k) = rd A c k) ∧ shE A K.1 ∧ gL B 2 = K.2.1 ∧ gI B 0 = K.2.2
section EqvRows
variable {K : KT} {m r s : Nat} {A B : MM}
theorem rd_sL {c k c' k' : Nat} {v : Int64} (h : ¬ (c' = c ∧ k' = k)) : rd (sL A c k v) c' k' = rd A c' k' := by
  unfold rd
  rw [gLs, if_neg h, gIsL]
theorem rd_sI {c k c' k' : Nat} {v : Int32} (h : ¬ (c' = c ∧ k' = k)) : rd (sI A c k v) c' k' = rd A c' k' := by
  unfold rd
  rw [gIs, if_neg h, gLsI]
theorem shE_sL {A0 : MM} {c k : Nat} {v : Int64} (hc : c < 117) (h : shE A A0) : shE (sL A c k v) A0 := fun c' k' h1 => by
  rw [gLs, if_neg (by omega), gIsL]
  exact h c' k' h1
theorem shE_sI {A0 : MM} {c k : Nat} {v : Int32} (hc : c < 117) (h : shE A A0) : shE (sI A c k v) A0 := fun c' k' h1 => by
  rw [gIs, if_neg (by omega), gLsI]
  exact h c' k' h1
/-- the same number is written on both sides -/
theorem Eqv.L (h : Eqv K m r s A B) {c k : Nat} (hv : val m r s c k) (hL : isL c k = true) (v : Int64) {j : Nat} (hj : enc c k = j) : Eqv K m r s (sL A c k v) (sL B 1 j v) := by
  obtain ⟨hc, h1, h2, h3, h4⟩ := h
  subst hj
  refine ⟨hc, fun c' k' hv' => ?_, shE_sL (val_lt hc hv) h2, ?_, h4⟩
  · rw [gLs]
    by_cases e : c' = c ∧ k' = k
    · obtain ⟨rfl, rfl⟩ := e
      unfold rd
      rw [if_pos ⟨rfl, rfl⟩, if_pos hL, gLs, if_pos ⟨rfl, rfl⟩]
    · rw [rd_sL e, if_neg (fun q => e (enc_inj hc hv' hv q.2))]
      exact h1 c' k' hv'
  · rw [gL_ne (by decide)]
    exact h3
theorem Eqv.I (h : Eqv K m r s A B) {c k : Nat} (hv : val m r s c k) (hL : isL c k = false) (hZ : isZ c k = false) (v : Int32) {j : Nat} (hj : enc c k = j) {w : Int64} (hw : w = v.toInt64) : Eqv K m r s (sI A c k v) (sL B 1 j w) := by
  obtain ⟨hc, h1, h2, h3, h4⟩ := h
  subst hj
  subst hw
  refine ⟨hc, fun c' k' hv' => ?_, shE_sI (val_lt hc hv) h2, ?_, h4⟩
  · rw [gLs]
    by_cases e : c' = c ∧ k' = k
    · obtain ⟨rfl, rfl⟩ := e
      unfold rd
      rw [if_pos ⟨rfl, rfl⟩, if_neg (by rw [hL]; decide), if_neg (by rw [hZ]; decide), gIs, if_pos ⟨rfl, rfl⟩]
    · rw [rd_sI e, if_neg (fun q => e (enc_inj hc hv' hv q.2))]
      exact h1 c' k' hv'
  · rw [gL_ne (by decide)]
    exact h3
theorem Eqv.Z (h : Eqv K m r s A B) {c k : Nat} (hv : val m r s c k) (hL : isL c k = false) (hZ : isZ c k = true) (v : Int32) {j : Nat} (hj : enc c k = j) {w : Int64} (hw : w = (bo v).toInt64) : Eqv K m r s (sI A c k v) (sL B 1 j w) := by
  obtain ⟨hc, h1, h2, h3, h4⟩ := h
  subst hj
  subst hw
  refine ⟨hc, fun c' k' hv' => ?_, shE_sI (val_lt hc hv) h2, ?_, h4⟩
  · rw [gLs]
    by_cases e : c' = c ∧ k' = k
    · obtain ⟨rfl, rfl⟩ := e
      unfold rd
      rw [if_pos ⟨rfl, rfl⟩, if_neg (by rw [hL]; decide), if_pos hZ, gIs, if_pos ⟨rfl, rfl⟩]
    · rw [rd_sI e, if_neg (fun q => e (enc_inj hc hv' hv q.2))]
      exact h1 c' k' hv'
  · rw [gL_ne (by decide)]
    exact h3
/-- one side alone, where it doesn't count -/
theorem Eqv.aI (h : Eqv K m r s A B) {c k : Nat} (hn : ¬ val m r s c k) (hc : c < 117) (v : Int32) : Eqv K m r s (sI A c k v) B :=
  ⟨h.1, fun c' k' hv' => by rw [rd_sI (fun q => hn (by rw [← q.1, ← q.2]; exact hv'))]; exact h.2.1 c' k' hv', shE_sI hc h.2.2.1, h.2.2.2⟩
theorem Eqv.aL (h : Eqv K m r s A B) {c k : Nat} (hn : ¬ val m r s c k) (hc : c < 117) (v : Int64) : Eqv K m r s (sL A c k v) B :=
  ⟨h.1, fun c' k' hv' => by rw [rd_sL (fun q => hn (by rw [← q.1, ← q.2]; exact hv'))]; exact h.2.1 c' k' hv', shE_sL hc h.2.2.1, h.2.2.2⟩
theorem Eqv.b (h : Eqv K m r s A B) {j : Nat} (hn : ∀ c k, val m r s c k → enc c k ≠ j) (v : Int64) : Eqv K m r s A (sL B 1 j v) :=
  ⟨h.1, fun c' k' hv' => by rw [gLs, if_neg (fun q => hn c' k' hv' q.2)]; exact h.2.1 c' k' hv', h.2.2.1, by rw [gL_ne (by decide)]; exact h.2.2.2.1, h.2.2.2.2⟩
theorem Eqv.oB {c : Nat} (h : Eqv K m r s A B) (h1 : c ≠ 1) (h2 : c ≠ 2) {j : Nat} (v : Int64) : Eqv K m r s A (sL B c j v) :=
  ⟨h.1, fun c' k' hv' => by rw [gLs, if_neg (fun q => h1 q.1.symm)]; exact h.2.1 c' k' hv', h.2.2.1, by rw [gL_ne (fun q => h2 q.symm)]; exact h.2.2.2.1, h.2.2.2.2⟩
theorem Eqv.oI {c : Nat} (h : Eqv K m r s A B) (h1 : c ≠ 0) {j : Nat} (v : Int32) : Eqv K m r s A (sI B c j v) :=
  ⟨h.1, fun c' k' hv' => by rw [gLsI]; exact h.2.1 c' k' hv', h.2.2.1, h.2.2.2.1, by rw [gI_ne (fun q => h1 q.symm)]; exact h.2.2.2.2⟩
theorem Eqv.sc4 (h : Eqv K m r s A B) : gL B 1 5668 = (gI A 1 4).toInt64 := h.2.1 1 4 (by unfold val; omega)
theorem v_sc4 : val m r s 1 4 := by unfold val; omega
theorem Eqv.sc5 (h : Eqv K m r s A B) : gL B 1 5669 = (gI A 1 5).toInt64 := h.2.1 1 5 (by unfold val; omega)
theorem v_sc5 : val m r s 1 5 := by unfold val; omega
theorem Eqv.sc6 (h : Eqv K m r s A B) : gL B 1 5670 = (gI A 1 6).toInt64 := h.2.1 1 6 (by unfold val; omega)
theorem v_sc6 : val m r s 1 6 := by unfold val; omega
theorem Eqv.sc7 (h : Eqv K m r s A B) : gL B 1 5663 = (gI A 1 7).toInt64 := h.2.1 1 7 (by unfold val; omega)
theorem v_sc7 : val m r s 1 7 := by unfold val; omega
theorem Eqv.sc8 (h : Eqv K m r s A B) : gL B 1 5666 = (gI A 1 8).toInt64 := h.2.1 1 8 (by unfold val; omega)
theorem v_sc8 : val m r s 1 8 := by unfold val; omega
theorem Eqv.sc9 (h : Eqv K m r s A B) : gL B 1 5667 = (gI A 1 9).toInt64 := h.2.1 1 9 (by unfold val; omega)
theorem v_sc9 : val m r s 1 9 := by unfold val; omega
theorem Eqv.sc10 (h : Eqv K m r s A B) : gL B 1 5664 = gL A 1 10 := h.2.1 1 10 (by unfold val; omega)
theorem v_sc10 : val m r s 1 10 := by unfold val; omega
theorem Eqv.sc11 (h : Eqv K m r s A B) : gL B 1 5665 = gL A 1 11 := h.2.1 1 11 (by unfold val; omega)
theorem v_sc11 : val m r s 1 11 := by unfold val; omega
theorem Eqv.sc12 (h : Eqv K m r s A B) : gL B 1 5671 = gL A 1 12 := h.2.1 1 12 (by unfold val; omega)
theorem v_sc12 : val m r s 1 12 := by unfold val; omega
theorem Eqv.tb (h : Eqv K m r s A B) {y : Nat} (hy : y ≤ 110) : gL B 1 y = (gI A 3 y).toInt64 := h.2.1 3 y (by unfold val; omega)
theorem v_tb {y : Nat} (hy : y ≤ 110) : val m r s 3 y := by unfold val; omega
theorem v_m0 {i : Nat} (hi : i < m) : val m r s (7 + i) 0 := by unfold val; omega
theorem n_m0 {i : Nat} (hi : i < 24) : enc (7 + i) 0 = 111 + 7 * i + 0 := by unfold enc scal; (repeat' split) <;> omega
theorem t_m0 {i : Nat} (hi : i < 24) : isL (7 + i) 0 = false := by unfold isL; simp; omega
theorem z_m0 {i : Nat} (hi : i < 24) : isZ (7 + i) 0 = false := by unfold isZ; simp; (try omega)
theorem Eqv.m0 (h : Eqv K m r s A B) {i : Nat} (hi : i < m) : gL B 1 (111 + 7 * i + 0) = (gI A (7 + i) 0).toInt64 := by
  have q := h.2.1 _ _ (v_m0 (m := m) (r := r) (s := s) hi)
  rw [n_m0 (Nat.lt_of_lt_of_le hi h.1.1)] at q
  rw [q]
  unfold rd
  rw [if_neg (by rw [t_m0 (Nat.lt_of_lt_of_le hi h.1.1)]; decide), if_neg (by rw [z_m0 (Nat.lt_of_lt_of_le hi h.1.1)]; decide)]
theorem v_m1 {i : Nat} (hi : i < m) : val m r s (7 + i) 1 := by unfold val; omega
theorem n_m1 {i : Nat} (hi : i < 24) : enc (7 + i) 1 = 111 + 7 * i + 1 := by unfold enc scal; (repeat' split) <;> omega
theorem t_m1 {i : Nat} (hi : i < 24) : isL (7 + i) 1 = true := by unfold isL; simp; omega
theorem Eqv.m1 (h : Eqv K m r s A B) {i : Nat} (hi : i < m) : gL B 1 (111 + 7 * i + 1) = gL A (7 + i) 1 := by
  have q := h.2.1 _ _ (v_m1 (m := m) (r := r) (s := s) hi)
  rw [n_m1 (Nat.lt_of_lt_of_le hi h.1.1)] at q
  rw [q]
  unfold rd
  rw [if_pos (t_m1 (Nat.lt_of_lt_of_le hi h.1.1))]
theorem v_m2 {i : Nat} (hi : i < m) : val m r s (7 + i) 2 := by unfold val; omega
theorem n_m2 {i : Nat} (hi : i < 24) : enc (7 + i) 2 = 111 + 7 * i + 2 := by unfold enc scal; (repeat' split) <;> omega
theorem t_m2 {i : Nat} (hi : i < 24) : isL (7 + i) 2 = true := by unfold isL; simp; omega
theorem Eqv.m2 (h : Eqv K m r s A B) {i : Nat} (hi : i < m) : gL B 1 (111 + 7 * i + 2) = gL A (7 + i) 2 := by
  have q := h.2.1 _ _ (v_m2 (m := m) (r := r) (s := s) hi)
  rw [n_m2 (Nat.lt_of_lt_of_le hi h.1.1)] at q
  rw [q]
  unfold rd
  rw [if_pos (t_m2 (Nat.lt_of_lt_of_le hi h.1.1))]
theorem v_m3 {i : Nat} (hi : i < m) : val m r s (7 + i) 3 := by unfold val; omega
theorem n_m3 {i : Nat} (hi : i < 24) : enc (7 + i) 3 = 111 + 7 * i + 3 := by unfold enc scal; (repeat' split) <;> omega
theorem t_m3 {i : Nat} (hi : i < 24) : isL (7 + i) 3 = false := by unfold isL; simp; omega
theorem z_m3 {i : Nat} (hi : i < 24) : isZ (7 + i) 3 = false := by unfold isZ; simp; (try omega)
theorem Eqv.m3 (h : Eqv K m r s A B) {i : Nat} (hi : i < m) : gL B 1 (111 + 7 * i + 3) = (gI A (7 + i) 3).toInt64 := by
  have q := h.2.1 _ _ (v_m3 (m := m) (r := r) (s := s) hi)
  rw [n_m3 (Nat.lt_of_lt_of_le hi h.1.1)] at q
  rw [q]
  unfold rd
  rw [if_neg (by rw [t_m3 (Nat.lt_of_lt_of_le hi h.1.1)]; decide), if_neg (by rw [z_m3 (Nat.lt_of_lt_of_le hi h.1.1)]; decide)]
theorem v_m4 {i : Nat} (hi : i < m) : val m r s (7 + i) 4 := by unfold val; omega
theorem n_m4 {i : Nat} (hi : i < 24) : enc (7 + i) 4 = 111 + 7 * i + 4 := by unfold enc scal; (repeat' split) <;> omega
theorem t_m4 {i : Nat} (hi : i < 24) : isL (7 + i) 4 = false := by unfold isL; simp; omega
theorem z_m4 {i : Nat} (hi : i < 24) : isZ (7 + i) 4 = true := by unfold isZ; simp; omega
theorem Eqv.m4 (h : Eqv K m r s A B) {i : Nat} (hi : i < m) : gL B 1 (111 + 7 * i + 4) = (bo (gI A (7 + i) 4)).toInt64 := by
  have q := h.2.1 _ _ (v_m4 (m := m) (r := r) (s := s) hi)
  rw [n_m4 (Nat.lt_of_lt_of_le hi h.1.1)] at q
  rw [q]
  unfold rd
  rw [if_neg (by rw [t_m4 (Nat.lt_of_lt_of_le hi h.1.1)]; decide), if_pos (z_m4 (Nat.lt_of_lt_of_le hi h.1.1))]
theorem v_m5 {i : Nat} (hi : i < m) : val m r s (7 + i) 5 := by unfold val; omega
theorem n_m5 {i : Nat} (hi : i < 24) : enc (7 + i) 5 = 111 + 7 * i + 5 := by unfold enc scal; (repeat' split) <;> omega
theorem t_m5 {i : Nat} (hi : i < 24) : isL (7 + i) 5 = false := by unfold isL; simp; omega
theorem z_m5 {i : Nat} (hi : i < 24) : isZ (7 + i) 5 = true := by unfold isZ; simp; omega
theorem Eqv.m5 (h : Eqv K m r s A B) {i : Nat} (hi : i < m) : gL B 1 (111 + 7 * i + 5) = (bo (gI A (7 + i) 5)).toInt64 := by
  have q := h.2.1 _ _ (v_m5 (m := m) (r := r) (s := s) hi)
  rw [n_m5 (Nat.lt_of_lt_of_le hi h.1.1)] at q
  rw [q]
  unfold rd
  rw [if_neg (by rw [t_m5 (Nat.lt_of_lt_of_le hi h.1.1)]; decide), if_pos (z_m5 (Nat.lt_of_lt_of_le hi h.1.1))]
theorem v_m6 {i : Nat} (hi : i < m) : val m r s (7 + i) 6 := by unfold val; omega
theorem n_m6 {i : Nat} (hi : i < 24) : enc (7 + i) 6 = 111 + 7 * i + 6 := by unfold enc scal; (repeat' split) <;> omega
theorem t_m6 {i : Nat} (hi : i < 24) : isL (7 + i) 6 = false := by unfold isL; simp; omega
theorem z_m6 {i : Nat} (hi : i < 24) : isZ (7 + i) 6 = false := by unfold isZ; simp; (try omega)
theorem Eqv.m6 (h : Eqv K m r s A B) {i : Nat} (hi : i < m) : gL B 1 (111 + 7 * i + 6) = (gI A (7 + i) 6).toInt64 := by
  have q := h.2.1 _ _ (v_m6 (m := m) (r := r) (s := s) hi)
  rw [n_m6 (Nat.lt_of_lt_of_le hi h.1.1)] at q
  rw [q]
  unfold rd
  rw [if_neg (by rw [t_m6 (Nat.lt_of_lt_of_le hi h.1.1)]; decide), if_neg (by rw [z_m6 (Nat.lt_of_lt_of_le hi h.1.1)]; decide)]
theorem v_k0 {i : Nat} (hi : i < r) : val m r s (31 + i) 0 := by unfold val; omega
theorem n_k0 {i : Nat} (hi : i < 6) : enc (31 + i) 0 = 279 + 4 * i + 0 := by unfold enc scal; (repeat' split) <;> omega
theorem t_k0 {i : Nat} (hi : i < 6) : isL (31 + i) 0 = false := by unfold isL; simp; omega
theorem z_k0 {i : Nat} (hi : i < 6) : isZ (31 + i) 0 = false := by unfold isZ; simp; (try omega)
theorem Eqv.k0 (h : Eqv K m r s A B) {i : Nat} (hi : i < r) : gL B 1 (279 + 4 * i + 0) = (gI A (31 + i) 0).toInt64 := by
  have q := h.2.1 _ _ (v_k0 (m := m) (r := r) (s := s) hi)
  rw [n_k0 (Nat.lt_of_lt_of_le hi h.1.2.1)] at q
  rw [q]
  unfold rd
  rw [if_neg (by rw [t_k0 (Nat.lt_of_lt_of_le hi h.1.2.1)]; decide), if_neg (by rw [z_k0 (Nat.lt_of_lt_of_le hi h.1.2.1)]; decide)]
theorem v_k1 {i : Nat} (hi : i < r) : val m r s (31 + i) 1 := by unfold val; omega
theorem n_k1 {i : Nat} (hi : i < 6) : enc (31 + i) 1 = 279 + 4 * i + 1 := by unfold enc scal; (repeat' split) <;> omega
theorem t_k1 {i : Nat} (hi : i < 6) : isL (31 + i) 1 = false := by unfold isL; simp; omega
theorem z_k1 {i : Nat} (hi : i < 6) : isZ (31 + i) 1 = false := by unfold isZ; simp; (try omega)
theorem Eqv.k1 (h : Eqv K m r s A B) {i : Nat} (hi : i < r) : gL B 1 (279 + 4 * i + 1) = (gI A (31 + i) 1).toInt64 := by
  have q := h.2.1 _ _ (v_k1 (m := m) (r := r) (s := s) hi)
  rw [n_k1 (Nat.lt_of_lt_of_le hi h.1.2.1)] at q
  rw [q]
  unfold rd
  rw [if_neg (by rw [t_k1 (Nat.lt_of_lt_of_le hi h.1.2.1)]; decide), if_neg (by rw [z_k1 (Nat.lt_of_lt_of_le hi h.1.2.1)]; decide)]
theorem v_k2 {i : Nat} (hi : i < r) : val m r s (31 + i) 2 := by unfold val; omega
theorem n_k2 {i : Nat} (hi : i < 6) : enc (31 + i) 2 = 279 + 4 * i + 2 := by unfold enc scal; (repeat' split) <;> omega
theorem t_k2 {i : Nat} (hi : i < 6) : isL (31 + i) 2 = false := by unfold isL; simp; omega
theorem z_k2 {i : Nat} (hi : i < 6) : isZ (31 + i) 2 = false := by unfold isZ; simp; (try omega)
theorem Eqv.k2 (h : Eqv K m r s A B) {i : Nat} (hi : i < r) : gL B 1 (279 + 4 * i + 2) = (gI A (31 + i) 2).toInt64 := by
  have q := h.2.1 _ _ (v_k2 (m := m) (r := r) (s := s) hi)
  rw [n_k2 (Nat.lt_of_lt_of_le hi h.1.2.1)] at q
  rw [q]
  unfold rd
  rw [if_neg (by rw [t_k2 (Nat.lt_of_lt_of_le hi h.1.2.1)]; decide), if_neg (by rw [z_k2 (Nat.lt_of_lt_of_le hi h.1.2.1)]; decide)]
theorem v_k3 {i : Nat} (hi : i < r) : val m r s (31 + i) 3 := by unfold val; omega
theorem n_k3 {i : Nat} (hi : i < 6) : enc (31 + i) 3 = 279 + 4 * i + 3 := by unfold enc scal; (repeat' split) <;> omega
theorem t_k3 {i : Nat} (hi : i < 6) : isL (31 + i) 3 = true := by unfold isL; simp; omega
theorem Eqv.k3 (h : Eqv K m r s A B) {i : Nat} (hi : i < r) : gL B 1 (279 + 4 * i + 3) = gL A (31 + i) 3 := by
  have q := h.2.1 _ _ (v_k3 (m := m) (r := r) (s := s) hi)
  rw [n_k3 (Nat.lt_of_lt_of_le hi h.1.2.1)] at q
  rw [q]
  unfold rd
  rw [if_pos (t_k3 (Nat.lt_of_lt_of_le hi h.1.2.1))]
theorem v_s0 {i : Nat} (hi : i < s) : val m r s (37 + i) 0 := by unfold val; omega
theorem n_s0 {i : Nat} (hi : i < 40) : enc (37 + i) 0 = 303 + 14 * i + 0 := by unfold enc scal; (repeat' split) <;> omega
theorem t_s0 {i : Nat} (hi : i < 40) : isL (37 + i) 0 = false := by unfold isL; simp; omega
theorem z_s0 {i : Nat} (hi : i < 40) : isZ (37 + i) 0 = false := by unfold isZ; simp; (try omega)
theorem Eqv.s0 (h : Eqv K m r s A B) {i : Nat} (hi : i < s) : gL B 1 (303 + 14 * i + 0) = (gI A (37 + i) 0).toInt64 := by
  have q := h.2.1 _ _ (v_s0 (m := m) (r := r) (s := s) hi)
  rw [n_s0 (Nat.lt_of_lt_of_le hi h.1.2.2)] at q
  rw [q]
  unfold rd
  rw [if_neg (by rw [t_s0 (Nat.lt_of_lt_of_le hi h.1.2.2)]; decide), if_neg (by rw [z_s0 (Nat.lt_of_lt_of_le hi h.1.2.2)]; decide)]
theorem v_s1 {i : Nat} (hi : i < s) : val m r s (37 + i) 1 := by unfold val; omega
theorem n_s1 {i : Nat} (hi : i < 40) : enc (37 + i) 1 = 303 + 14 * i + 1 := by unfold enc scal; (repeat' split) <;> omega
theorem t_s1 {i : Nat} (hi : i < 40) : isL (37 + i) 1 = false := by unfold isL; simp; omega
theorem z_s1 {i : Nat} (hi : i < 40) : isZ (37 + i) 1 = false := by unfold isZ; simp; (try omega)
theorem Eqv.s1 (h : Eqv K m r s A B) {i : Nat} (hi : i < s) : gL B 1 (303 + 14 * i + 1) = (gI A (37 + i) 1).toInt64 := by
  have q := h.2.1 _ _ (v_s1 (m := m) (r := r) (s := s) hi)
  rw [n_s1 (Nat.lt_of_lt_of_le hi h.1.2.2)] at q
  rw [q]
  unfold rd
  rw [if_neg (by rw [t_s1 (Nat.lt_of_lt_of_le hi h.1.2.2)]; decide), if_neg (by rw [z_s1 (Nat.lt_of_lt_of_le hi h.1.2.2)]; decide)]
theorem v_s2 {i : Nat} (hi : i < s) : val m r s (37 + i) 2 := by unfold val; omega
theorem n_s2 {i : Nat} (hi : i < 40) : enc (37 + i) 2 = 303 + 14 * i + 2 := by unfold enc scal; (repeat' split) <;> omega
theorem t_s2 {i : Nat} (hi : i < 40) : isL (37 + i) 2 = false := by unfold isL; simp; omega
theorem z_s2 {i : Nat} (hi : i < 40) : isZ (37 + i) 2 = false := by unfold isZ; simp; (try omega)
theorem Eqv.s2 (h : Eqv K m r s A B) {i : Nat} (hi : i < s) : gL B 1 (303 + 14 * i + 2) = (gI A (37 + i) 2).toInt64 := by
  have q := h.2.1 _ _ (v_s2 (m := m) (r := r) (s := s) hi)
  rw [n_s2 (Nat.lt_of_lt_of_le hi h.1.2.2)] at q
  rw [q]
  unfold rd
  rw [if_neg (by rw [t_s2 (Nat.lt_of_lt_of_le hi h.1.2.2)]; decide), if_neg (by rw [z_s2 (Nat.lt_of_lt_of_le hi h.1.2.2)]; decide)]
theorem v_s3 {i : Nat} (hi : i < s) : val m r s (37 + i) 3 := by unfold val; omega
theorem n_s3 {i : Nat} (hi : i < 40) : enc (37 + i) 3 = 303 + 14 * i + 3 := by unfold enc scal; (repeat' split) <;> omega
theorem t_s3 {i : Nat} (hi : i < 40) : isL (37 + i) 3 = false := by unfold isL; simp; omega
theorem z_s3 {i : Nat} (hi : i < 40) : isZ (37 + i) 3 = false := by unfold isZ; simp; (try omega)
theorem Eqv.s3 (h : Eqv K m r s A B) {i : Nat} (hi : i < s) : gL B 1 (303 + 14 * i + 3) = (gI A (37 + i) 3).toInt64 := by
  have q := h.2.1 _ _ (v_s3 (m := m) (r := r) (s := s) hi)
  rw [n_s3 (Nat.lt_of_lt_of_le hi h.1.2.2)] at q
  rw [q]
  unfold rd
  rw [if_neg (by rw [t_s3 (Nat.lt_of_lt_of_le hi h.1.2.2)]; decide), if_neg (by rw [z_s3 (Nat.lt_of_lt_of_le hi h.1.2.2)]; decide)]
theorem v_s4 {i : Nat} (hi : i < s) : val m r s (37 + i) 4 := by unfold val; omega
theorem n_s4 {i : Nat} (hi : i < 40) : enc (37 + i) 4 = 303 + 14 * i + 4 := by unfold enc scal; (repeat' split) <;> omega
theorem t_s4 {i : Nat} (hi : i < 40) : isL (37 + i) 4 = false := by unfold isL; simp; omega
theorem z_s4 {i : Nat} (hi : i < 40) : isZ (37 + i) 4 = false := by unfold isZ; simp; (try omega)
theorem Eqv.s4 (h : Eqv K m r s A B) {i : Nat} (hi : i < s) : gL B 1 (303 + 14 * i + 4) = (gI A (37 + i) 4).toInt64 := by
  have q := h.2.1 _ _ (v_s4 (m := m) (r := r) (s := s) hi)
  rw [n_s4 (Nat.lt_of_lt_of_le hi h.1.2.2)] at q
  rw [q]
  unfold rd
  rw [if_neg (by rw [t_s4 (Nat.lt_of_lt_of_le hi h.1.2.2)]; decide), if_neg (by rw [z_s4 (Nat.lt_of_lt_of_le hi h.1.2.2)]; decide)]
theorem v_s5 {i : Nat} (hi : i < s) : val m r s (37 + i) 5 := by unfold val; omega
theorem n_s5 {i : Nat} (hi : i < 40) : enc (37 + i) 5 = 303 + 14 * i + 5 := by unfold enc scal; (repeat' split) <;> omega
theorem t_s5 {i : Nat} (hi : i < 40) : isL (37 + i) 5 = false := by unfold isL; simp; omega
theorem z_s5 {i : Nat} (hi : i < 40) : isZ (37 + i) 5 = false := by unfold isZ; simp; (try omega)
theorem Eqv.s5 (h : Eqv K m r s A B) {i : Nat} (hi : i < s) : gL B 1 (303 + 14 * i + 5) = (gI A (37 + i) 5).toInt64 := by
  have q := h.2.1 _ _ (v_s5 (m := m) (r := r) (s := s) hi)
  rw [n_s5 (Nat.lt_of_lt_of_le hi h.1.2.2)] at q
  rw [q]
  unfold rd
  rw [if_neg (by rw [t_s5 (Nat.lt_of_lt_of_le hi h.1.2.2)]; decide), if_neg (by rw [z_s5 (Nat.lt_of_lt_of_le hi h.1.2.2)]; decide)]
theorem v_s6 {i : Nat} (hi : i < s) : val m r s (37 + i) 6 := by unfold val; omega
theorem n_s6 {i : Nat} (hi : i < 40) : enc (37 + i) 6 = 303 + 14 * i + 6 := by unfold enc scal; (repeat' split) <;> omega
theorem t_s6 {i : Nat} (hi : i < 40) : isL (37 + i) 6 = true := by unfold isL; simp; omega
theorem Eqv.s6 (h : Eqv K m r s A B) {i : Nat} (hi : i < s) : gL B 1 (303 + 14 * i + 6) = gL A (37 + i) 6 := by
  have q := h.2.1 _ _ (v_s6 (m := m) (r := r) (s := s) hi)
  rw [n_s6 (Nat.lt_of_lt_of_le hi h.1.2.2)] at q
  rw [q]
  unfold rd
  rw [if_pos (t_s6 (Nat.lt_of_lt_of_le hi h.1.2.2))]
theorem v_s7 {i : Nat} (hi : i < s) : val m r s (37 + i) 7 := by unfold val; omega
theorem n_s7 {i : Nat} (hi : i < 40) : enc (37 + i) 7 = 303 + 14 * i + 7 := by unfold enc scal; (repeat' split) <;> omega
theorem t_s7 {i : Nat} (hi : i < 40) : isL (37 + i) 7 = true := by unfold isL; simp; omega
theorem Eqv.s7 (h : Eqv K m r s A B) {i : Nat} (hi : i < s) : gL B 1 (303 + 14 * i + 7) = gL A (37 + i) 7 := by
  have q := h.2.1 _ _ (v_s7 (m := m) (r := r) (s := s) hi)
  rw [n_s7 (Nat.lt_of_lt_of_le hi h.1.2.2)] at q
  rw [q]
  unfold rd
  rw [if_pos (t_s7 (Nat.lt_of_lt_of_le hi h.1.2.2))]
theorem v_s8 {i : Nat} (hi : i < s) : val m r s (37 + i) 8 := by unfold val; omega
theorem n_s8 {i : Nat} (hi : i < 40) : enc (37 + i) 8 = 303 + 14 * i + 8 := by unfold enc scal; (repeat' split) <;> omega
theorem t_s8 {i : Nat} (hi : i < 40) : isL (37 + i) 8 = false := by unfold isL; simp; omega
theorem z_s8 {i : Nat} (hi : i < 40) : isZ (37 + i) 8 = false := by unfold isZ; simp; (try omega)
theorem Eqv.s8 (h : Eqv K m r s A B) {i : Nat} (hi : i < s) : gL B 1 (303 + 14 * i + 8) = (gI A (37 + i) 8).toInt64 := by
  have q := h.2.1 _ _ (v_s8 (m := m) (r := r) (s := s) hi)
  rw [n_s8 (Nat.lt_of_lt_of_le hi h.1.2.2)] at q
  rw [q]
  unfold rd
  rw [if_neg (by rw [t_s8 (Nat.lt_of_lt_of_le hi h.1.2.2)]; decide), if_neg (by rw [z_s8 (Nat.lt_of_lt_of_le hi h.1.2.2)]; decide)]
theorem v_s10 {i : Nat} (hi : i < s) : val m r s (37 + i) 10 := by unfold val; omega
theorem n_s10 {i : Nat} (hi : i < 40) : enc (37 + i) 10 = 303 + 14 * i + 10 := by unfold enc scal; (repeat' split) <;> omega
theorem t_s10 {i : Nat} (hi : i < 40) : isL (37 + i) 10 = false := by unfold isL; simp; omega
theorem z_s10 {i : Nat} (hi : i < 40) : isZ (37 + i) 10 = false := by unfold isZ; simp; (try omega)
theorem Eqv.s10 (h : Eqv K m r s A B) {i : Nat} (hi : i < s) : gL B 1 (303 + 14 * i + 10) = (gI A (37 + i) 10).toInt64 := by
  have q := h.2.1 _ _ (v_s10 (m := m) (r := r) (s := s) hi)
  rw [n_s10 (Nat.lt_of_lt_of_le hi h.1.2.2)] at q
  rw [q]
  unfold rd
  rw [if_neg (by rw [t_s10 (Nat.lt_of_lt_of_le hi h.1.2.2)]; decide), if_neg (by rw [z_s10 (Nat.lt_of_lt_of_le hi h.1.2.2)]; decide)]
theorem v_s11 {i : Nat} (hi : i < s) : val m r s (37 + i) 11 := by unfold val; omega
theorem n_s11 {i : Nat} (hi : i < 40) : enc (37 + i) 11 = 303 + 14 * i + 12 := by unfold enc scal; (repeat' split) <;> omega
theorem t_s11 {i : Nat} (hi : i < 40) : isL (37 + i) 11 = true := by unfold isL; simp; omega
theorem Eqv.s11 (h : Eqv K m r s A B) {i : Nat} (hi : i < s) : gL B 1 (303 + 14 * i + 12) = gL A (37 + i) 11 := by
  have q := h.2.1 _ _ (v_s11 (m := m) (r := r) (s := s) hi)
  rw [n_s11 (Nat.lt_of_lt_of_le hi h.1.2.2)] at q
  rw [q]
  unfold rd
  rw [if_pos (t_s11 (Nat.lt_of_lt_of_le hi h.1.2.2))]
theorem v_s13 {i : Nat} (hi : i < s) : val m r s (37 + i) 13 := by unfold val; omega
theorem n_s13 {i : Nat} (hi : i < 40) : enc (37 + i) 13 = 303 + 14 * i + 13 := by unfold enc scal; (repeat' split) <;> omega
theorem t_s13 {i : Nat} (hi : i < 40) : isL (37 + i) 13 = false := by unfold isL; simp; omega
theorem z_s13 {i : Nat} (hi : i < 40) : isZ (37 + i) 13 = true := by unfold isZ; simp; omega
theorem Eqv.s13 (h : Eqv K m r s A B) {i : Nat} (hi : i < s) : gL B 1 (303 + 14 * i + 13) = (bo (gI A (37 + i) 13)).toInt64 := by
  have q := h.2.1 _ _ (v_s13 (m := m) (r := r) (s := s) hi)
  rw [n_s13 (Nat.lt_of_lt_of_le hi h.1.2.2)] at q
  rw [q]
  unfold rd
  rw [if_neg (by rw [t_s13 (Nat.lt_of_lt_of_le hi h.1.2.2)]; decide), if_pos (z_s13 (Nat.lt_of_lt_of_le hi h.1.2.2))]
theorem v_d {i y : Nat} (hi : i < s) (hy : y < 60) : val m r s (77 + i) y := by unfold val; omega
theorem n_d {i y : Nat} : enc (77 + i) y = 863 + 60 * i + y := by unfold enc scal; (repeat' split) <;> omega
theorem t_d {i y : Nat} : isL (77 + i) y = true := by unfold isL; simp
theorem Eqv.d (h : Eqv K m r s A B) {i y : Nat} (hi : i < s) (hy : y < 60) : gL B 1 (863 + 60 * i + y) = gL A (77 + i) y := by
  have q := h.2.1 _ _ (v_d (m := m) (r := r) (s := s) hi hy)
  rw [n_d] at q
  rw [q]
  unfold rd
  rw [if_pos t_d]
end EqvRows

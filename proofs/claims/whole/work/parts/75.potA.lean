/-! ===== the pot is parted: the class ===== -/
def qd (hw : Nat → Int32) (i : Nat) : Bool := !(decide ((2 : Int32) ≤ hw i))
def FA (N r s : Nat) (hw : Nat → Int32) (ra u : Nat → Nat) (A : MM) : Prop := ∀ i, i < s → gI A (37 + i) 3 = nI (u i) ∧ 1 ≤ u i ∧ u i ≤ 1000 ∧ gI A (37 + i) 4 = nI (ra i) ∧ ra i < r ∧ F_X0_howItIs N (37 + i) A = some (hw i) ∧ (hw i = 0 ∨ hw i = 1 ∨ hw i = 2 ∨ hw i = 3)
def FB (N s : Nat) (hw : Nat → Int32) (ra u : Nat → Nat) (B : MM) : Prop := ∀ i, i < s → gL B 1 (303 + 14 * i + 3) = lN (u i) ∧ gL B 1 (303 + 14 * i + 4) = lN (ra i) ∧ F_X6_stands N (nI i) B = some (hw i)
theorem how_gI {N c : Nat} {M A : MM} (h : gI M = gI A) : F_X0_howItIs N c M = F_X0_howItIs N c A := by
  obtain ⟨a, b⟩ := M
  obtain ⟨a', b'⟩ := A
  have e : a = a' := h
  subst e
  rfl
theorem lN_le0 {a : Nat} (h : a < 2 ^ 63) : (lN a ≤ 0) = (a = 0) := propext (by
  rw [Int64.le_iff_toInt_le, pk_lT h, show (0 : Int64).toInt = 0 from rfl]
  omega)
theorem lN_e0 {a : Nat} (h : a < 2 ^ 63) : (lN a = 0) = (a = 0) := propext (by
  rw [← Int64.toInt_inj, pk_lT h, show (0 : Int64).toInt = 0 from rfl]
  omega)
theorem parted_e {a b c : Nat} (h : a * b < 2 ^ 63) (hc : c < 2 ^ 63) : F_X5_parted (lN a) (lN b) (lN c) = lN (a * b / c) := by
  rw [F_X5_parted]
  simp only [lN_le0 hc]
  by_cases h0 : c = 0
  · rw [if_pos h0, h0, Nat.div_zero]; rfl
  · rw [if_neg h0, lN_mul]
    exact pk_lDiv h (by omega) hc
section PotA
variable {r s N : Nat} {A M : MM} {hw : Nat → Int32} {ra u : Nat → Nat}
theorem draws_e (hF : FA N r s hw ra u A) (hM : gI M = gI A) {j : Nat} (hj : j < s) : F_X0_isDrawing N (37 + j) M = some (qd hw j) := by
  obtain ⟨-, -, -, -, -, v6, v7⟩ := hF j hj
  rw [F_X0_isDrawing, how_gI hM, v6, bn1_e]
  unfold qd
  rcases v7 with h | h | h | h <;> rw [h] <;> rfl
theorem unt_bd (hF : FA N r s hw ra u A) {k j : Nat} (hj : j ≤ s) (hs : s ≤ 40) : untN (qd hw) ra u k j ≤ 40000 := by
  unfold untN
  have : sN (fun i => if qd hw i = true ∧ ra i = k then u i else 0) j ≤ j * 1000 := sN_bd (fun i hi => by
    have := hF i (by omega)
    split <;> omega)
  omega
theorem units_e (hs6 : gI A 1 6 = nI s) (hs : s ≤ 40) (hr : r ≤ 6) (hF : FA N r s hw ra u A) (hM : gI M = gI A) {k : Nat} (hk : k < r) : ∀ (fu j : Nat), j ≤ s → s < j + fu → F_X0_drawingUnits_5 N (nI k) fu (lN (untN (qd hw) ra u k j)) (nI j) M = some (lN (untN (qd hw) ra u k s)) := by
  intro fu
  induction fu with
  | zero => intro j h1 h2; omega
  | succ fu ih =>
    intro j h1 h2
    have hM16 : gI M 1 6 = nI s := by rw [hM]; exact hs6
    rw [F_X0_drawingUnits_5, hM16]
    simp (disch := omega) only [nIl]
    by_cases hj : s ≤ j
    · have : j = s := by omega
      subst this
      rw [if_pos hj]
    · have hj2 : j < s := by omega
      obtain ⟨v1, v2, v3, v4, v5, v6, v7⟩ := hF j hj2
      have m3 : gI M (37 + j) 3 = nI (u j) := by rw [hM]; exact v1
      have m4 : gI M (37 + j) 4 = nI (ra j) := by rw [hM]; exact v4
      have ih' := ih (j + 1) (by omega) (by omega)
      have e1 : untN (qd hw) ra u k (j + 1) = untN (qd hw) ra u k j + (if qd hw j = true ∧ ra j = k then u j else 0) := rfl
      rw [if_neg hj, gd_ib (by omega) (by omega), ixn (by omega), m3, m4, draws_e hF hM hj2, bn1_e, nI_1, nIw (by omega), bnd_e, lN_add]
      simp (disch := omega) only [nIe]
      by_cases e : ra j = k
      · rw [if_pos e]
        cases hq : qd hw j with
        | false =>
          rw [e1, if_neg (by rw [hq]; intro z; cases z.1), Nat.add_zero] at ih'
          rw [bIf]
          exact ih'
        | true =>
          rw [e1, if_pos ⟨hq, e⟩] at ih'
          rw [bIt]
          exact ih'
      · rw [if_neg e]
        rw [e1, if_neg (fun z => e z.2), Nat.add_zero] at ih'
        exact ih'
theorem stk_e {st : Nat → Nat} (hr5 : gI M 1 5 = nI r) (hr : r ≤ 6) (hst : ∀ k, k < r → gL M (31 + k) 3 = lN (st k)) : ∀ (fu j : Nat), j ≤ r → r < j + fu → F_X0_allStocks_4 N fu (lN (sN st j)) (nI j) M = some (lN (sN st r)) := by
  intro fu
  induction fu with
  | zero => intro j h1 h2; omega
  | succ fu ih =>
    intro j h1 h2
    rw [F_X0_allStocks_4, hr5]
    simp (disch := omega) only [nIl]
    by_cases hj : r ≤ j
    · have : j = r := by omega
      subst this
      rw [if_pos hj]
    · rw [if_neg hj, gd_ib (by omega) (by omega), ixn (by omega), hst j (by omega), bnd_e, lN_add, nI_1]
      exact ih (j + 1) (by omega) (by omega)
set_option maxHeartbeats 4000000 in
theorem pot_loop {pn ST : Nat} {st p U : Nat → Nat} (hN : 6000 ≤ N) (hs6 : gI A 1 6 = nI s) (hr5 : gI A 1 5 = nI r) (hs : s ≤ 40) (hr : r ≤ 6) (hF : FA N r s hw ra u A) (hpn : pn ≤ 6200000000) (hst : ∀ k, k < r → st k ≤ 400000000) (hST : ST ≤ 2400000000) (hp : p = fun k => pn * st k / ST) (hU : U = fun k => untN (qd hw) ra u k s) {x : Int32} : ∀ (fu j : Nat) (M : MM), gI M = gI A → gL M 1 10 = lN pn → (∀ k, k < r → gL M (31 + k) 3 = lN (st k)) → j ≤ r → r < j + fu → ∃ M', F_X0_partPot_33 N x fu (lN ST) (lN (hnd U p j)) (nI j) M = some M' ∧ gI M' = gI M ∧ (∀ c z, ¬ (31 + j ≤ c ∧ c < 31 + r ∧ (z = 4 ∨ z = 5)) → gL M' c z = gL M c z) ∧ (∀ k, j ≤ k → k < r → gL M' (31 + k) 4 = lN (tot U p k) ∧ gL M' (31 + k) 5 = lN (U k)) := by
  intro fu
  induction fu with
  | zero => intro j M g1 g2 g3 h1 h2; omega
  | succ fu ih =>
    intro j M g1 g2 g3 h1 h2
    have hM15 : gI M 1 5 = nI r := by rw [g1]; exact hr5
    rw [F_X0_partPot_33, hM15]
    simp (disch := omega) only [nIl]
    by_cases hj : r ≤ j
    · rw [if_pos hj]
      exact ⟨M, rfl, rfl, fun _ _ _ => rfl, fun k h3 h4 => by omega⟩
    · have hj2 : j < r := by omega
      have hun : F_X0_drawingUnits N (nI j) M = some (lN (U j)) := by
        rw [hU]
        exact units_e hs6 hs hr hF g1 hj2 N 0 (by omega) (by omega)
      have hUb : U j ≤ 40000 := by rw [hU]; exact unt_bd hF (Nat.le_refl _) hs
      have hmb : pn * st j < 2 ^ 63 := by
        have : pn * st j ≤ 6200000000 * 400000000 := Nat.mul_le_mul hpn (hst j hj2)
        omega
      have hpj : F_X5_parted (lN pn) (lN (st j)) (lN ST) = lN (p j) := by
        rw [parted_e hmb (by omega), hp]
      rw [if_neg hj, gd_ib (by omega) (by omega), ixn (by omega), hun, bn1_e, bnd_e, gLn (by omega), g2, gLn (by omega), g3 j hj2, hpj, lN_add, bnd_e, gLn (by omega), gLe, gLe, bnd_e, nI_1]
      simp only [lN_le0 (show U j < 2 ^ 63 by omega)]
      have key : ∀ (v : Int64), v = lN (hnd U p (j + 1)) → ∃ M', F_X0_partPot_33 N x fu (lN ST) v (nI (j + 1)) (sL (sL M (31 + j) 5 (lN (U j))) (31 + j) 4 (lN (hnd U p j + p j))) = some M' ∧ gI M' = gI M ∧ (∀ c z, ¬ (31 + j ≤ c ∧ c < 31 + r ∧ (z = 4 ∨ z = 5)) → gL M' c z = gL M c z) ∧ (∀ k, j ≤ k → k < r → gL M' (31 + k) 4 = lN (tot U p k) ∧ gL M' (31 + k) 5 = lN (U k)) := by
        intro v hv
        subst hv
        obtain ⟨M', q1, q2, q3, q4⟩ := ih (j + 1) (sL (sL M (31 + j) 5 (lN (U j))) (31 + j) 4 (lN (hnd U p j + p j))) g1 (by rw [gLn (by omega), gLn (by omega)]; exact g2) (fun k hk => by rw [gLn (by omega), gLn (by omega)]; exact g3 k hk) (by omega) (by omega)
        refine ⟨M', q1, q2, fun c z q => by rw [q3 c z (by omega), gLn (by omega), gLn (by omega)], fun k h3 h4 => ?_⟩
        by_cases e : k = j
        · subst e
          rw [q3 _ _ (by omega), q3 _ _ (by omega), gLe, gLn (by omega), gLe]
          exact ⟨rfl, rfl⟩
        · exact q4 k (by omega) h4
      by_cases hu0 : U j = 0
      · rw [if_pos hu0]
        exact key _ (by rw [hnd, if_pos hu0])
      · rw [if_neg hu0]
        exact key _ (by rw [hnd, if_neg hu0]; rfl)
set_option maxHeartbeats 4000000 in
/-- the class's first step of close -/
theorem potA {pn ST ca cn : Nat} {st p U : Nat → Nat} (hN : 6000 ≤ N) (hs6 : gI A 1 6 = nI s) (hr5 : gI A 1 5 = nI r) (hs : s ≤ 40) (hr : r ≤ 6) (hF : FA N r s hw ra u A) (hca : gL A 1 10 = lN ca) (hpc : pn = ca + cn) (hst3 : ∀ k, k < r → gL A (31 + k) 3 = lN (st k)) (hpn : pn ≤ 6200000000) (hst : ∀ k, k < r → st k ≤ 400000000) (hSe : ST = sN st r) (hp : p = fun k => pn * st k / ST) (hU : U = fun k => untN (qd hw) ra u k s) (hcn : cn < 2 ^ 31) : ∃ A2, F_X0_partPot N (nI cn) A = some A2 ∧ gI A2 = gI A ∧ (∀ c z, ¬ (c = 1 ∧ (z = 10 ∨ z = 12)) → ¬ (31 ≤ c ∧ c < 31 + r ∧ (z = 4 ∨ z = 5)) → gL A2 c z = gL A c z) ∧ gL A2 1 10 = lN pn ∧ gL A2 1 12 = gL A 1 12 + lN cn ∧ (∀ k, k < r → gL A2 (31 + k) 4 = lN (tot U p k) ∧ gL A2 (31 + k) 5 = lN (U k)) := by
  have hSTb : ST ≤ 2400000000 := by
    have : sN st r ≤ r * 400000000 := sN_bd hst
    omega
  obtain ⟨M, hM⟩ : ∃ M, M = sL (sL A 1 10 (lN pn)) 1 12 (gL A 1 12 + lN cn) := ⟨_, rfl⟩
  have m1 : gI M = gI A := by rw [hM]; rfl
  have m2 : gL M 1 10 = lN pn := by rw [hM, gLn (by omega), gLe]
  have m3 : ∀ k, k < r → gL M (31 + k) 3 = lN (st k) := fun k hk => by rw [hM, gLn (by omega), gLn (by omega)]; exact hst3 k hk
  have hstk := stk_e (N := N) (M := M) (r := r) (st := st) (by rw [m1]; exact hr5) hr m3 N 0 (by omega) (by omega)
  have hstk' : F_X0_allStocks N M = some (lN ST) := by rw [hSe]; exact hstk
  obtain ⟨A2, q1, q2, q3, q4⟩ := pot_loop (x := nI cn) hN hs6 hr5 hs hr hF hpn hst hSTb hp hU N 0 M m1 m2 m3 (by omega) (by omega)
  have q1' : F_X0_partPot_33 N (nI cn) N (lN ST) (0 : Int64) (0 : Int32) M = some A2 := q1
  refine ⟨A2, ?_, by rw [q2, m1], fun c z w1 w2 => ?_, ?_, ?_, fun k hk => q4 k (by omega) hk⟩
  · rw [F_X0_partPot, nI_l hcn, hca, lN_add, ← hpc, bnd_e, gLn (by omega), bnd_e, ← hM, hstk', bn1_e, q1']
  · rw [q3 c z (by omega), hM, gLn (by omega), gLn (by omega)]
  · rw [q3 _ _ (by omega)]; exact m2
  · rw [q3 _ _ (by omega), hM, gLe]
end PotA

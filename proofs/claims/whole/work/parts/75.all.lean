section
/-! ===== the pot is parted: the class ===== -/
def qd (hw : Nat → Int32) (i : Nat) : Bool := !(decide ((2 : Int32) ≤ hw i))
def FA (N r s : Nat) (hw : Nat → Int32) (ra u : Nat → Nat) (A : MM) : Prop := ∀ i, i < s → gI A (37 + i) 3 = nI (u i) ∧ 1 ≤ u i ∧ u i ≤ 1000 ∧ gI A (37 + i) 4 = nI (ra i) ∧ ra i < r ∧ F_X0_howItIs N (37 + i) A = some (hw i) ∧ (hw i = 0 ∨ hw i = 1 ∨ hw i = 2 ∨ hw i = 3)
def FB (N s : Nat) (hw : Nat → Int32) (ra u : Nat → Nat) (B : MM) : Prop := ∀ i, i < s → gL B 1 (303 + 14 * i + 3) = lN (u i) ∧ gL B 1 (303 + 14 * i + 4) = lN (ra i) ∧ F_X6_stands N (nI i) B = some (hw i)
theorem how_gI {N c : Nat} {M A : MM} (h : gI M = gI A) : F_X0_howItIs N c M = F_X0_howItIs N c A := by
  obtain ⟨a, b⟩ := M
  obtain ⟨a', b'⟩ := A
  have e : a = a' := h
  subst e
  rfl
theorem lN_le0 {a : Nat} (h : a < 2 ^ 63) : (lN a ≤ 0) = (a = 0) := propext (by
  rw [Int64.le_iff_toInt_le, pk_lT h, show (0 : Int64).toInt = 0 from rfl]
  omega)
theorem lN_e0 {a : Nat} (h : a < 2 ^ 63) : (lN a = 0) = (a = 0) := propext (by
  rw [← Int64.toInt_inj, pk_lT h, show (0 : Int64).toInt = 0 from rfl]
  omega)
theorem parted_e {a b c : Nat} (h : a * b < 2 ^ 63) (hc : c < 2 ^ 63) : F_X5_parted (lN a) (lN b) (lN c) = lN (a * b / c) := by
  rw [F_X5_parted]
  simp only [lN_le0 hc]
  by_cases h0 : c = 0
  · rw [if_pos h0, h0, Nat.div_zero]; rfl
  · rw [if_neg h0, lN_mul]
    exact pk_lDiv h (by omega) hc
section PotA
variable {r s N : Nat} {A M : MM} {hw : Nat → Int32} {ra u : Nat → Nat}
theorem draws_e (hF : FA N r s hw ra u A) (hM : gI M = gI A) {j : Nat} (hj : j < s) : F_X0_isDrawing N (37 + j) M = some (qd hw j) := by
  obtain ⟨-, -, -, -, -, v6, v7⟩ := hF j hj
  rw [F_X0_isDrawing, how_gI hM, v6, bn1_e]
  unfold qd
  rcases v7 with h | h | h | h <;> rw [h] <;> rfl
theorem unt_bd (hF : FA N r s hw ra u A) {k j : Nat} (hj : j ≤ s) (hs : s ≤ 40) : untN (qd hw) ra u k j ≤ 40000 := by
  unfold untN
  have : sN (fun i => if qd hw i = true ∧ ra i = k then u i else 0) j ≤ j * 1000 := sN_bd (fun i hi => by
    have := hF i (by omega)
    split <;> omega)
  omega
theorem units_e (hs6 : gI A 1 6 = nI s) (hs : s ≤ 40) (hr : r ≤ 6) (hF : FA N r s hw ra u A) (hM : gI M = gI A) {k : Nat} (hk : k < r) : ∀ (fu j : Nat), j ≤ s → s < j + fu → F_X0_drawingUnits_5 N (nI k) fu (lN (untN (qd hw) ra u k j)) (nI j) M = some (lN (untN (qd hw) ra u k s)) := by
  intro fu
  induction fu with
  | zero => intro j h1 h2; omega
  | succ fu ih =>
    intro j h1 h2
    have hM16 : gI M 1 6 = nI s := by rw [hM]; exact hs6
    rw [F_X0_drawingUnits_5, hM16]
    simp (disch := omega) only [nIl]
    by_cases hj : s ≤ j
    · have : j = s := by omega
      subst this
      rw [if_pos hj]
    · have hj2 : j < s := by omega
      obtain ⟨v1, v2, v3, v4, v5, v6, v7⟩ := hF j hj2
      have m3 : gI M (37 + j) 3 = nI (u j) := by rw [hM]; exact v1
      have m4 : gI M (37 + j) 4 = nI (ra j) := by rw [hM]; exact v4
      have ih' := ih (j + 1) (by omega) (by omega)
      have e1 : untN (qd hw) ra u k (j + 1) = untN (qd hw) ra u k j + (if qd hw j = true ∧ ra j = k then u j else 0) := rfl
      rw [if_neg hj, gd_ib (by omega) (by omega), ixn (by omega), m3, m4, draws_e hF hM hj2, bn1_e, nI_1, nIw (by omega), bnd_e, lN_add]
      simp (disch := omega) only [nIe]
      by_cases e : ra j = k
      · rw [if_pos e]
        cases hq : qd hw j with
        | false =>
          rw [e1, if_neg (by rw [hq]; intro z; cases z.1), Nat.add_zero] at ih'
          rw [bIf]
          exact ih'
        | true =>
          rw [e1, if_pos ⟨hq, e⟩] at ih'
          rw [bIt]
          exact ih'
      · rw [if_neg e]
        rw [e1, if_neg (fun z => e z.2), Nat.add_zero] at ih'
        exact ih'
theorem stk_e {st : Nat → Nat} (hr5 : gI M 1 5 = nI r) (hr : r ≤ 6) (hst : ∀ k, k < r → gL M (31 + k) 3 = lN (st k)) : ∀ (fu j : Nat), j ≤ r → r < j + fu → F_X0_allStocks_4 N fu (lN (sN st j)) (nI j) M = some (lN (sN st r)) := by
  intro fu
  induction fu with
  | zero => intro j h1 h2; omega
  | succ fu ih =>
    intro j h1 h2
    rw [F_X0_allStocks_4, hr5]
    simp (disch := omega) only [nIl]
    by_cases hj : r ≤ j
    · have : j = r := by omega
      subst this
      rw [if_pos hj]
    · rw [if_neg hj, gd_ib (by omega) (by omega), ixn (by omega), hst j (by omega), bnd_e, lN_add, nI_1]
      exact ih (j + 1) (by omega) (by omega)
set_option maxHeartbeats 4000000 in
theorem pot_loop {pn ST : Nat} {st p U : Nat → Nat} (hN : 6000 ≤ N) (hs6 : gI A 1 6 = nI s) (hr5 : gI A 1 5 = nI r) (hs : s ≤ 40) (hr : r ≤ 6) (hF : FA N r s hw ra u A) (hpn : pn ≤ 6200000000) (hst : ∀ k, k < r → st k ≤ 400000000) (hST : ST ≤ 2400000000) (hp : p = fun k => pn * st k / ST) (hU : U = fun k => untN (qd hw) ra u k s) {x : Int32} : ∀ (fu j : Nat) (M : MM), gI M = gI A → gL M 1 10 = lN pn → (∀ k, k < r → gL M (31 + k) 3 = lN (st k)) → j ≤ r → r < j + fu → ∃ M', F_X0_partPot_33 N x fu (lN ST) (lN (hnd U p j)) (nI j) M = some M' ∧ gI M' = gI M ∧ (∀ c z, ¬ (31 + j ≤ c ∧ c < 31 + r ∧ (z = 4 ∨ z = 5)) → gL M' c z = gL M c z) ∧ (∀ k, j ≤ k → k < r → gL M' (31 + k) 4 = lN (tot U p k) ∧ gL M' (31 + k) 5 = lN (U k)) := by
  intro fu
  induction fu with
  | zero => intro j M g1 g2 g3 h1 h2; omega
  | succ fu ih =>
    intro j M g1 g2 g3 h1 h2
    have hM15 : gI M 1 5 = nI r := by rw [g1]; exact hr5
    rw [F_X0_partPot_33, hM15]
    simp (disch := omega) only [nIl]
    by_cases hj : r ≤ j
    · rw [if_pos hj]
      exact ⟨M, rfl, rfl, fun _ _ _ => rfl, fun k h3 h4 => by omega⟩
    · have hj2 : j < r := by omega
      have hun : F_X0_drawingUnits N (nI j) M = some (lN (U j)) := by
        rw [hU]
        exact units_e hs6 hs hr hF g1 hj2 N 0 (by omega) (by omega)
      have hUb : U j ≤ 40000 := by rw [hU]; exact unt_bd hF (Nat.le_refl _) hs
      have hmb : pn * st j < 2 ^ 63 := by
        have : pn * st j ≤ 6200000000 * 400000000 := Nat.mul_le_mul hpn (hst j hj2)
        omega
      have hpj : F_X5_parted (lN pn) (lN (st j)) (lN ST) = lN (p j) := by
        rw [parted_e hmb (by omega), hp]
      rw [if_neg hj, gd_ib (by omega) (by omega), ixn (by omega), hun, bn1_e, bnd_e, gLn (by omega), g2, gLn (by omega), g3 j hj2, hpj, lN_add, bnd_e, gLn (by omega), gLe, gLe, bnd_e, nI_1]
      simp only [lN_le0 (show U j < 2 ^ 63 by omega)]
      have key : ∀ (v : Int64), v = lN (hnd U p (j + 1)) → ∃ M', F_X0_partPot_33 N x fu (lN ST) v (nI (j + 1)) (sL (sL M (31 + j) 5 (lN (U j))) (31 + j) 4 (lN (hnd U p j + p j))) = some M' ∧ gI M' = gI M ∧ (∀ c z, ¬ (31 + j ≤ c ∧ c < 31 + r ∧ (z = 4 ∨ z = 5)) → gL M' c z = gL M c z) ∧ (∀ k, j ≤ k → k < r → gL M' (31 + k) 4 = lN (tot U p k) ∧ gL M' (31 + k) 5 = lN (U k)) := by
        intro v hv
        subst hv
        obtain ⟨M', q1, q2, q3, q4⟩ := ih (j + 1) (sL (sL M (31 + j) 5 (lN (U j))) (31 + j) 4 (lN (hnd U p j + p j))) g1 (by rw [gLn (by omega), gLn (by omega)]; exact g2) (fun k hk => by rw [gLn (by omega), gLn (by omega)]; exact g3 k hk) (by omega) (by omega)
        refine ⟨M', q1, q2, fun c z q => by rw [q3 c z (by omega), gLn (by omega), gLn (by omega)], fun k h3 h4 => ?_⟩
        by_cases e : k = j
        · subst e
          rw [q3 _ _ (by omega), q3 _ _ (by omega), gLe, gLn (by omega), gLe]
          exact ⟨rfl, rfl⟩
        · exact q4 k (by omega) h4
      by_cases hu0 : U j = 0
      · rw [if_pos hu0]
        exact key _ (by rw [hnd, if_pos hu0])
      · rw [if_neg hu0]
        exact key _ (by rw [hnd, if_neg hu0]; rfl)
set_option maxHeartbeats 4000000 in
/-- the class's first step of close -/
theorem potA {pn ST ca cn : Nat} {st p U : Nat → Nat} (hN : 6000 ≤ N) (hs6 : gI A 1 6 = nI s) (hr5 : gI A 1 5 = nI r) (hs : s ≤ 40) (hr : r ≤ 6) (hF : FA N r s hw ra u A) (hca : gL A 1 10 = lN ca) (hpc : pn = ca + cn) (hst3 : ∀ k, k < r → gL A (31 + k) 3 = lN (st k)) (hpn : pn ≤ 6200000000) (hst : ∀ k, k < r → st k ≤ 400000000) (hSe : ST = sN st r) (hp : p = fun k => pn * st k / ST) (hU : U = fun k => untN (qd hw) ra u k s) (hcn : cn < 2 ^ 31) : ∃ A2, F_X0_partPot N (nI cn) A = some A2 ∧ gI A2 = gI A ∧ (∀ c z, ¬ (c = 1 ∧ (z = 10 ∨ z = 12)) → ¬ (31 ≤ c ∧ c < 31 + r ∧ (z = 4 ∨ z = 5)) → gL A2 c z = gL A c z) ∧ gL A2 1 10 = lN pn ∧ gL A2 1 12 = gL A 1 12 + lN cn ∧ (∀ k, k < r → gL A2 (31 + k) 4 = lN (tot U p k) ∧ gL A2 (31 + k) 5 = lN (U k)) := by
  have hSTb : ST ≤ 2400000000 := by
    have : sN st r ≤ r * 400000000 := sN_bd hst
    omega
  obtain ⟨M, hM⟩ : ∃ M, M = sL (sL A 1 10 (lN pn)) 1 12 (gL A 1 12 + lN cn) := ⟨_, rfl⟩
  have m1 : gI M = gI A := by rw [hM]; rfl
  have m2 : gL M 1 10 = lN pn := by rw [hM, gLn (by omega), gLe]
  have m3 : ∀ k, k < r → gL M (31 + k) 3 = lN (st k) := fun k hk => by rw [hM, gLn (by omega), gLn (by omega)]; exact hst3 k hk
  have hstk := stk_e (N := N) (M := M) (r := r) (st := st) (by rw [m1]; exact hr5) hr m3 N 0 (by omega) (by omega)
  have hstk' : F_X0_allStocks N M = some (lN ST) := by rw [hSe]; exact hstk
  obtain ⟨A2, q1, q2, q3, q4⟩ := pot_loop (x := nI cn) hN hs6 hr5 hs hr hF hpn hst hSTb hp hU N 0 M m1 m2 m3 (by omega) (by omega)
  have q1' : F_X0_partPot_33 N (nI cn) N (lN ST) (0 : Int64) (0 : Int32) M = some A2 := q1
  refine ⟨A2, ?_, by rw [q2, m1], fun c z w1 w2 => ?_, ?_, ?_, fun k hk => q4 k (by omega) hk⟩
  · rw [F_X0_partPot, nI_l hcn, hca, lN_add, ← hpc, bnd_e, gLn (by omega), bnd_e, ← hM, hstk', bn1_e, q1']
  · rw [q3 c z (by omega), hM, gLn (by omega), gLn (by omega)]
  · rw [q3 _ _ (by omega)]; exact m2
  · rw [q3 _ _ (by omega), hM, gLe]
end PotA
end
section
/-! ===== the pot is parted: the reference ===== -/
section StandsG
variable {N : Nat} {M B : MM}
theorem hasL_g (h : gL M 1 = gL B 1) {a c : Int32} : F_X6_hasLife N a c M = F_X6_hasLife N a c B := by simp only [F_X6_hasLife, h]
theorem dead_g (h : gL M 1 = gL B 1) {a : Int64} : F_X6_isDead N a M = F_X6_isDead N a B := by simp only [F_X6_isDead, h]
theorem allD_g (h : gL M 1 = gL B 1) {a : Int32} : F_X6_areDead N a M = F_X6_areDead N a B := by simp only [F_X6_areDead, dead_g h, h]
theorem sure_g (h : gL M 1 = gL B 1) {a : Int32} {z : Int64} : F_X6_isSure N a z M = F_X6_isSure N a z B := by simp only [F_X6_isSure, h]
theorem stands_g4 (h : gL M 1 = gL B 1) {a : Int32} : ∀ (fu : Nat) (v w : Int32), F_X6_stands_4 N a fu v w M = F_X6_stands_4 N a fu v w B := by
  intro fu
  induction fu with
  | zero => intro v w; rw [F_X6_stands_4, F_X6_stands_4]
  | succ fu ih =>
    intro v w
    rw [F_X6_stands_4, F_X6_stands_4]
    simp only [h, hasL_g h, allD_g h, sure_g h, ih]
theorem stands_g (h : gL M 1 = gL B 1) {a : Int32} : F_X6_stands N a M = F_X6_stands N a B := by
  rw [F_X6_stands, F_X6_stands]
  exact stands_g4 h _ _ _
end StandsG
section PotB
variable {r s N : Nat} {B : MM} {hw : Nat → Int32} {ra u : Nat → Nat} {x : Int32}
theorem c84 {st : Nat → Nat} (hr : r ≤ 6) {P : Int64} : ∀ (fu j : Nat) (M : MM), (∀ k, k < r → gL M 1 (279 + 4 * k + 3) = lN (st k)) → j ≤ r → r < j + fu → ∃ M1, F_X6_close_84 N x fu P (nI r) (nI s) (lN (sN st j)) (nI j) M = F_X6_close_132 N x N P (nI r) (nI s) (lN (sN st r)) (0 : Int32) M1 ∧ (∀ c, c ≠ 3 → c ≠ 4 → gL M1 c = gL M c) ∧ gI M1 = gI M ∧ (∀ q, j ≤ q → q < r → gL M1 3 q = 0 ∧ gL M1 4 q = 0) ∧ (∀ q, q < j → gL M1 3 q = gL M 3 q ∧ gL M1 4 q = gL M 4 q) := by
  intro fu
  induction fu with
  | zero => intro j M g1 h1 h2; omega
  | succ fu ih =>
    intro j M g1 h1 h2
    rw [F_X6_close_84]
    simp (disch := omega) only [nIl]
    by_cases hj : r ≤ j
    · have : j = r := by omega
      subst this
      rw [if_pos hj]
      exact ⟨M, rfl, fun _ _ _ => rfl, rfl, fun q h3 h4 => by omega, fun q _ => ⟨rfl, rfl⟩⟩
    · rw [if_neg hj, groupCell_3, gd_ib (by omega) (by omega), ixn (by omega), g1 j (by omega), bnd_e, lN_add, gd_ib (by omega) (by omega), bnd_e, gd_ib (by omega) (by omega), bnd_e, ixn (by omega), nI_1]
      obtain ⟨M1, q1, q2, q3, q4, q5⟩ := ih (j + 1) (sL (sL M 4 j 0) 3 j 0) (fun k hk => by rw [gLn (by omega), gLn (by omega)]; exact g1 k hk) (by omega) (by omega)
      refine ⟨M1, q1, fun c h3 h4 => by rw [q2 c h3 h4, gL_ne h3, gL_ne h4], q3, fun q h3 h4 => ?_, fun q h3 => ?_⟩
      · by_cases e : q = j
        · subst e
          rw [(q5 q (by omega)).1, (q5 q (by omega)).2, gLe, gLn (by omega), gLe]
          exact ⟨rfl, rfl⟩
        · exact q4 q (by omega) h4
      · rw [(q5 q (by omega)).1, (q5 q (by omega)).2, gLn (by omega), gLn (by omega), gLn (by omega), gLn (by omega)]
        exact ⟨rfl, rfl⟩
theorem c132 (hs : s ≤ 40) (hr : r ≤ 6) {A : MM} (hF : FA N r s hw ra u A) (hFB : FB N s hw ra u B) {P S : Int64} : ∀ (fu j : Nat) (M : MM), gL M 1 = gL B 1 → (∀ q, q < r → gL M 4 q = lN (untN (qd hw) ra u q j)) → j ≤ s → s < j + fu → ∃ M1, F_X6_close_132 N x fu P (nI r) (nI s) S (nI j) M = F_X6_close_206 N x N P (nI r) (nI s) S P (0 : Int32) M1 ∧ (∀ c, c ≠ 4 → gL M1 c = gL M c) ∧ gI M1 0 = gI M 0 ∧ (∀ i, j ≤ i → i < s → gI M1 6 i = hw i) ∧ (∀ i, i < j → gI M1 6 i = gI M 6 i) ∧ (∀ q, q < r → gL M1 4 q = lN (untN (qd hw) ra u q s)) := by
  intro fu
  induction fu with
  | zero => intro j M g1 g2 h1 h2; omega
  | succ fu ih =>
    intro j M g1 g2 h1 h2
    rw [F_X6_close_132]
    simp (disch := omega) only [nIl]
    by_cases hj : s ≤ j
    · have : j = s := by omega
      subst this
      rw [if_pos hj]
      exact ⟨M, rfl, fun _ _ => rfl, rfl, fun i h3 h4 => by omega, fun i _ => rfl, g2⟩
    · have hj2 : j < s := by omega
      obtain ⟨v1, v2, v3, v4, v5, v6, v7⟩ := hF j hj2
      obtain ⟨w1, w2, w3⟩ := hFB j hj2
      rw [← g1] at w1 w2
      rw [if_neg hj, stands_g g1, w3, bn1_e, gd_ib (by omega) (by omega), ixn (by omega), bnd_e, gIe, nI_1]
      have e1 : ∀ q, untN (qd hw) ra u q (j + 1) = untN (qd hw) ra u q j + (if qd hw j = true ∧ ra j = q then u j else 0) := fun q => rfl
      by_cases h2' : (2 : Int32) ≤ hw j
      · have hq : qd hw j = false := by unfold qd; rw [decide_eq_true h2']; rfl
        rw [if_pos h2']
        obtain ⟨M1, q1, q2, q3, q4, q5, q6⟩ := ih (j + 1) (sI M 6 j (hw j)) g1 (fun q hq2 => by
          rw [e1, if_neg (by rw [hq]; intro z; cases z.1), Nat.add_zero]
          exact g2 q hq2) (by omega) (by omega)
        refine ⟨M1, q1, q2, by rw [q3, gI_ne (by decide)], fun i h3 h4 => ?_, fun i h3 => by rw [q5 i (by omega), gIn (by omega)], q6⟩
        by_cases e : i = j
        · subst e
          rw [q5 i (by omega), gIe]
        · exact q4 i (by omega) h4
      · have hq : qd hw j = true := by unfold qd; rw [decide_eq_false h2']; rfl
        rw [if_neg h2']
        simp (disch := omega) only [part_3, part_4, gd_ib, ixn, gLsI, w1, w2, lNi, bnd_e]
        rw [g2 _ v5, lN_add]
        obtain ⟨M1, q1, q2, q3, q4, q5, q6⟩ := ih (j + 1) (sL (sI M 6 j (hw j)) 4 (ra j) (lN (untN (qd hw) ra u (ra j) j + u j))) (by rw [gL_ne (by decide)]; exact g1) (fun q hq2 => by
          rw [e1]
          by_cases e : ra j = q
          · subst e
            rw [if_pos ⟨hq, rfl⟩, gLe]
          · rw [if_neg (fun z => e z.2), Nat.add_zero, gLn (by omega)]
            exact g2 q hq2) (by omega) (by omega)
        refine ⟨M1, q1, fun c hc => by rw [q2 c hc, gL_ne hc]; rfl, by rw [q3]; show gI (sI M 6 j (hw j)) 0 = gI M 0; rw [gI_ne (by decide)], fun i h3 h4 => ?_, fun i h3 => by rw [q5 i (by omega), gIsL, gIn (by omega)], q6⟩
        by_cases e : i = j
        · subst e
          rw [q5 i (by omega), gIsL, gIe]
        · exact q4 i (by omega) h4
theorem c242 {U : Nat → Nat} (hr : r ≤ 6) {M : MM} (g : ∀ q, q < r → gL M 4 q = lN (U q) ∧ U q ≤ 40000) {v2 v6 v8 v11 : Int64} {v5 v10 : Int32} : ∀ (fu j : Nat), j ≤ r → r < j + fu → ∃ q, F_X6_close_242 N x fu v2 (nI r) v5 v6 v8 v10 v11 (nI j) M = some (nI q) ∧ j ≤ q ∧ q ≤ r ∧ (∀ z, j ≤ z → z < q → U z = 0) ∧ (q < r → U q ≠ 0) := by
  intro fu
  induction fu with
  | zero => intro j h1 h2; omega
  | succ fu ih =>
    intro j h1 h2
    rw [F_X6_close_242]
    simp (disch := omega) only [nIl]
    by_cases hj : r ≤ j
    · rw [if_pos hj]
      exact ⟨j, rfl, Nat.le_refl _, h1, fun z h3 h4 => by omega, fun h3 => by omega⟩
    · obtain ⟨g1, g2⟩ := g j (by omega)
      rw [if_neg hj, gd_ib (by omega) (by omega), ixn (by omega), g1, nI_1]
      simp only [lN_e0 (show U j < 2 ^ 63 by omega)]
      by_cases h0 : U j = 0
      · rw [if_pos h0]
        obtain ⟨q, q1, q2, q3, q4, q5⟩ := ih (j + 1) (by omega) (by omega)
        refine ⟨q, q1, by omega, q3, fun z h3 h4 => ?_, q5⟩
        by_cases e : z = j
        · rw [e]; exact h0
        · exact q4 z (by omega) h4
      · rw [if_neg h0]
        exact ⟨j, rfl, Nat.le_refl _, h1, fun z h3 h4 => by omega, fun _ => h0⟩
set_option maxHeartbeats 4000000 in
theorem c206 {U p st : Nat → Nat} {pn ST : Nat} (hN : 6000 ≤ N) (hr : r ≤ 6) (hpn : pn ≤ 6200000000) (hst : ∀ k, k < r → st k ≤ 400000000) (hST : ST ≤ 2400000000) (hST0 : ST ≠ 0) (hp : p = fun k => pn * st k / ST) (hps : sN p r ≤ pn) : ∀ (fu j w : Nat) (M : MM) (X : Nat → Nat), (∀ k, k < r → gL M 1 (279 + 4 * k + 3) = lN (st k)) → (∀ q, q < r → gL M 4 q = lN (U q) ∧ U q ≤ 40000) → (∀ q, q < r → gL M 3 q = lN (X q)) → (∀ q, q < j → U q ≠ 0 → X q = tot U p q) → (∀ q, j ≤ q → q < r → U q ≠ 0 → (∀ z, j ≤ z → z < q → U z = 0) → X q = hnd U p j) → (∀ q z, j ≤ z → z < q → q < r → U z ≠ 0 → X q = 0) → w + sN X r = pn → sN X r ≤ sN p j → j ≤ r → r < j + fu → ∃ (M1 : MM) (X1 : Nat → Nat) (w1 : Nat), F_X6_close_206 N x fu (lN pn) (nI r) (nI s) (lN ST) (lN w) (nI j) M = F_X6_close_305 N x N (nI r) (nI s) (lN w1) (0 : Int32) M1 ∧ (∀ c, c ≠ 3 → gL M1 c = gL M c) ∧ gI M1 = gI M ∧ (∀ q, q < r → gL M1 3 q = lN (X1 q)) ∧ (∀ q, q < r → U q ≠ 0 → X1 q = tot U p q) ∧ w1 + sN X1 r = pn := by
  intro fu
  induction fu with
  | zero => intro j w M X g1 g2 g3 ga gb gd1 gw gs h1 h2; omega
  | succ fu ih =>
    intro j w M X g1 g2 g3 ga gb gd1 gw gs h1 h2
    rw [F_X6_close_206]
    simp (disch := omega) only [nIl, lN_le0 (show ST < 2 ^ 63 by omega)]
    by_cases hj : r ≤ j
    · have : j = r := by omega
      subst this
      rw [if_pos hj]
      exact ⟨M, X, w, rfl, fun _ _ => rfl, rfl, g3, ga, gw⟩
    · have hj2 : j < r := by omega
      have hmb : pn * st j < 2 ^ 63 := by
        have : pn * st j ≤ 6200000000 * 400000000 := Nat.mul_le_mul hpn (hst j hj2)
        omega
      have hpj : (lN pn * lN (st j)) / lN ST = lN (p j) := by
        rw [lN_mul, hp]
        exact pk_lDiv hmb (by omega) (by omega)
      have hsp := sN_mono (f := p) (a := j + 1) (n := r) (by omega)
      rw [sN] at hsp
      rw [if_neg hj, if_neg hST0, groupCell_3, gd_ib (by omega) (by omega), ixn (by omega), g1 j hj2, hpj, bnd_e]
      obtain ⟨q, q1, q2, q3, q4, q5⟩ := c242 (x := x) (N := N) hr g2 (v2 := lN pn) (v6 := lN ST) (v8 := lN w) (v11 := lN (p j)) (v5 := nI s) (v10 := nI j) N j (by omega) (by omega)
      rw [q1, bn1_e, nI_1]
      simp (disch := omega) only [nIe]
      by_cases hq : q = r
      · have hz : U j = 0 := q4 j (Nat.le_refl _) (by omega)
        rw [if_pos hq]
        refine ih (j + 1) w M X g1 g2 g3 (fun z h3 h4 => ?_) (fun z h3 h4 h5 h6 => ?_) (fun z z2 h3 h4 h5 h6 => ?_) gw (by rw [sN]; omega) (by omega) (by omega)
        · by_cases e : z = j
          · rw [e] at h4; exact absurd hz h4
          · exact ga z (by omega) h4
        · exact absurd (q4 z (by omega) (by omega)) h5
        · exact absurd (q4 z2 (by omega) (by omega)) h6
      · have hqr : q < r := by omega
        have hXq : X q = hnd U p j := gb q q2 hqr (q5 hqr) q4
        have hwp : p j ≤ w := by omega
        rw [if_neg hq, gd_ib (by omega) (by omega), ixn (by omega), g3 q hqr, lN_add, bnd_e, lN_sub hwp, bnd_e]
        obtain ⟨X2, hX2⟩ : ∃ X2 : Nat → Nat, X2 = fun z => if z = q then X q + p j else X z := ⟨_, rfl⟩
        have x1 : X2 q = X q + p j := by rw [hX2]; exact if_pos rfl
        have x2 : ∀ z, z ≠ q → X2 z = X z := fun z hz => by rw [hX2]; exact if_neg hz
        have hsu := sN_upd (f := X) (g := X2) (j := q) (n := r) hqr (fun i _ hi => x2 i hi)
        obtain ⟨M1, X1, w1, r1, r2, r3, r4, r5, r6⟩ := ih (j + 1) (w - p j) (sL M 3 q (lN (X q + p j))) X2 (fun k hk => by rw [gLn (by omega)]; exact g1 k hk) (fun z hz => by rw [gLn (by omega)]; exact g2 z hz) (fun z hz => by
          by_cases e : z = q
          · subst e; rw [gLe, x1]
          · rw [gLn (by omega), x2 z e]; exact g3 z hz) (fun z h3 h4 => by
          by_cases e : z = j
          · subst e
            have eqz : q = z := by
              by_cases e2 : q = z
              · exact e2
              · exact absurd (q4 z (Nat.le_refl _) (by omega)) h4
            subst eqz
            rw [x1, hXq]
            rfl
          · rw [x2 z (by omega)]; exact ga z (by omega) h4) (fun z h3 h4 h5 h6 => by
          by_cases hz : U j = 0
          · have ez : z = q := by
              by_cases e2 : z < q
              · exact absurd (q4 z (by omega) e2) h5
              · by_cases e3 : q < z
                · by_cases e4 : q = j
                  · rw [e4] at q5; exact absurd hz (q5 (by omega))
                  · exact absurd (h6 q (by omega) e3) (q5 hqr)
                · omega
            subst ez
            rw [x1, hXq, hnd, if_pos hz]
          · have eqj : q = j := by
              by_cases e2 : q = j
              · exact e2
              · exact absurd (q4 j (Nat.le_refl _) (by omega)) hz
            rw [x2 z (by omega), hnd, if_neg hz]
            exact gd1 z j (Nat.le_refl _) (by omega) h4 hz) (fun z z2 h3 h4 h5 h6 => by
          have e1 : ¬ z = q := fun e => by
            subst e
            exact absurd (q4 z2 (by omega) h4) h6
          rw [x2 z e1]
          exact gd1 z z2 (by omega) h4 h5 h6) (by omega) (by rw [sN]; omega) (by omega) (by omega)
        exact ⟨M1, X1, w1, r1, fun c hc => by rw [r2 c hc, gL_ne hc], r3, r4, r5, r6⟩
set_option maxHeartbeats 4000000 in
theorem c305 {U p : Nat → Nat} {w1 : Nat} (hs : s ≤ 40) (hr : r ≤ 6) {A : MM} (hF : FA N r s hw ra u A) (hU : U = fun k => untN (qd hw) ra u k s) (hT : ∀ k, k < r → tot U p k ≤ 6200000000) (hw1 : w1 ≤ 6200000000) : ∀ (fu j : Nat) (v : Int64) (M : MM), (∀ i, i < s → gL M 1 (303 + 14 * i + 3) = lN (u i) ∧ gL M 1 (303 + 14 * i + 4) = lN (ra i)) → (∀ q, q < r → gL M 4 q = lN (U q)) → (∀ q, q < r → U q ≠ 0 → gL M 3 q = lN (tot U p q)) → (∀ i, i < s → gI M 6 i = hw i) → v.toInt = (w1 : Int) - (sN (drw (qd hw) ra u (tot U p) U) j : Nat) → j ≤ s → s < j + fu → ∃ (M1 : MM) (v1 : Int64), F_X6_close_305 N x fu (nI r) (nI s) v (nI j) M = F_X6_close_396 N x N (nI r) (nI s) v1 (0 : Int32) M1 ∧ v1.toInt = (w1 : Int) - (sN (drw (qd hw) ra u (tot U p) U) s : Nat) ∧ (∀ c, c ≠ 5 → gL M1 c = gL M c) ∧ gI M1 = gI M ∧ (∀ i, j ≤ i → i < s → gL M1 5 i = lN (drw (qd hw) ra u (tot U p) U i)) ∧ (∀ i, i < j → gL M1 5 i = gL M 5 i) := by
  have hdb : ∀ i, i < s → drw (qd hw) ra u (tot U p) U i ≤ 6200000000000 := fun i hi => by
    obtain ⟨v1, v2, v3, v4, v5, v6, v7⟩ := hF i hi
    unfold drw
    split
    · have h1 : tot U p (ra i) * u i ≤ 6200000000 * 1000 := Nat.mul_le_mul (hT _ v5) v3
      have h2 := Nat.div_le_self (tot U p (ra i) * u i) (U (ra i))
      omega
    · omega
  intro fu
  induction fu with
  | zero => intro j v M g1 g2 g3 g4 gv h1 h2; omega
  | succ fu ih =>
    intro j v M g1 g2 g3 g4 gv h1 h2
    rw [F_X6_close_305]
    simp (disch := omega) only [nIl]
    by_cases hj : s ≤ j
    · have : j = s := by omega
      subst this
      rw [if_pos hj]
      exact ⟨M, v, rfl, gv, fun _ _ => rfl, rfl, fun i h3 h4 => by omega, fun i _ => rfl⟩
    · have hj2 : j < s := by omega
      obtain ⟨v1, v2, v3, v4, v5, v6, v7⟩ := hF j hj2
      obtain ⟨w3, w4⟩ := g1 j hj2
      have hb := hdb j hj2
      have hbs : sN (drw (qd hw) ra u (tot U p) U) j ≤ j * 6200000000000 := sN_bd (fun i hi => hdb i (by omega))
      rw [if_neg hj]
      simp (disch := omega) only [part_3, part_4, gd_ib, ixn, w3, w4, lNi, bnd_e, g4 j hj2, nI_1]
      have key : ∀ (d : Nat), d = drw (qd hw) ra u (tot U p) U j → ∃ (M1 : MM) (v1 : Int64), F_X6_close_305 N x fu (nI r) (nI s) (v - gL (sL M 5 j (lN d)) 5 j) (nI (j + 1)) (sL M 5 j (lN d)) = F_X6_close_396 N x N (nI r) (nI s) v1 (0 : Int32) M1 ∧ v1.toInt = (w1 : Int) - (sN (drw (qd hw) ra u (tot U p) U) s : Nat) ∧ (∀ c, c ≠ 5 → gL M1 c = gL M c) ∧ gI M1 = gI M ∧ (∀ i, j ≤ i → i < s → gL M1 5 i = lN (drw (qd hw) ra u (tot U p) U i)) ∧ (∀ i, i < j → gL M1 5 i = gL M 5 i) := by
        intro d hd
        rw [gLe]
        obtain ⟨M1, v1, q1, q2, q3, q4, q5, q6⟩ := ih (j + 1) (v - lN d) (sL M 5 j (lN d)) (fun i hi => by rw [gLn (by omega), gLn (by omega)]; exact g1 i hi) (fun q hq => by rw [gLn (by omega)]; exact g2 q hq) (fun q hq hu => by rw [gLn (by omega)]; exact g3 q hq hu) g4 (by
          rw [fb_subL, gv, pk_lT (by omega), sN, hd]
          · omega
          · rw [gv, pk_lT (by omega)]; omega
          · rw [gv, pk_lT (by omega)]; omega) (by omega) (by omega)
        refine ⟨M1, v1, q1, q2, fun c hc => by rw [q3 c hc, gL_ne hc], q4, fun i h3 h4 => ?_, fun i h3 => by rw [q6 i (by omega), gLn (by omega)]⟩
        by_cases e : i = j
        · subst e
          rw [q6 i (by omega), gLe, hd]
        · exact q5 i (by omega) h4
      by_cases h2' : (2 : Int32) ≤ hw j
      · have hq : qd hw j = false := by unfold qd; rw [decide_eq_true h2']; rfl
        rw [if_pos h2']
        exact key 0 (by unfold drw; rw [hq]; rfl)
      · have hq : qd hw j = true := by unfold qd; rw [decide_eq_false h2']; rfl
        have hUp : U (ra j) ≠ 0 := by
          rw [hU]
          show untN (qd hw) ra u (ra j) s ≠ 0
          have := sN_part (f := fun i => if qd hw i = true ∧ ra i = ra j then u i else 0) (j := j) (n := s) hj2
          have e : (if qd hw j = true ∧ ra j = ra j then u j else 0) = u j := if_pos ⟨hq, rfl⟩
          unfold untN
          omega
        have hUb : U (ra j) ≤ 40000 := by rw [hU]; exact unt_bd hF (Nat.le_refl _) hs
        have hz : nz (lN (U (ra j))) = true := by
          have h0 : ¬ lN (U (ra j)) = 0 := by
            rw [lN_e0 (by omega)]
            exact hUp
          simp [nz, h0]
        have hm : tot U p (ra j) * u j ≤ 6200000000 * 1000 := Nat.mul_le_mul (hT _ v5) v3
        rw [if_neg h2', g2 _ v5, g3 _ v5 hUp, gd_t hz, lN_mul, pk_lDiv (by omega) (by omega) (by omega)]
        exact key _ (by unfold drw; rw [if_pos hq])
theorem c396 {y : Nat} {X : Nat → Nat} (hr : r ≤ 6) (hX : ∀ q, q < r → X q ≤ 6200000000) {z : Int} (hz : -1000000000000000 ≤ z ∧ z ≤ 1000000000000000) {M : MM} (g : ∀ q, q < r → gL M 3 q = lN (X q)) (hy : gL M 1 5663 = lN y) : ∀ (fu j : Nat) (v : Int64), v.toInt = z + (sN X j : Nat) → j ≤ r → r < j + fu → ∃ v1 : Int64, F_X6_close_396 N x fu (nI r) (nI s) v (nI j) M = F_X6_close_448 N x N (nI s) (nI y) (0 : Int64) (0 : Int32) (sL M 1 5664 v1) ∧ v1.toInt = z + (sN X r : Nat) := by
  intro fu
  induction fu with
  | zero => intro j v gv h1 h2; omega
  | succ fu ih =>
    intro j v gv h1 h2
    rw [F_X6_close_396]
    simp (disch := omega) only [nIl]
    by_cases hj : r ≤ j
    · have : j = r := by omega
      subst this
      rw [if_pos hj, bnd_e, gLn (by omega), hy, lNi, bnd_e]
      exact ⟨v, rfl, gv⟩
    · have hb := hX j (by omega)
      have hbs : sN X j ≤ j * 6200000000 := sN_bd (fun i hi => hX i (by omega))
      rw [if_neg hj, gd_ib (by omega) (by omega), ixn (by omega), g j (by omega), bnd_e, nI_1]
      refine ih (j + 1) (v + lN (X j)) ?_ (by omega) (by omega)
      rw [fb_addL, gv, pk_lT (by omega), sN]
      · omega
      · rw [gv, pk_lT (by omega)]; omega
      · rw [gv, pk_lT (by omega)]; omega
end PotB
end
section
/-! ===== the first half of close, the reference ===== -/
theorem p_sum {pn ST r : Nat} {st p : Nat → Nat} (hp : p = fun k => pn * st k / ST) (hSe : ST = sN st r) : sN p r ≤ pn := by
  rw [hp]
  exact cut_le (by rw [hSe]; exact Nat.le_refl _)
theorem D_le {N r s pn : Nat} {A : MM} {hw : Nat → Int32} {ra u p U : Nat → Nat} (hF : FA N r s hw ra u A) (hU : U = fun k => untN (qd hw) ra u k s) (hps : sN p r ≤ pn) : sN (drw (qd hw) ra u (tot U p) U) s ≤ pn := by
  have h1 := drw_sum (q := qd hw) (ra := ra) (u := u) (T := tot U p) (U := U) (r := r) (s := s) (fun i hi => (hF i hi).2.2.2.2.1) (fun k _ => by rw [hU]; exact Nat.le_refl _)
  have h2 := tot_sum (U := U) (p := p) (n := r)
  omega
theorem hnd_z {U p : Nat → Nat} (h : ∀ k, p k = 0) : ∀ k, hnd U p k = 0
  | 0 => rfl
  | k + 1 => by
    rw [hnd, hnd_z h k, h k]
    split <;> rfl
set_option maxHeartbeats 4000000 in
theorem potB {N r s y pn ST : Nat} {A M : MM} {hw : Nat → Int32} {ra u st p U : Nat → Nat} {x : Int32} (hN : 6000 ≤ N) (hs : s ≤ 40) (hr : r ≤ 6) (hF : FA N r s hw ra u A) (hFB : FB N s hw ra u M) (hM3 : ∀ k, k < r → gL M 1 (279 + 4 * k + 3) = lN (st k)) (hy : gL M 1 5663 = lN y) (hpn : pn ≤ 6200000000) (hst : ∀ k, k < r → st k ≤ 400000000) (hSe : ST = sN st r) (hp : p = fun k => pn * st k / ST) (hU : U = fun k => untN (qd hw) ra u k s) : ∃ B5, F_X6_close_84 N x N (lN pn) (nI r) (nI s) (0 : Int64) (0 : Int32) M = F_X6_close_448 N x N (nI s) (nI y) (0 : Int64) (0 : Int32) (sL B5 1 5664 (lN (pn - sN (drw (qd hw) ra u (tot U p) U) s))) ∧ gL B5 1 = gL M 1 ∧ gL B5 2 = gL M 2 ∧ gI B5 0 = gI M 0 ∧ (∀ i, i < s → gL B5 5 i = lN (drw (qd hw) ra u (tot U p) U i) ∧ gI B5 6 i = hw i) := by
  have hSTb : ST ≤ 2400000000 := by
    have : sN st r ≤ r * 400000000 := sN_bd hst
    omega
  have hps := p_sum hp hSe
  have hD := D_le hF hU hps
  have hT : ∀ k, k < r → tot U p k ≤ 6200000000 := fun k hk => by
    have := tot_le (U := U) (p := p) hk
    omega
  have hUb : ∀ q, U q ≤ 40000 := fun q => by rw [hU]; exact unt_bd hF (Nat.le_refl _) hs
  obtain ⟨M1, a1, a2, a3, a4, a5⟩ := c84 (N := N) (x := x) (s := s) (r := r) (st := st) hr (P := lN pn) N 0 M hM3 (by omega) (by omega)
  have a1' : F_X6_close_84 N x N (lN pn) (nI r) (nI s) (0 : Int64) (0 : Int32) M = F_X6_close_132 N x N (lN pn) (nI r) (nI s) (lN (sN st r)) (0 : Int32) M1 := a1
  obtain ⟨M2, b1, b2, b3, b4, b5, b6⟩ := c132 (N := N) (x := x) (B := M) hs hr hF hFB (P := lN pn) (S := lN (sN st r)) N 0 M1 (a2 1 (by decide) (by decide)) (fun q hq => by rw [(a4 q (by omega) hq).2]; rfl) (by omega) (by omega)
  have b1' : F_X6_close_132 N x N (lN pn) (nI r) (nI s) (lN (sN st r)) (0 : Int32) M1 = F_X6_close_206 N x N (lN pn) (nI r) (nI s) (lN (sN st r)) (lN pn) (0 : Int32) M2 := b1
  have m21 : gL M2 1 = gL M 1 := by rw [b2 1 (by decide), a2 1 (by decide) (by decide)]
  have m23 : ∀ q, q < r → gL M2 3 q = 0 := fun q hq => by rw [b2 3 (by decide), (a4 q (by omega) hq).1]
  have m24 : ∀ q, q < r → gL M2 4 q = lN (U q) ∧ U q ≤ 40000 := fun q hq => ⟨by rw [b6 q hq, hU], hUb q⟩
  have h206 : ∃ (M3 : MM) (X1 : Nat → Nat) (w1 : Nat), F_X6_close_206 N x N (lN pn) (nI r) (nI s) (lN ST) (lN pn) (0 : Int32) M2 = F_X6_close_305 N x N (nI r) (nI s) (lN w1) (0 : Int32) M3 ∧ (∀ c, c ≠ 3 → gL M3 c = gL M2 c) ∧ gI M3 = gI M2 ∧ (∀ q, q < r → gL M3 3 q = lN (X1 q)) ∧ (∀ q, q < r → U q ≠ 0 → X1 q = tot U p q) ∧ w1 + sN X1 r = pn := by
    by_cases h0 : ST = 0
    · refine ⟨M2, fun _ => 0, pn, ?_, fun _ _ => rfl, rfl, fun q hq => by rw [m23 q hq]; rfl, fun q hq _ => ?_, by rw [sN_z]; omega⟩
      · obtain ⟨N', hN'⟩ : ∃ N', N = N' + 1 := ⟨N - 1, by omega⟩
        have e : ∀ fu, F_X6_close_206 N x (fu + 1) (lN pn) (nI r) (nI s) (lN ST) (lN pn) (0 : Int32) M2 = F_X6_close_305 N x N (nI r) (nI s) (lN pn) (0 : Int32) M2 := fun fu => by
          rw [F_X6_close_206]
          simp only [lN_le0 (show ST < 2 ^ 63 by omega)]
          rw [if_pos h0]
          split <;> rfl
        have e' := e N'
        rw [← hN'] at e'
        exact e'
      · have hz : ∀ k, p k = 0 := fun k => by rw [hp, h0]; exact Nat.div_zero _
        unfold tot
        rw [hnd_z hz, hz]
    · exact c206 (N := N) (x := x) (s := s) (U := U) hN hr hpn hst hSTb h0 hp hps N 0 pn M2 (fun _ => 0) (fun k hk => by rw [m21]; exact hM3 k hk) m24 (fun q hq => by rw [m23 q hq]; rfl) (fun q hq => by omega) (fun q _ _ _ _ => rfl) (fun q z _ _ _ _ => rfl) (by rw [sN_z]; omega) (by rw [sN_z]; exact Nat.zero_le _) (by omega) (by omega)
  obtain ⟨M3, X1, w1, d1, d2, d3, d4, d5, d6⟩ := h206
  rw [← hSe] at a1' b1'
  have m31 : gL M3 1 = gL M 1 := by rw [d2 1 (by decide), m21]
  have hXb : ∀ q, q < r → X1 q ≤ 6200000000 := fun q hq => by
    have := sN_part (f := X1) (j := q) (n := r) hq
    omega
  obtain ⟨M4, v4, e1, e2, e3, e4, e5, e6⟩ := c305 (N := N) (x := x) (U := U) (p := p) (w1 := w1) hs hr hF hU hT (by omega) N 0 (lN w1) M3 (fun i hi => by rw [m31]; exact ⟨(hFB i hi).1, (hFB i hi).2.1⟩) (fun q hq => by rw [d2 4 (by decide)]; exact (m24 q hq).1) (fun q hq hu => by rw [d4 q hq, d5 q hq hu]) (fun i hi => by rw [d3]; exact b4 i (by omega) hi) (by rw [pk_lT (by omega), sN]; omega) (by omega) (by omega)
  have e1' : F_X6_close_305 N x N (nI r) (nI s) (lN w1) (0 : Int32) M3 = F_X6_close_396 N x N (nI r) (nI s) v4 (0 : Int32) M4 := e1
  have m41 : gL M4 1 = gL M 1 := by rw [e3 1 (by decide), m31]
  obtain ⟨v5, f1, f2⟩ := c396 (N := N) (x := x) (s := s) (y := y) (X := X1) hr hXb (z := (w1 : Int) - (sN (drw (qd hw) ra u (tot U p) U) s : Nat)) (by omega) (M := M4) (fun q hq => by rw [e3 3 (by decide)]; exact d4 q hq) (by rw [m41]; exact hy) N 0 v4 (by rw [e2, sN]; omega) (by omega) (by omega)
  have f1' : F_X6_close_396 N x N (nI r) (nI s) v4 (0 : Int32) M4 = F_X6_close_448 N x N (nI s) (nI y) (0 : Int64) (0 : Int32) (sL M4 1 5664 v5) := f1
  have hv5 : v5 = lN (pn - sN (drw (qd hw) ra u (tot U p) U) s) := i64 (by rw [f2, pk_lT (by omega)]; omega)
  refine ⟨M4, ?_, m41, ?_, ?_, fun i hi => ⟨e5 i (by omega) hi, ?_⟩⟩
  · rw [a1', b1', d1, e1', f1', hv5]
  · rw [e3 2 (by decide), d2 2 (by decide), b2 2 (by decide), a2 2 (by decide) (by decide)]
  · rw [e4, d3, b3, a3]
  · rw [e4, d3]
    exact b4 i (by omega) hi
end
section
/-! ===== shares draw, one by one ===== -/
theorem addsub {a : Int64} {p q : Nat} (h : q ≤ p) : a + lN p - lN q = a + lN (p - q) := by
  have e : lN p = lN (p - q) + lN q := by rw [lN_add, Nat.sub_add_cancel h]
  rw [e, ← Int64.add_assoc, Int64.add_sub_cancel]
theorem CM.mono {b k : Int} {K : KT} {m r s y : Nat} {Y Y2 : Nat → Nat} {P P2 : Nat → Prop} {A B : MM} (h : CM b k K m r s y Y P A B) (hY : ∀ i, i < s → Y2 i = Y i ∧ (P2 i → P i)) : CM b k K m r s y Y2 P2 A B := by
  obtain ⟨h1, h2, h3, h4, h5, h6, h7, h8, h9⟩ := h
  exact ⟨h1, h2, h3, h4, h5, fun i hi => by rw [(hY i hi).1]; exact (h6 i hi).mono (hY i hi).2, h7, h8, h9⟩
section DrawA
variable {N j y p d ra u T U : Nat} {X : MM}
theorem drawA_n (hr : ra < 6) (x4 : gI X (37 + j) 4 = nI ra) (x3 : gI X (37 + j) 3 = nI u) (hu : u ≤ 1000) (x7 : gI X 1 7 = nI y) (hy : y < 60) (t4 : gL X (31 + ra) 4 = lN T) (t5 : gL X (31 + ra) 5 = lN U) (hT : T ≤ 6200000000) (hU : U ≤ 40000) (hd : d = T * u / U) (hp : d ≤ p) {z : Int32} : F_X0_draw N (37 + j) z (sL X 1 10 (gL X 1 10 + lN p)) = if z = (0 : Int32) then some ((0 : Int64), sL (sL X (77 + j) y (lN d)) 1 10 (gL X 1 10 + lN (p - d))) else bn1 (F_X0_payOut N (37 + j) (lN d) (sL (sI (sL X (77 + j) y (lN d)) (37 + j) 14 (nI (y + 1))) 1 10 (gL X 1 10 + lN (p - d)))) (fun M7 => some (lN d, M7)) := by
  have hm : T * u < 2 ^ 63 := by
    have : T * u ≤ 6200000000 * 1000 := Nat.mul_le_mul hT hu
    omega
  have ew : F_X5_isWithin (nI y) 0 59 = true := wi_toInt.mpr (by rw [nI_toInt (by omega), show (0 : Int32).toInt = 0 from rfl, show (59 : Int32).toInt = 59 from rfl]; omega)
  have en : F_X3_note N (37 + j) (nI y) (lN d) (sL X 1 10 (gL X 1 10 + lN (p - d))) = some (sL (sL X (77 + j) y (lN d)) 1 10 (gL X 1 10 + lN (p - d))) := by
    rw [F_X3_note, ew, bIt, gd_ib (by omega) (by omega), bnd_e, ixn (by omega), show 37 + j + 40 = 77 + j by omega, sLC (by omega)]
  rw [F_X0_draw, gIsL, gIsL, x4, x3, gd_ib (by omega) (by omega), ixn (by omega), gLn (by omega), gLn (by omega), t4, t5, nIw (by omega), parted_e hm (by omega), ← hd, bnd_e, gLe, addsub hp, sLL, bnd_e, gIsL, x7, en, bn1_e, gIsL, gIsL, x7, nI_1, bnd_e, sIL]
theorem drawA_0 (hr : ra < 6) (x4 : gI X (37 + j) 4 = nI ra) (x3 : gI X (37 + j) 3 = nI u) (hu : u ≤ 1000) (x7 : gI X 1 7 = nI y) (hy : y < 60) (t4 : gL X (31 + ra) 4 = lN T) (t5 : gL X (31 + ra) 5 = lN U) (hT : T ≤ 6200000000) (hU : U ≤ 40000) (hd : d = T * u / U) (hp : d ≤ p) : F_X0_draw N (37 + j) 0 (sL X 1 10 (gL X 1 10 + lN p)) = some ((0 : Int64), sL (sL X (77 + j) y (lN d)) 1 10 (gL (sL X (77 + j) y (lN d)) 1 10 + lN (p - d))) := by
  rw [drawA_n hr x4 x3 hu x7 hy t4 t5 hT hU hd hp, if_pos rfl, gLn (by omega)]
theorem drawA_1 (hr : ra < 6) (x4 : gI X (37 + j) 4 = nI ra) (x3 : gI X (37 + j) 3 = nI u) (hu : u ≤ 1000) (x7 : gI X 1 7 = nI y) (hy : y < 60) (t4 : gL X (31 + ra) 4 = lN T) (t5 : gL X (31 + ra) 5 = lN U) (hT : T ≤ 6200000000) (hU : U ≤ 40000) (hd : d = T * u / U) (hp : d ≤ p) {X3 : MM} (hpay : F_X0_payOut N (37 + j) (lN d) (sI (sL X (77 + j) y (lN d)) (37 + j) 14 (nI (y + 1))) = some X3) : F_X0_draw N (37 + j) 1 (sL X 1 10 (gL X 1 10 + lN p)) = some (lN d, sL X3 1 10 (gL X3 1 10 + lN (p - d))) := by
  have q := payOut_fr (e := lN (p - d)) (by omega) hpay
  rw [gLsI, gLn (by omega)] at q
  rw [drawA_n hr x4 x3 hu x7 hy t4 t5 hT hU hd hp, if_neg (by decide), q, bn1_e]
end DrawA
section R448
variable {N j y s d fu : Nat} {x : Int32} {v : Int64} {B B3 : MM}
theorem r448_0 (hj : j < s) (hs : s ≤ 40) (hy : y < 60) (b6 : gI B 6 j = 0) (b5 : gL B 5 j = lN d) (hp : F_X6_pays N (nI j) (lN d) (sL B 1 (863 + 60 * j + y) (lN d)) = some B3) (g5 : gL B3 5 j = lN d) (g6 : gI B3 6 j = 0) : F_X6_close_448 N x (fu + 1) (nI s) (nI y) v (nI j) B = F_X6_close_448 N x fu (nI s) (nI y) (v + lN d) (nI (j + 1)) (sL B3 1 (303 + 14 * j + 10) 0) := by
  have h1 : ¬ nI s ≤ nI j := by rw [nIl (by omega) (by omega)]; omega
  rw [F_X6_close_448, if_neg h1, gd_ib (by omega) (by omega), ixn (by omega), b6, if_neg (show ¬ (2 : Int32) ≤ 0 by decide), drx, gd_ib (by omega) (by omega), ixn (by omega), b5, bnd_e, gIsL, b6, if_neg (show ¬ (0 : Int32) = 1 by decide), if_pos rfl, gLn (by omega), b5, hp, bn1_e, g5, g6, bnd_e, if_pos rfl, part_10, gd_ib (by omega) (by omega), ixn (by omega), bnd_e, nI_1]
theorem r448_1 (hj : j < s) (hs : s ≤ 40) (hy : y < 60) (b6 : gI B 6 j = 1) (b5 : gL B 5 j = lN d) : F_X6_close_448 N x (fu + 1) (nI s) (nI y) v (nI j) B = F_X6_close_448 N x fu (nI s) (nI y) v (nI (j + 1)) (sL (sL (sL B 1 (863 + 60 * j + y) (lN d)) 1 (3263 + 60 * j + y) (lN d)) 1 (303 + 14 * j + 10) (gL B 1 (303 + 14 * j + 10) + 1)) := by
  have h1 : ¬ nI s ≤ nI j := by rw [nIl (by omega) (by omega)]; omega
  rw [F_X6_close_448, if_neg h1, gd_ib (by omega) (by omega), ixn (by omega), b6, if_neg (show ¬ (2 : Int32) ≤ 1 by decide), drx, gd_ib (by omega) (by omega), ixn (by omega), b5, bnd_e, gIsL, b6, if_pos rfl, hex, gd_ib (by omega) (by omega), ixn (by omega), gLn (by omega), b5, bnd_e, gIsL, gIsL, b6, if_neg (show ¬ (1 : Int32) = 0 by decide), if_neg (show ¬ (1 : Int32) = 3 by decide), part_10, gd_ib (by omega) (by omega), ixn (by omega), bnd_e, gLn (by omega), gLn (by omega), nI_1]
theorem r448_2 (hj : j < s) (hs : s ≤ 40) (b6 : gI B 6 j = 2) : F_X6_close_448 N x (fu + 1) (nI s) (nI y) v (nI j) B = F_X6_close_448 N x fu (nI s) (nI y) v (nI (j + 1)) (sL B 1 (303 + 14 * j + 10) (gL B 1 (303 + 14 * j + 10) + 1)) := by
  have h1 : ¬ nI s ≤ nI j := by rw [nIl (by omega) (by omega)]; omega
  rw [F_X6_close_448, if_neg h1, gd_ib (by omega) (by omega), ixn (by omega), b6, if_pos (show (2 : Int32) ≤ 2 by decide), if_neg (show ¬ (2 : Int32) = 1 by decide), if_neg (show ¬ (2 : Int32) = 0 by decide), if_neg (show ¬ (2 : Int32) = 3 by decide), part_10, gd_ib (by omega) (by omega), ixn (by omega), bnd_e, nI_1]
theorem r448_3 (hj : j < s) (hs : s ≤ 40) (b6 : gI B 6 j = 3) : F_X6_close_448 N x (fu + 1) (nI s) (nI y) v (nI j) B = F_X6_close_448 N x fu (nI s) (nI y) v (nI (j + 1)) (sL B 1 (303 + 14 * j + 10) 0) := by
  have h1 : ¬ nI s ≤ nI j := by rw [nIl (by omega) (by omega)]; omega
  rw [F_X6_close_448, if_neg h1, gd_ib (by omega) (by omega), ixn (by omega), b6, if_pos (show (2 : Int32) ≤ 3 by decide), if_neg (show ¬ (3 : Int32) = 1 by decide), if_neg (show ¬ (3 : Int32) = 0 by decide), if_pos rfl, part_10, gd_ib (by omega) (by omega), ixn (by omega), bnd_e, nI_1]
end R448
set_option maxHeartbeats 8000000 in
theorem draw_loop {N m r s y D : Nat} {k : Int} {K : KT} {A0 : MM} {hw : Nat → Int32} {ra u p U d : Nat → Nat} {x : Int32} (hc : cap m r s) (hs0 : R_s m r s y A0) (hF : FA N r s hw ra u A0) (hlv : ∀ i, i < s → (hw i = 0 ↔ (prv m A0 i ∨ y < ix (gI A0 (37 + i) 9)))) (hli : ∀ i, i < s → R_o m A0 i ∧ ∃ li, gI A0 (37 + i) 1 = nI li ∧ li < m) (hU : ∀ k, U k ≤ 40000) (hT : ∀ k, k < r → tot U p k ≤ 6200000000) (hd : d = drw (qd hw) ra u (tot U p) U) (hD : D = sN d s) (hDb : D ≤ 6200000000) (hy : y < 60) : ∀ (fu j : Nat) (v : Int64) (X B : MM), CM (100000000 * ((y : Int) + 1) - ((D - sN d j : Nat) : Int)) k K m r s y (fun i => if i < j then y + 1 else y) (fun i => j ≤ i ∧ prv m A0 i) X B → (∀ c z, (c < 37 ∨ (z ≠ 10 ∧ z ≠ 14)) → gI X c z = gI A0 c z) → (∀ i, j ≤ i → i < s → ∀ z, gI X (37 + i) z = gI A0 (37 + i) z) → (∀ q, q < r → gL X (31 + q) 4 = lN (tot U p q) ∧ gL X (31 + q) 5 = lN (U q)) → (∀ i, i < s → gL B 5 i = lN (d i) ∧ gI B 6 i = hw i) → j ≤ s → s < j + fu → ∃ (w : Int64) (X' B' : MM), F_X0_drawAll_4 N fu v (nI j) (sL X 1 10 (gL X 1 10 + lN (D - sN d j))) = some (w, X') ∧ F_X6_close_448 N x fu (nI s) (nI y) v (nI j) B = bnd (sL B' 1 5663 (gL B' 1 5663 + (1 : Int64))) (fun M54 => F_X6_close_632 N x N (nI s) w (0 : Int32) M54) ∧ CM (100000000 * ((y : Int) + 1)) k K m r s y (fun _ => y + 1) (fun _ => False) X' B' ∧ (∀ c z, (c < 37 ∨ (z ≠ 10 ∧ z ≠ 14)) → gI X' c z = gI A0 c z) := by
  have c1 : m ≤ 24 := hc.1
  have c2 : r ≤ 6 := hc.2.1
  have c3 : s ≤ 40 := hc.2.2
  intro fu
  induction fu with
  | zero => intro j v X B hC i2 i3 i4 i5 h1 h2; omega
  | succ fu ih =>
    intro j v X B hC i2 i3 i4 i5 h1 h2
    have hsX := hC.2.1
    have hsum := hC.2.2.2.2.2.2.2.1.2
    by_cases hj : s ≤ j
    · have : j = s := by omega
      subst this
      refine ⟨v, X, B, ?_, ?_, (hC.cb (b' := 100000000 * ((y : Int) + 1)) (by omega)).mono (fun i hi => ⟨by rw [if_pos hi], fun q => q.elim⟩), i2⟩
      · rw [hD, Nat.sub_self, show lN 0 = (0 : Int64) from rfl, Int64.add_zero, sL_same, F_X0_drawAll_4, hsX.2.2.1, if_pos (by rw [nIl (by omega) (by omega)]; omega)]
      · rw [F_X6_close_448, if_pos (by rw [nIl (by omega) (by omega)]; omega)]
    · have hj2 : j < s := by omega
      obtain ⟨f3, f3a, f3b, f4, f4a, f5, f6⟩ := hF j hj2
      obtain ⟨o1, li, o2, o3⟩ := hli j hj2
      have x37 : ∀ z, gI X (37 + j) z = gI A0 (37 + j) z := i3 j (Nat.le_refl _) hj2
      have hfr : F_X0_howItIs N (37 + j) (sL X 1 10 (gL X 1 10 + lN (D - sN d j))) = some (hw j) := by
        rw [how_gI (M := sL X 1 10 (gL X 1 10 + lN (D - sN d j))) (A := X) rfl, how_fr hs0 hsX c1 x37 (fun c z hc => i2 c z (Or.inl hc)) o2 o3 o1]
        exact f5
      have x4 : gI X (37 + j) 4 = nI (ra j) := by rw [x37]; exact f4
      have x3 : gI X (37 + j) 3 = nI (u j) := by rw [x37]; exact f3
      have hr6 : ra j < 6 := by omega
      obtain ⟨t4, t5⟩ := i4 (ra j) f4a
      obtain ⟨b5, b6⟩ := i5 j hj2
      have hle : sN d (j + 1) ≤ sN d s := sN_mono (by omega)
      have hst : sN d (j + 1) = sN d j + d j := rfl
      have hre : D - sN d j - d j = D - sN d (j + 1) := by omega
      have hdb : d j ≤ 6200000000 := by omega
      have hY2 : ∀ i, i < s → i ≠ j → (fun i => if i < j + 1 then y + 1 else y) i = (fun i => if i < j then y + 1 else y) i ∧ ((fun i => j + 1 ≤ i ∧ prv m A0 i) i → (fun i => j ≤ i ∧ prv m A0 i) i) := fun i hi hne => by
        refine ⟨?_, fun q => ⟨Nat.le_of_succ_le q.1, q.2⟩⟩
        show (if i < j + 1 then y + 1 else y) = (if i < j then y + 1 else y)
        by_cases e : i < j
        · rw [if_pos e, if_pos (by omega)]
        · rw [if_neg e, if_neg (by omega)]
      have hYj : (fun i => if i < j then y + 1 else y) j = y := if_neg (Nat.lt_irrefl j)
      have hYj2 : (fun i => if i < j + 1 then y + 1 else y) j = y + 1 := if_pos (Nat.lt_succ_self j)
      have hP2 : ¬ (fun i => j + 1 ≤ i ∧ prv m A0 i) j := fun q => Nat.not_succ_le_self j q.1
      have hg := hC.2.2.2.2.2.1 j hj2
      rw [hYj] at hg
      obtain ⟨un, hun, hunb⟩ : ∃ un, gI X (37 + j) 10 = nI un ∧ un ≤ y := by
        obtain ⟨g0, ho, li', ra', u', kn, si, su, un, hf2, g1, -⟩ := hg
        exact ⟨un, g1.2.2.2.2.2.2.2.1, g1.2.2.2.2.2.2.2.2.2.2.2.2.2.2.2.2.2.2.2.1⟩
      have hunB : gL B 1 (303 + 14 * j + 10) = lN un := by rw [hC.1.s10 hj2, hun, nIw (by omega)]
      rw [F_X0_drawAll_4, gIsL, hsX.2.2.1, if_neg (show ¬ nI s ≤ nI j by rw [nIl (by omega) (by omega)]; omega), gd_ib (by omega) (by omega), ixn (by omega), hfr, bn1_e, nI_1]
      have hni : ¬ hw j = 0 → ¬ y < ix (gI X (37 + j) 9) := fun q q2 => by
        rw [x37] at q2
        exact q ((hlv j hj2).mpr (Or.inr q2))
      rcases f6 with h0 | h0 | h0 | h0
      · -- LIVE
        have hdj : d j = tot U p (ra j) * u j / U (ra j) := by rw [hd]; unfold drw qd; rw [h0, if_pos (by decide)]
        have hl := (hlv j hj2).mp h0
        have hL := hC.live (d := d j) (Y2 := fun i => if i < j + 1 then y + 1 else y) (P2 := fun i => j + 1 ≤ i ∧ prv m A0 i) hj2 hYj hy hdb (hl.imp (fun q => ⟨Nat.le_refl _, q⟩) (fun q => by rw [x37]; exact q)) hYj2 hY2
        have hs2 := hL.2.2.2.2.2.2.2.1.2
        have elN : (lN (d j)).toInt = d j := pk_lT (by omega)
        obtain ⟨X3, B3, p1, p2, p3, p4, p5, p6, p7⟩ := hL.pay (N := N) (b' := 100000000 * ((y : Int) + 1) - ((D - sN d (j + 1) : Nat) : Int)) hj2 (a := lN (d j)) (by omega) (by omega) (by omega)
        have hU4 := p3.un (un := 0) hj2 (Nat.zero_le _) (by rw [hYj2]; omega) (w := 0) rfl
        have hB := r448_0 (N := N) (x := x) (v := v) (fu := fu) hj2 c3 hy (by rw [b6, h0]) b5 p2 (by rw [p6 5 (by decide), gLn (by omega)]; exact b5) (by rw [p5, gIsL, b6, h0])
        rw [hB, h0, if_pos rfl, drawA_1 hr6 x4 x3 f3b (by rw [hsX.2.2.2.1]) hy t4 t5 (hT _ f4a) (hU _) hdj (by omega) p1, bn2_e, bnd_e, bnd_e, sIL, hre]
        refine ih (j + 1) (v + lN (d j)) (sI X3 (37 + j) 10 (nI 0)) (sL B3 1 (303 + 14 * j + 10) 0) hU4 (fun c z q => ?_) (fun i hi1 hi2 z => ?_) (fun q hq => ?_) (fun i hi1 => ?_) (by omega) (by omega)
        · rw [gIn (by omega), p4, gIn (by omega), gIsL]; exact i2 c z q
        · rw [gIn (by omega), p4, gIn (by omega), gIsL]; exact i3 i (by omega) hi2 z
        · rw [gLsI, gLsI, p7 _ _ (by omega) (by omega), p7 _ _ (by omega) (by omega), gLsI, gLsI, gLn (by omega), gLn (by omega)]; exact i4 q hq
        · rw [gLn (by omega), p6 5 (by decide), gLn (by omega), gIsL, p5, gIsL]; exact i5 i hi1
      · -- WAITS
        have hn := hni (by rw [h0]; decide)
        have hdj : d j = tot U p (ra j) * u j / U (ra j) := by rw [hd]; unfold drw qd; rw [h0, if_pos (by decide)]
        have hL := hC.wait (b' := 100000000 * ((y : Int) + 1) - ((D - sN d (j + 1) : Nat) : Int)) (d := d j) (Y2 := fun i => if i < j + 1 then y + 1 else y) (P2 := fun i => j + 1 ≤ i ∧ prv m A0 i) hj2 hYj hy hdb hn hYj2 hP2 hY2 (by omega)
        have hU4 := hL.1.un (un := un + 1) hj2 (by rw [hYj2]; omega) (by rw [hYj2]; omega) (w := lN un + 1) (lN_1 un)
        have hB := r448_1 (N := N) (x := x) (v := v) (fu := fu) hj2 c3 hy (by rw [b6, h0]) b5
        rw [hunB] at hB
        rw [hB, h0, if_neg (show ¬ (1 : Int32) = 0 by decide), if_pos rfl, drawA_0 hr6 x4 x3 f3b (by rw [hsX.2.2.2.1]) hy t4 t5 (hT _ f4a) (hU _) hdj (by omega), bn2_e, bnd_e, if_neg (show ¬ (1 : Int32) = 3 by decide), bnd_e, sIL, gIsL, gIsL, hun, nI_1, hre, Int64.add_zero]
        refine ih (j + 1) v (sI (sL X (77 + j) y (lN (d j))) (37 + j) 10 (nI (un + 1))) _ hU4 (fun c z q => ?_) (fun i hi1 hi2 z => ?_) (fun q hq => ?_) (fun i hi1 => ?_) (by omega) (by omega)
        · rw [gIn (by omega), gIsL]; exact i2 c z q
        · rw [gIn (by omega), gIsL]; exact i3 i (by omega) hi2 z
        · rw [gLsI, gLsI, gLn (by omega), gLn (by omega)]; exact i4 q hq
        · rw [gLn (by omega), gLn (by omega), gLn (by omega), gIsL, gIsL, gIsL]; exact i5 i hi1
      · -- LOST
        have hn := hni (by rw [h0]; decide)
        have hdj : d j = 0 := by rw [hd]; unfold drw qd; rw [h0, if_neg (by decide)]
        have hL := hC.next (Y2 := fun i => if i < j + 1 then y + 1 else y) (P2 := fun i => j + 1 ≤ i ∧ prv m A0 i) hj2 hYj hn hYj2 hP2 hY2
        have hU4 := (hL.cb (b' := 100000000 * ((y : Int) + 1) - ((D - sN d (j + 1) : Nat) : Int)) (by omega)).un (un := un + 1) hj2 (by rw [hYj2]; omega) (by rw [hYj2]; omega) (w := lN un + 1) (lN_1 un)
        have hB := r448_2 (N := N) (x := x) (v := v) (fu := fu) (y := y) hj2 c3 (by rw [b6, h0])
        rw [hunB] at hB
        rw [hB, h0, if_neg (show ¬ (2 : Int32) = 0 by decide), if_neg (show ¬ (2 : Int32) = 1 by decide), if_neg (show ¬ (2 : Int32) = 3 by decide), bnd_e, sIL, gIsL, hun, nI_1, show D - sN d j = D - sN d (j + 1) by omega]
        refine ih (j + 1) v (sI X (37 + j) 10 (nI (un + 1))) _ hU4 (fun c z q => ?_) (fun i hi1 hi2 z => ?_) (fun q hq => ?_) (fun i hi1 => ?_) (by omega) (by omega)
        · rw [gIn (by omega)]; exact i2 c z q
        · rw [gIn (by omega)]; exact i3 i (by omega) hi2 z
        · rw [gLsI, gLsI]; exact i4 q hq
        · rw [gLn (by omega), gIsL]; exact i5 i hi1
      · -- at an END
        have hn := hni (by rw [h0]; decide)
        have hdj : d j = 0 := by rw [hd]; unfold drw qd; rw [h0, if_neg (by decide)]
        have hL := hC.next (Y2 := fun i => if i < j + 1 then y + 1 else y) (P2 := fun i => j + 1 ≤ i ∧ prv m A0 i) hj2 hYj hn hYj2 hP2 hY2
        have hU4 := (hL.cb (b' := 100000000 * ((y : Int) + 1) - ((D - sN d (j + 1) : Nat) : Int)) (by omega)).un (un := 0) hj2 (Nat.zero_le _) (by rw [hYj2]; omega) (w := 0) rfl
        have hB := r448_3 (N := N) (x := x) (v := v) (fu := fu) (y := y) hj2 c3 (by rw [b6, h0])
        rw [hB, h0, if_neg (show ¬ (3 : Int32) = 0 by decide), if_neg (show ¬ (3 : Int32) = 1 by decide), if_pos rfl, bnd_e, sIL, show D - sN d j = D - sN d (j + 1) by omega]
        refine ih (j + 1) v (sI X (37 + j) 10 (nI 0)) _ hU4 (fun c z q => ?_) (fun i hi1 hi2 z => ?_) (fun q hq => ?_) (fun i hi1 => ?_) (by omega) (by omega)
        · rw [gIn (by omega)]; exact i2 c z q
        · rw [gIn (by omega)]; exact i3 i (by omega) hi2 z
        · rw [gLsI, gLsI]; exact i4 q hq
        · rw [gLn (by omega), gIsL]; exact i5 i hi1
end
section
/-! ===== the year is one more ===== -/
theorem CM.year {k : Int} {K : KT} {m r s y : Nat} {A B : MM} (h : CM (100000000 * ((y : Int) + 1)) k K m r s y (fun _ => y + 1) (fun _ => False) A B) (hy : y < 60) : MS k K m r s (y + 1) (fun _ => False) (sI A 1 7 (nI (y + 1))) (sL B 1 5663 (lN (y + 1))) := by
  obtain ⟨he, hs, ht, hm, hkk, hh, hp, hf, hb⟩ := h
  have c1 : m ≤ 24 := he.1.1
  have c2 : r ≤ 6 := he.1.2.1
  have c3 : s ≤ 40 := he.1.2.2
  refine ⟨he.I v_sc7 rfl rfl (nI (y + 1)) rfl (by rw [nIw (by omega)]), ?_, ht.fI (by omega), hm.fI c1 (by omega), hkk.fI c2 (by omega), fun q hq => ((hh q hq).fI (by omega)).fB (by omega) (by omega) (by omega), fun q hq => ((hp q hq).fI (by omega)).fB (by omega), ?_, hb.fI⟩
  · unfold R_s at *
    simp (disch := omega) only [gIn, gIe]
    exact ⟨hs.1, hs.2.1, hs.2.2.1, trivial, by omega, hs.2.2.2.2.2⟩
  · unfold R_f
    rw [sumZ_congr (f := heI (sL B 1 5663 (lN (y + 1)))) (g := heI B) (fun i hi => heI_fB (by omega) (by omega)), gLsI]
    omega
theorem year_loop {N m r s y : Nat} {k : Int} {K : KT} {P : Nat → Prop} {x : Int32} {w : Int64} : ∀ (fu j : Nat) (A B : MM), MS k K m r s y P A B → j ≤ m → m < j + fu → ∃ (A' B' : MM), F_X0_beginNextYear_12 N fu (nI j) A = some A' ∧ F_X6_close_632 N x fu (nI s) w (nI j) B = F_X6_close_668 N x N (nI s) w (0 : Int32) B' ∧ MS k K m r s y P A' B' ∧ (∀ i, j ≤ i → i < m → gI A' (7 + i) 4 = 0) ∧ (∀ i, i < j → gI A' (7 + i) 4 = gI A (7 + i) 4) := by
  intro fu
  induction fu with
  | zero => intro j A B h0 h1 h2; omega
  | succ fu ih =>
    intro j A B h0 h1 h2
    have he := h0.1
    have hs := h0.2.1
    have c1 : m ≤ 24 := he.1.1
    rw [F_X0_beginNextYear_12, F_X6_close_632, he.cm hs, nIw (by omega), hs.1]
    simp (disch := omega) only [lNl, nIl]
    by_cases hj : m ≤ j
    · rw [if_pos hj, if_pos hj]
      exact ⟨A, B, rfl, rfl, h0, fun i h3 h4 => by omega, fun i _ => rfl⟩
    · rw [if_neg hj, if_neg hj, gd_ib (by omega) (by omega), bnd_e, cellOf_4, gd_ib (by omega) (by omega), bnd_e, ixn (by omega), ixn (by omega), nI_1]
      obtain ⟨A', B', q1, q2, q3, q4, q5⟩ := ih (j + 1) (sI A (7 + j) 4 0) (sL B 1 (111 + 7 * j + 4) 0) (h0.m4 (by omega) (v := 0) (w := 0) rfl) (by omega) (by omega)
      refine ⟨A', B', q1, q2, q3, fun i h3 h4 => ?_, fun i h3 => by rw [q5 i (by omega), gIn (by omega)]⟩
      by_cases e : i = j
      · subst e
        rw [q5 i (by omega), gIe]
      · exact q4 i (by omega) h4
/-! ===== BACK goes ===== -/
theorem MS.gb {k : Int} {K : KT} {m r s y : Nat} {P : Nat → Prop} {A B : MM} (h : MS k K m r s y P A B) {j ra tg : Nat} (hj : j < s) (hra : ra < r) (htg : tg < m) {c : Int64} (h0 : 0 ≤ c.toInt) (h1 : c.toInt ≤ (gL A (31 + ra) 3).toInt) : MS k K m r s y P (sL (sL (sI A (37 + j) 13 1) (31 + ra) 3 (gL A (31 + ra) 3 - c)) (7 + tg) 1 (gL A (7 + tg) 1 + c)) (sL (sL (sL B 1 (303 + 14 * j + 13) 1) 1 (279 + 4 * ra + 3) (gL A (31 + ra) 3 - c)) 1 (111 + 7 * tg + 1) (gL A (7 + tg) 1 + c)) := by
  obtain ⟨he, hs, ht, hm, hkk, hh, hp, hf, hb⟩ := h
  have c1 : m ≤ 24 := he.1.1
  have c2 : r ≤ 6 := he.1.2.1
  have c3 : s ≤ 40 := he.1.2.2
  have e1 := he.Z (v_s13 hj) (t_s13 (by omega)) (z_s13 (by omega)) 1 (n_s13 (by omega)) (w := 1) rfl
  have e2 := e1.L (v_k3 hra) (t_k3 (by omega)) (gL A (31 + ra) 3 - c) (n_k3 (by omega))
  have e3 := e2.L (v_m1 htg) (t_m1 (by omega)) (gL A (7 + tg) 1 + c) (n_m1 (by omega))
  refine ⟨e3, (R_s.fL (R_s.fL (hs.fI (by omega)))), (R_t.fL (R_t.fL (ht.fI (by omega)))), (R_m.fL (R_m.fL (hm.fI c1 (by omega)))), fun z hz => ?_, fun q hq => ((((((hh q hq).fI (by omega)).fL (by omega)).fL (by omega)).fB (by omega) (by omega) (by omega)).fB (by omega) (by omega) (by omega)).fB (by omega) (by omega) (by omega), fun q hq => ((((((hp q hq).fI (by omega)).fL (by omega)).fL (by omega)).fB (by omega)).fB (by omega)).fB (by omega), (((((R_f.fI hf).fL (by omega)).fL (by omega)).fB c3 (by omega)).fB c3 (by omega)).fB c3 (by omega), ((R_d.fI hb).fL c1 (by omega)).fL c1 (by omega)⟩
  have q := hkk z hz
  rw [gIsL, gIsL, gIsL, gIsL, gIsL, gIsL, gIn (by omega), gIn (by omega), gIn (by omega), gLn (by omega)]
  refine ⟨q.1, q.2.1, q.2.2.1, ?_⟩
  by_cases e : z = ra
  · subst e
    rw [gLe, fb_subL (by omega) (by omega)]
    omega
  · rw [gLn (by omega), gLsI]
    exact q.2.2.2
theorem gb_c {x st : Int64} (h : 0 ≤ st.toInt) : (¬ (0 : Int64) ≤ x → mnL (mxL x 0) st = 0) ∧ ((0 : Int64) ≤ x → x ≤ st → mnL (mxL x 0) st = x) ∧ ((0 : Int64) ≤ x → ¬ x ≤ st → mnL (mxL x 0) st = st) ∧ 0 ≤ (mnL (mxL x 0) st).toInt ∧ (mnL (mxL x 0) st).toInt ≤ st.toInt := by
  have z0 : (0 : Int64).toInt = 0 := rfl
  unfold mnL mxL
  simp only [Int64.lt_iff_toInt_lt, Int64.le_iff_toInt_le, z0]
  by_cases h1 : 0 < x.toInt
  · rw [if_pos h1]
    by_cases h2 : st.toInt < x.toInt
    · rw [if_pos h2]
      exact ⟨fun q => by omega, fun _ q => by omega, fun _ _ => rfl, h, Int.le_refl _⟩
    · rw [if_neg h2]
      exact ⟨fun q => by omega, fun _ _ => rfl, fun _ q => by omega, by omega, by omega⟩
  · rw [if_neg h1, if_neg (by rw [z0]; omega)]
    exact ⟨fun _ => rfl, fun q _ => i64 (by rw [z0]; omega), fun q q2 => by omega, by rw [z0]; omega, by rw [z0]; exact h⟩
section GB
variable {N m r s y j ra li ho tg : Nat} {K : KT} {A B : MM}
theorem gb_A (hs : R_s m r s y A) (c1 : m ≤ 24) (c2 : r ≤ 6) (hra : ra < r) (hli : li < m) (hho : ho < m) (htg : tg < m) (x0 : gI A (37 + j) 0 = nI ho) (x1 : gI A (37 + j) 1 = nI li) (x4 : gI A (37 + j) 4 = nI ra) (hx : (gI A (7 + li) 3 = -1 ∧ tg = ho) ∨ gI A (7 + li) 3 = nI tg) : F_X0_giveBackOf N (37 + j) (sI A (37 + j) 13 1) = some (sL (sL (sI A (37 + j) 13 1) (31 + ra) 3 (gL A (31 + ra) 3 - mnL (mxL (gL A (37 + j) 6 - gL A (37 + j) 7) 0) (gL A (31 + ra) 3))) (7 + tg) 1 (gL A (7 + tg) 1 + mnL (mxL (gL A (37 + j) 6 - gL A (37 + j) 7) 0) (gL A (31 + ra) 3))) := by
  generalize hc : mnL (mxL (gL A (37 + j) 6 - gL A (37 + j) 7) 0) (gL A (31 + ra) 3) = c
  rw [F_X0_giveBackOf]
  simp (disch := omega) only [gIn, gLsI, gIsL, x4, x1, x0, gd_ib, bnd_e, ixn, hc]
  have hsM : ∀ z, F_X0_isMember z (sL (sI A (37 + j) 13 1) (31 + ra) 3 (gL A (31 + ra) 3 - c)) = ib z m := fun z => isM_A (by rw [gIsL, gIn (by omega)]; exact hs.1) (by omega)
  rw [hsM]
  rcases hx with ⟨hx, rfl⟩ | hx
  · rw [hx, ib_m1, bIf]
    simp (disch := omega) only [gLn, gLsI]
  · rw [hx, ib_nI htg (by omega), bIt, gd_ib (by omega) (by omega), ixn (by omega)]
    simp (disch := omega) only [gLn, gLsI]
set_option maxHeartbeats 4000000 in
theorem gb_B (he : Eqv K m r s A B) (hj : j < s) (hra : ra < r) (hli : li < m) (hho : ho < m) (htg : tg < m) (x0 : gI A (37 + j) 0 = nI ho) (x1 : gI A (37 + j) 1 = nI li) (x4 : gI A (37 + j) 4 = nI ra) (hx : (gI A (7 + li) 3 = -1 ∧ tg = ho) ∨ gI A (7 + li) 3 = nI tg) (hst : 0 ≤ (gL A (31 + ra) 3).toInt) : F_X6_backGoes N (nI j) B = some (sL (sL (sL B 1 (303 + 14 * j + 13) 1) 1 (279 + 4 * ra + 3) (gL A (31 + ra) 3 - mnL (mxL (gL A (37 + j) 6 - gL A (37 + j) 7) 0) (gL A (31 + ra) 3))) 1 (111 + 7 * tg + 1) (gL A (7 + tg) 1 + mnL (mxL (gL A (37 + j) 6 - gL A (37 + j) 7) 0) (gL A (31 + ra) 3))) := by
  have c1 : m ≤ 24 := he.1.1
  have c2 : r ≤ 6 := he.1.2.1
  have c3 : s ≤ 40 := he.1.2.2
  obtain ⟨k1, k2, k3, -, -⟩ := gb_c (x := gL A (37 + j) 6 - gL A (37 + j) 7) hst
  have b0 : gL B 1 (303 + 14 * j + 0) = lN ho := by rw [he.s0 hj, x0, nIw (by omega)]
  have b1 : gL B 1 (303 + 14 * j + 1) = lN li := by rw [he.s1 hj, x1, nIw (by omega)]
  have b4 : gL B 1 (303 + 14 * j + 4) = lN ra := by rw [he.s4 hj, x4, nIw (by omega)]
  have b6 := he.s6 hj
  have b7 := he.s7 hj
  have bk := he.k3 hra
  have bm := he.m1 htg
  have bh := he.m3 hli
  rw [F_X6_backGoes]
  simp (disch := omega) only [part_13, part_4, part_6, part_7, part_1, part_0, gd_ib, bnd_e, ixn, gLn, b0, b1, b4, b6, b7, lNi, groupCell_3, cellOf_3, cellOf_1, bk]
  generalize gL A (37 + j) 6 - gL A (37 + j) 7 = x7 at *
  rcases hx with ⟨hx, rfl⟩ | hx
  · have hn : ¬ (0 : Int64) ≤ gL B 1 (111 + 7 * li + 3) := by rw [bh, hx]; decide
    by_cases g1 : (0 : Int64) ≤ x7
    · rw [if_pos g1]
      by_cases g2 : x7 ≤ gL A (31 + ra) 3
      · rw [if_pos g2, if_neg hn, k2 g1 g2, bm]
      · rw [if_neg g2, if_neg hn, k3 g1 g2, bm]
    · rw [if_neg g1, if_neg hn, k1 g1, bm]
  · have hy : gL B 1 (111 + 7 * li + 3) = lN tg := by rw [bh, hx, nIw (by omega)]
    have hn : (0 : Int64) ≤ gL B 1 (111 + 7 * li + 3) := by
      rw [hy, Int64.le_iff_toInt_le, lN_toInt' (by omega), show (0 : Int64).toInt = 0 from rfl]
      omega
    by_cases g1 : (0 : Int64) ≤ x7
    · rw [if_pos g1]
      by_cases g2 : x7 ≤ gL A (31 + ra) 3
      · rw [if_pos g2, if_pos hn, k2 g1 g2]
        simp (disch := omega) only [hy, lNi, cellOf_1, gd_ib, ixn, gLn, bm]
      · rw [if_neg g2, if_pos hn, k3 g1 g2]
        simp (disch := omega) only [hy, lNi, cellOf_1, gd_ib, ixn, gLn, bm]
    · rw [if_neg g1, if_pos hn, k1 g1]
      simp (disch := omega) only [hy, lNi, cellOf_1, gd_ib, ixn, gLn, bm]
end GB
theorem gb_loop {N m r s y : Nat} {k : Int} {K : KT} {x : Int32} {w : Int64} (hN : 6000 ≤ N) : ∀ (fu j : Nat) (A B : MM), MS k K m r s y (fun _ => False) A B → j ≤ s → s < j + fu → ∃ (A' B' : MM), F_X0_giveBack_2 N fu (nI j) A = some A' ∧ F_X6_close_668 N x fu (nI s) w (nI j) B = some (w, B') ∧ MS k K m r s y (fun _ => False) A' B' ∧ (∀ i, i < m → gI A' (7 + i) 4 = gI A (7 + i) 4) := by
  intro fu
  induction fu with
  | zero => intro j A B h0 h1 h2; omega
  | succ fu ih =>
    intro j A B h0 h1 h2
    have h00 := h0
    obtain ⟨he, hs, ht, hm, hkk, hh, hp, hf, hb⟩ := h0
    have c1 : m ≤ 24 := he.1.1
    have c2 : r ≤ 6 := he.1.2.1
    have c3 : s ≤ 40 := he.1.2.2
    have hy : y ≤ 60 := hs.2.2.2.2.1
    rw [F_X0_giveBack_2, F_X6_close_668, hs.2.2.1]
    simp (disch := omega) only [nIl]
    by_cases hj : s ≤ j
    · rw [if_pos hj, if_pos hj]
      exact ⟨A, B, rfl, rfl, h00, fun i _ => rfl⟩
    · have hj2 : j < s := by omega
      obtain ⟨g0, ho, li, ra, u, kn, si, su, un, hf2, g1, g2, -⟩ := hh j hj2
      have g10 := g1
      obtain ⟨v0, v1, v4, v3, v5, v8, v9, v10, v14, r0, r1, r4, r3, r3', r5, r8, r9, r9', r95, r10, r14⟩ := g1
      obtain ⟨hst, q1, q2, -, -⟩ := stands_sim (N := N) hN he hs hj2 g10 g0 (by omega) r8 g2
      have e3 : ((gI A (37 + j) 5).toInt64 = (3 : Int64)) = (gI A (37 + j) 5 = 3) := by rw [show (3 : Int64) = (3 : Int32).toInt64 from rfl, weq]
      have e13 : ((bo (gI A (37 + j) 13)).toInt64 = (0 : Int64)) = (bo (gI A (37 + j) 13) = 0) := by rw [show (0 : Int64) = (0 : Int32).toInt64 from rfl, weq]
      rw [if_neg hj, if_neg hj, gd_ib (by omega) (by omega), ixn (by omega), part_5, part_13, gd_ib (by omega) (by omega), gd_ib (by omega) (by omega), ixn (by omega), ixn (by omega), he.s5 hj2, he.s13 hj2, q1, q2, bn1_e, bn1_e, nI_1]
      simp only [e3, e13]
      have nx := ih (j + 1) A B h00 (by omega) (by omega)
      by_cases k1 : gI A (37 + j) 5 = 3
      · rw [if_pos k1, if_pos k1]
        by_cases k2 : bo (gI A (37 + j) 13) = 0
        · rw [if_pos k2, if_pos k2]
          by_cases k3 : hst = 3
          · rw [if_pos k3, if_pos k3, bnd_e]
            have hk := hkk ra r4
            obtain ⟨tg, htg, hx⟩ : ∃ tg, tg < m ∧ ((gI A (7 + li) 3 = -1 ∧ tg = ho) ∨ gI A (7 + li) 3 = nI tg) := by
              rcases (hm li r1).2.2.1 with q | ⟨z, z1, z2⟩
              · exact ⟨ho, r0, Or.inl ⟨q, rfl⟩⟩
              · exact ⟨z, z1, Or.inr z2⟩
            have hc := gb_c (x := gL A (37 + j) 6 - gL A (37 + j) 7) hk.2.2.2.1
            rw [gb_A hs c1 c2 r4 r1 r0 htg v0 v1 v4 hx, gb_B he hj2 r4 r1 r0 htg v0 v1 v4 hx hk.2.2.2.1, bn1_e, bn1_e]
            obtain ⟨A', B', w1, w2, w3, w4⟩ := ih (j + 1) _ _ (h00.gb hj2 r4 htg (c := mnL (mxL (gL A (37 + j) 6 - gL A (37 + j) 7) 0) (gL A (31 + ra) 3)) hc.2.2.2.1 hc.2.2.2.2) (by omega) (by omega)
            refine ⟨A', B', w1, w2, w3, fun i hi => ?_⟩
            rw [w4 i hi, gIsL, gIsL, gIn (by omega)]
          · rw [if_neg k3, if_neg k3]
            exact nx
        · rw [if_neg k2, if_neg k2]
          exact nx
      · rw [if_neg k1, if_neg k1]
        exact nx
end
section
/-! ===== close ===== -/
theorem BR_CM {k : Nat} {b : Int} {K : KT} {m r s y : Nat} {A B : MM} (h : BR k K m r s y A B) {v : Int64} (h0 : 0 ≤ v.toInt) (h1 : v.toInt + sumZ (heI B) s ≤ b) {Y : Nat → Nat} {P : Nat → Prop} (hY : ∀ i, i < s → Y i = y ∧ (P i → prv m A i)) : CM b (k * 20000000000000) K m r s y Y P (sL A 1 10 v) (sL B 1 5664 v) := by
  obtain ⟨he, hs, ht, hm, hkk, hh, hp, hf, hb⟩ := BR_MS.mp h
  have c1 : m ≤ 24 := he.1.1
  have c2 : r ≤ 6 := he.1.2.1
  have c3 : s ≤ 40 := he.1.2.2
  refine ⟨he.L v_sc10 rfl v rfl, hs.fL, ht.fL, hm.fL, hkk.fL c2 (by omega), fun q hq => ?_, fun q hq => ((hp q hq).fL (by omega)).fB (by omega), ?_, hb.fL c1 (by omega)⟩
  · rw [(hY q hq).1]
    exact (((hh q hq).mono (hY q hq).2).fL (by omega)).fB (by omega) (by omega) (by omega)
  · rw [sumZ_congr (f := heI (sL B 1 5664 v)) (g := heI B) (fun i hi => heI_fB (by omega) (by omega)), gLe]
    exact ⟨h0, h1⟩
theorem BR.came {k : Nat} {K : KT} {m r s y : Nat} {A B : MM} (h : BR k K m r s y A B) (v : Int64) : BR k K m r s y (sL A 1 12 v) (sL B 1 5671 v) := by
  obtain ⟨he, hs, ht, hm, hkk, hh, hp, hf, hb⟩ := h
  have c1 : m ≤ 24 := he.1.1
  have c2 : r ≤ 6 := he.1.2.1
  have c3 : s ≤ 40 := he.1.2.2
  exact ⟨he.L v_sc12 rfl v rfl, hs.fL, ht.fL, hm.fL, hkk.fL c2 (by omega), fun q hq => ((hh q hq).fL (by omega)).fB (by omega) (by omega) (by omega), fun q hq => ((hp q hq).fL (by omega)).fB (by omega), (hf.fL (by omega)).fB c3 (by omega), hb.fL c1 (by omega)⟩
/-- all that both sides part, of a book -/
theorem facts {N k : Nat} (hN : 6000 ≤ N) {K : KT} {m r s y : Nat} {A B : MM} (h : BR k K m r s y A B) : ∃ (hw : Nat → Int32) (ra u : Nat → Nat), FA N r s hw ra u A ∧ FB N s hw ra u B ∧ (∀ i, i < s → (hw i = 0 ↔ (prv m A i ∨ y < ix (gI A (37 + i) 9)))) ∧ (∀ i, i < s → R_o m A i ∧ ∃ li, gI A (37 + i) 1 = nI li ∧ li < m) := by
  obtain ⟨he, hs, ht, hm, hkk, hh, hp, hf, hb⟩ := h
  have c2 : r ≤ 6 := he.1.2.1
  have hy : y ≤ 60 := hs.2.2.2.2.1
  have all : ∀ i, i < s → ∃ (h : Int32) (li ra u su : Nat), gI A (37 + i) 3 = nI u ∧ 1 ≤ u ∧ u ≤ 1000 ∧ gI A (37 + i) 4 = nI ra ∧ ra < r ∧ gI A (37 + i) 9 = nI su ∧ su ≤ 90 ∧ F_X0_howItIs N (37 + i) A = some h ∧ F_X6_stands N (nI i) B = some h ∧ (h = 0 ↔ (prv m A i ∨ y < su)) ∧ (h = 0 ∨ h = 1 ∨ h = 2 ∨ h = 3) ∧ gI A (37 + i) 1 = nI li ∧ li < m ∧ R_o m A i := by
    intro i hi
    obtain ⟨g0, ho, li, ra, u, kn, si, su, un, hf2, g1, g2, -⟩ := hh i hi
    have g10 := g1
    obtain ⟨v0, v1, v4, v3, v5, v8, v9, v10, v14, r0, r1, r4, r3, r3', r5, r8, r9, r9', r95, r10, r14⟩ := g1
    obtain ⟨h, q1, q2, q3, q4⟩ := stands_sim (N := N) hN he hs hi g10 g0 (by omega) r8 g2
    exact ⟨h, li, ra, u, su, v3, r3, r3', v4, r4, v9, r9', q1, q2, q3, q4, v1, r1, g0⟩
  refine ⟨fun i => (F_X6_stands N (nI i) B).getD 0, fun i => ix (gI A (37 + i) 4), fun i => ix (gI A (37 + i) 3), fun i hi => ?_, fun i hi => ?_, fun i hi => ?_, fun i hi => ?_⟩
  · obtain ⟨h, li, ra, u, su, a1, a2, a3, a4, a5, a6, a7, a8, a9, a10, a11, a12, a13, a14⟩ := all i hi
    show gI A (37 + i) 3 = nI (ix (gI A (37 + i) 3)) ∧ 1 ≤ ix (gI A (37 + i) 3) ∧ ix (gI A (37 + i) 3) ≤ 1000 ∧ gI A (37 + i) 4 = nI (ix (gI A (37 + i) 4)) ∧ ix (gI A (37 + i) 4) < r ∧ F_X0_howItIs N (37 + i) A = some ((F_X6_stands N (nI i) B).getD 0) ∧ _
    rw [a1, a4, ixn (by omega), ixn (by omega), a8, a9]
    exact ⟨rfl, a2, a3, rfl, a5, rfl, a11⟩
  · obtain ⟨h, li, ra, u, su, a1, a2, a3, a4, a5, a6, a7, a8, a9, a10, a11, a12, a13, a14⟩ := all i hi
    show gL B 1 (303 + 14 * i + 3) = lN (ix (gI A (37 + i) 3)) ∧ gL B 1 (303 + 14 * i + 4) = lN (ix (gI A (37 + i) 4)) ∧ F_X6_stands N (nI i) B = some ((F_X6_stands N (nI i) B).getD 0)
    rw [he.s3 hi, he.s4 hi, a1, a4, ixn (by omega), ixn (by omega), nIw (by omega), nIw (by omega), a9]
    exact ⟨rfl, rfl, rfl⟩
  · obtain ⟨h, li, ra, u, su, a1, a2, a3, a4, a5, a6, a7, a8, a9, a10, a11, a12, a13, a14⟩ := all i hi
    show (F_X6_stands N (nI i) B).getD 0 = 0 ↔ _
    rw [a9, a6, ixn (by omega)]
    exact a10
  · obtain ⟨h, li, ra, u, su, a1, a2, a3, a4, a5, a6, a7, a8, a9, a10, a11, a12, a13, a14⟩ := all i hi
    exact ⟨a14, li, a12, a13⟩
set_option maxHeartbeats 8000000 in
theorem close_core {N k : Nat} (hN : 6000 ≤ N) {K : KT} {m r s y : Nat} {A B : MM} (h : BR k K m r s y A B) (hy : y < 60) {cn : Nat} (hcn : cn ≤ 100000000) : ∃ (w : Int64) (A' B' : MM), bn1 (F_X0_partPot N (nI cn) A) (fun M3 => bn2 (F_X0_drawAll N M3) (fun x5 M4 => bn1 (F_X0_beginNextYear N M4) (fun M6 => bn1 (F_X0_giveBack N M6) (fun M7 => some (x5, M7))))) = some (w, A') ∧ F_X6_close_84 N (nI cn) N (gL B 1 5664 + lN cn) (nI r) (nI s) (0 : Int64) (0 : Int32) (sL B 1 5671 (gL B 1 5671 + lN cn)) = some (w, B') ∧ BR k K m r s (y + 1) A' B' := by
  have h00 := h
  have h4 := h.came (gL A 1 12 + lN cn)
  obtain ⟨he, hs, ht, hm, hkk, hh, hp, hf, hb⟩ := h
  have hc := he.1
  have c1 : m ≤ 24 := hc.1
  have c2 : r ≤ 6 := hc.2.1
  have c3 : s ≤ 40 := hc.2.2
  obtain ⟨A4, hA4⟩ : ∃ A4, A4 = sL A 1 12 (gL A 1 12 + lN cn) := ⟨_, rfl⟩
  obtain ⟨B4, hB4⟩ : ∃ B4, B4 = sL B 1 5671 (gL A 1 12 + lN cn) := ⟨_, rfl⟩
  rw [← hA4, ← hB4] at h4
  have gA4 : gI A4 = gI A := by rw [hA4]; rfl
  obtain ⟨hw, ra, u, hFA4, hFB, hlv4, hli4⟩ := facts hN h4
  have hF : FA N r s hw ra u A := fun i hi => by
    obtain ⟨a1, a2, a3, a4, a5, a6, a7⟩ := hFA4 i hi
    rw [gA4] at a1 a4
    rw [how_gI gA4] at a6
    exact ⟨a1, a2, a3, a4, a5, a6, a7⟩
  have hlv : ∀ i, i < s → (hw i = 0 ↔ (prv m A i ∨ y < ix (gI A (37 + i) 9))) := fun i hi => by
    have q := hlv4 i hi
    unfold prv at q ⊢
    rw [gA4] at q
    exact q
  have hli : ∀ i, i < s → R_o m A i ∧ ∃ li, gI A (37 + i) 1 = nI li ∧ li < m := fun i hi => by
    have q := hli4 i hi
    unfold R_o at q ⊢
    rw [gA4] at q
    exact q
  -- the numbers
  have hT0 : 0 ≤ sumZ (heI B) s := sumZ_nn (fun q hq => ((BR_MS.mp h00).2.2.2.2.2.1 q hq).hn)
  have hf1 := hf.1
  have hf2 := hf.2
  obtain ⟨ca, hca⟩ : ∃ ca : Nat, ca = (gL A 1 10).toInt.toNat := ⟨_, rfl⟩
  have eca : gL A 1 10 = lN ca := by rw [hca]; exact lN_of hf1
  have eci : (gL A 1 10).toInt = ca := by omega
  obtain ⟨st, hst⟩ : ∃ st : Nat → Nat, st = fun q => (gL A (31 + q) 3).toInt.toNat := ⟨_, rfl⟩
  have est : ∀ q, q < r → gL A (31 + q) 3 = lN (st q) ∧ st q ≤ 400000000 := fun q hq => by
    have z := hkk q hq
    rw [hst]
    refine ⟨lN_of z.2.2.2.1, ?_⟩
    show (gL A (31 + q) 3).toInt.toNat ≤ 400000000
    omega
  obtain ⟨pn, hpn⟩ : ∃ pn : Nat, pn = ca + cn := ⟨_, rfl⟩
  have hpnb : pn ≤ 6200000000 := by omega
  obtain ⟨ST, hST⟩ : ∃ ST : Nat, ST = sN st r := ⟨_, rfl⟩
  obtain ⟨p, hpp⟩ : ∃ p : Nat → Nat, p = fun q => pn * st q / ST := ⟨_, rfl⟩
  obtain ⟨U, hU⟩ : ∃ U : Nat → Nat, U = fun q => untN (qd hw) ra u q s := ⟨_, rfl⟩
  obtain ⟨d, hd⟩ : ∃ d : Nat → Nat, d = drw (qd hw) ra u (tot U p) U := ⟨_, rfl⟩
  obtain ⟨D, hD⟩ : ∃ D : Nat, D = sN d s := ⟨_, rfl⟩
  have hps := p_sum hpp hST
  have hDp : D ≤ pn := by rw [hD, hd]; exact D_le hF hU hps
  have hUb : ∀ q, U q ≤ 40000 := fun q => by rw [hU]; exact unt_bd hF (Nat.le_refl _) c3
  have hTb : ∀ q, q < r → tot U p q ≤ 6200000000 := fun q hq => by
    have := tot_le (U := U) (p := p) hq
    omega
  -- the class parts the pot
  obtain ⟨A2, a1, a2, a3, a4, a5, a6⟩ := potA (N := N) (r := r) (s := s) (st := st) (p := p) (U := U) hN hs.2.2.1 hs.2.1 c3 c2 hF eca hpn (fun q hq => (est q hq).1) hpnb (fun q hq => (est q hq).2) hST hpp hU (by omega)
  -- the reference parts the pot
  have eB5 : gL B 1 5671 = gL A 1 12 := he.sc12
  have eB4c : gL B 1 5664 = lN ca := by rw [he.sc10, eca]
  obtain ⟨B5, b1, b2, b3, b4, b5⟩ := potB (N := N) (r := r) (s := s) (y := y) (st := st) (p := p) (U := U) (M := B4) (x := nI cn) hN c3 c2 hF hFB (fun q hq => by rw [hB4, gLn (by omega), he.k3 hq]; exact (est q hq).1) (by rw [hB4, gLn (by omega)]; exact he.cy hs) hpnb (fun q hq => (est q hq).2) hST hpp hU
  rw [← hd, ← hD] at b1
  rw [← hd] at b5
  -- the two, but for CARRY
  obtain ⟨A5, hA5⟩ : ∃ A5, A5 = sL A2 1 10 (gL A 1 10) := ⟨_, rfl⟩
  have hAg : Ag m r s A5 A4 := by
    refine ⟨fun c j q => ?_, fun c j q => ?_, fun c j q => ?_⟩
    · rw [hA5, gIsL, a2, gA4]
    · rw [hA5, gIsL, a2, gA4]
    · by_cases e1 : c = 1 ∧ j = 10
      · obtain ⟨rfl, rfl⟩ := e1
        rw [hA5, gLe, hA4, gLn (by omega)]
      · by_cases e2 : c = 1 ∧ j = 12
        · obtain ⟨rfl, rfl⟩ := e2
          rw [hA5, gLn (by omega), a5, hA4, gLe]
        · rw [hA5, gLn e1, a3 c j (by omega) (by unfold vL at q; omega), hA4, gLn e2]
  have h5 : BR k K m r s y A5 B5 := h4.same hAg (fun q _ => by rw [b2]) (fun c j hcj => by
      have q := h4.1.2.2.1 c j hcj
      rw [hA5, gIsL, gLn (by omega), a2, a3 c j (by omega) (by omega)]
      rw [hA4, gIsL, gLn (by omega)] at q
      exact q) (by rw [b3]; exact h4.1.2.2.2.1) (by rw [b4]; exact h4.1.2.2.2.2)
  have hsB : sumZ (heI B5) s = sumZ (heI B) s := sumZ_congr (fun i hi => heI_of (fun j hj => by rw [b2, hB4, gLn (by omega)]))
  have epd : (lN (pn - D)).toInt = ((pn - D : Nat) : Int) := pk_lT (by omega)
  have hC := BR_CM (b := 100000000 * ((y : Int) + 1) - ((D - sN d 0 : Nat) : Int)) h5 (v := lN (pn - D)) (by omega) (by rw [hsB, epd, sN]; omega) (Y := fun i => if i < 0 then y + 1 else y) (P := fun i => 0 ≤ i ∧ prv m A i) (fun i hi => ⟨if_neg (by omega), fun q => by
      have q2 := q.2
      unfold prv at q2 ⊢
      rw [hA5]
      show ∃ j, j < m ∧ (gI A2 (37 + i) 1 = nI j ∨ gI A2 (37 + i) 2 = nI j) ∧ gI A2 (7 + j) 4 ≠ 0
      rw [a2]
      exact q2⟩)
  have hXe : sL A5 1 10 (lN (pn - D)) = sL A2 1 10 (lN (pn - D)) := by rw [hA5, sLL]
  rw [hXe] at hC
  obtain ⟨w, X', B', q1, q2, q3, q4⟩ := draw_loop (N := N) (x := nI cn) (A0 := A) (p := p) (U := U) (D := D) hc hs hF hlv hli hUb hTb hd hD (by omega) hy N 0 0 (sL A2 1 10 (lN (pn - D))) (sL B5 1 5664 (lN (pn - D))) hC (fun c z _ => by rw [gIsL, a2]) (fun i _ _ z => by rw [gIsL, a2]) (fun q hq => by rw [gLn (by omega), gLn (by omega)]; exact a6 q hq) (fun i hi => by rw [gLn (by omega), gIsL]; exact b5 i hi) (by omega) (by omega)
  have eA2 : sL (sL A2 1 10 (lN (pn - D))) 1 10 (gL (sL A2 1 10 (lN (pn - D))) 1 10 + lN (D - sN d 0)) = A2 := by
    rw [gLe, sLL, lN_add, show pn - D + (D - sN d 0) = pn by rw [sN]; omega, ← a4, sL_same]
  rw [eA2] at q1
  have q1' : F_X0_drawAll N A2 = some (w, X') := q1
  have q2' : F_X6_close_448 N (nI cn) N (nI s) (nI y) (0 : Int64) (0 : Int32) (sL B5 1 5664 (lN (pn - D))) = bnd (sL B' 1 5663 (gL B' 1 5663 + (1 : Int64))) (fun M54 => F_X6_close_632 N (nI cn) N (nI s) w (0 : Int32) M54) := q2
  -- the year is one more
  have hM := q3.year hy
  obtain ⟨A7, B7, y1, y2, y3, y4, y5⟩ := year_loop (N := N) (x := nI cn) (w := w) N 0 (sI X' 1 7 (nI (y + 1))) (sL B' 1 5663 (lN (y + 1))) hM (by omega) (by omega)
  have y1' : F_X0_beginNextYear N X' = some A7 := by
    rw [F_X0_beginNextYear, q3.2.1.2.2.2.1, nI_1, bnd_e]
    exact y1
  have eyB : gL B' 1 5663 = lN y := q3.1.cy q3.2.1
  have y2' : F_X6_close_632 N (nI cn) N (nI s) w (0 : Int32) (sL B' 1 5663 (lN (y + 1))) = F_X6_close_668 N (nI cn) N (nI s) w (0 : Int32) B7 := y2
  obtain ⟨A8, B8, z1, z2, z3, z4⟩ := gb_loop (N := N) (x := nI cn) (w := w) hN N 0 A7 B7 y3 (by omega) (by omega)
  have z1' : F_X0_giveBack N A7 = some A8 := z1
  have z2' : F_X6_close_668 N (nI cn) N (nI s) w (0 : Int32) B7 = some (w, B8) := z2
  refine ⟨w, A8, B8, ?_, ?_, BR_MS.mpr (z3.mono ?_)⟩
  · rw [a1, bn1_e, q1', bn2_e, y1', bn1_e, z1', bn1_e]
  · rw [eB4c, lN_add, ← hpn, eB5, ← hB4, b1, q2', bnd_e, eyB, lN_1, y2', z2']
  · rintro i hi ⟨j, j1, j2, j3⟩
    rw [z4 j j1, y4 j (by omega) j1] at j3
    exact j3 rfl
theorem sim_close {N : Nat} (hN : 6000 ≤ N) : Sim_close N Rel := by
  intro k n A B hk hR x1
  have hR2 := hR.up
  obtain ⟨hn, K, m, r, s, y, hB, hK1, hK2⟩ := hR
  have hB0 := hB
  obtain ⟨he, hs, ht, hm, hkk, hh, hp, hf, hb⟩ := hB
  have c2 : r ≤ 6 := he.1.2.1
  have c3 : s ≤ 40 := he.1.2.2
  have hy : y ≤ 60 := hs.2.2.2.2.1
  rw [F_X5_close, F_X6_close, in_w (x := x1) (a := 0) (b := 100000000) (a' := 0) (b' := 100000000) rfl rfl, hs.2.2.2.1, he.cy hs]
  have e60 : (nI y < (60 : Int32)) = (y < 60) := nIlt (b := 60) (by omega) (by omega)
  have e60' : (lN y = (60 : Int64)) = (y = 60) := lNe (b := 60) (by omega) (by omega)
  simp only [e60, e60']
  cases hx : F_X5_isWithin x1 0 100000000 with
  | false => exact ⟨_, A, B, rfl, rfl, hR2⟩
  | true =>
    rw [bIt, bIt]
    by_cases h60 : y < 60
    · have g := wi_toInt.mp hx
      rw [show (0 : Int32).toInt = 0 from rfl, show (100000000 : Int32).toInt = 100000000 from rfl] at g
      obtain ⟨cn, hcn, rfl⟩ := ib_of (x := x1) (n := 100000001) (ibm.mpr (by omega)) (by omega)
      rw [if_pos h60, if_neg (show ¬ y = 60 by omega), nI_l (by omega), bnd_e, bnd_e, bnd_e, bnd_e, gLn (by omega), gLn (by omega), he.cr hs, he.cs hs, lNi, lNi]
      obtain ⟨w, A', B', q1, q2, q3⟩ := close_core hN hB0 h60 (cn := cn) (by omega)
      exact ⟨w, A', B', q1, q2, hn, K, m, r, s, y + 1, q3.up, hK1, fun z => ⟨(hK2 z).1, (hK2 z).2.up⟩⟩
    · rw [if_neg h60, if_pos (show y = 60 by omega)]
      exact ⟨_, A, B, rfl, rfl, hR2⟩
end

/-! ===== the pot is parted: the reference ===== -/
section StandsG
variable {N : Nat} {M B : MM}
theorem hasL_g (h : gL M 1 = gL B 1) {a c : Int32} : F_X6_hasLife N a c M = F_X6_hasLife N a c B := by simp only [F_X6_hasLife, h]
theorem dead_g (h : gL M 1 = gL B 1) {a : Int64} : F_X6_isDead N a M = F_X6_isDead N a B := by simp only [F_X6_isDead, h]
theorem allD_g (h : gL M 1 = gL B 1) {a : Int32} : F_X6_areDead N a M = F_X6_areDead N a B := by simp only [F_X6_areDead, dead_g h, h]
theorem sure_g (h : gL M 1 = gL B 1) {a : Int32} {z : Int64} : F_X6_isSure N a z M = F_X6_isSure N a z B := by simp only [F_X6_isSure, h]
theorem stands_g4 (h : gL M 1 = gL B 1) {a : Int32} : ∀ (fu : Nat) (v w : Int32), F_X6_stands_4 N a fu v w M = F_X6_stands_4 N a fu v w B := by
  intro fu
  induction fu with
  | zero => intro v w; rw [F_X6_stands_4, F_X6_stands_4]
  | succ fu ih =>
    intro v w
    rw [F_X6_stands_4, F_X6_stands_4]
    simp only [h, hasL_g h, allD_g h, sure_g h, ih]
theorem stands_g (h : gL M 1 = gL B 1) {a : Int32} : F_X6_stands N a M = F_X6_stands N a B := by
  rw [F_X6_stands, F_X6_stands]
  exact stands_g4 h _ _ _
end StandsG
section PotB
variable {r s N : Nat} {B : MM} {hw : Nat → Int32} {ra u : Nat → Nat} {x : Int32}
theorem c84 {st : Nat → Nat} (hr : r ≤ 6) {P : Int64} : ∀ (fu j : Nat) (M : MM), (∀ k, k < r → gL M 1 (279 + 4 * k + 3) = lN (st k)) → j ≤ r → r < j + fu → ∃ M1, F_X6_close_84 N x fu P (nI r) (nI s) (lN (sN st j)) (nI j) M = F_X6_close_132 N x N P (nI r) (nI s) (lN (sN st r)) (0 : Int32) M1 ∧ (∀ c, c ≠ 3 → c ≠ 4 → gL M1 c = gL M c) ∧ gI M1 = gI M ∧ (∀ q, j ≤ q → q < r → gL M1 3 q = 0 ∧ gL M1 4 q = 0) ∧ (∀ q, q < j → gL M1 3 q = gL M 3 q ∧ gL M1 4 q = gL M 4 q) := by
  intro fu
  induction fu with
  | zero => intro j M g1 h1 h2; omega
  | succ fu ih =>
    intro j M g1 h1 h2
    rw [F_X6_close_84]
    simp (disch := omega) only [nIl]
    by_cases hj : r ≤ j
    · have : j = r := by omega
      subst this
      rw [if_pos hj]
      exact ⟨M, rfl, fun _ _ _ => rfl, rfl, fun q h3 h4 => by omega, fun q _ => ⟨rfl, rfl⟩⟩
    · rw [if_neg hj, groupCell_3, gd_ib (by omega) (by omega), ixn (by omega), g1 j (by omega), bnd_e, lN_add, gd_ib (by omega) (by omega), bnd_e, gd_ib (by omega) (by omega), bnd_e, ixn (by omega), nI_1]
      obtain ⟨M1, q1, q2, q3, q4, q5⟩ := ih (j + 1) (sL (sL M 4 j 0) 3 j 0) (fun k hk => by rw [gLn (by omega), gLn (by omega)]; exact g1 k hk) (by omega) (by omega)
      refine ⟨M1, q1, fun c h3 h4 => by rw [q2 c h3 h4, gL_ne h3, gL_ne h4], q3, fun q h3 h4 => ?_, fun q h3 => ?_⟩
      · by_cases e : q = j
        · subst e
          rw [(q5 q (by omega)).1, (q5 q (by omega)).2, gLe, gLn (by omega), gLe]
          exact ⟨rfl, rfl⟩
        · exact q4 q (by omega) h4
      · rw [(q5 q (by omega)).1, (q5 q (by omega)).2, gLn (by omega), gLn (by omega), gLn (by omega), gLn (by omega)]
        exact ⟨rfl, rfl⟩
theorem c132 (hs : s ≤ 40) (hr : r ≤ 6) {A : MM} (hF : FA N r s hw ra u A) (hFB : FB N s hw ra u B) {P S : Int64} : ∀ (fu j : Nat) (M : MM), gL M 1 = gL B 1 → (∀ q, q < r → gL M 4 q = lN (untN (qd hw) ra u q j)) → j ≤ s → s < j + fu → ∃ M1, F_X6_close_132 N x fu P (nI r) (nI s) S (nI j) M = F_X6_close_206 N x N P (nI r) (nI s) S P (0 : Int32) M1 ∧ (∀ c, c ≠ 4 → gL M1 c = gL M c) ∧ gI M1 0 = gI M 0 ∧ (∀ i, j ≤ i → i < s → gI M1 6 i = hw i) ∧ (∀ i, i < j → gI M1 6 i = gI M 6 i) ∧ (∀ q, q < r → gL M1 4 q = lN (untN (qd hw) ra u q s)) := by
  intro fu
  induction fu with
  | zero => intro j M g1 g2 h1 h2; omega
  | succ fu ih =>
    intro j M g1 g2 h1 h2
    rw [F_X6_close_132]
    simp (disch := omega) only [nIl]
    by_cases hj : s ≤ j
    · have : j = s := by omega
      subst this
      rw [if_pos hj]
      exact ⟨M, rfl, fun _ _ => rfl, rfl, fun i h3 h4 => by omega, fun i _ => rfl, g2⟩
    · have hj2 : j < s := by omega
      obtain ⟨v1, v2, v3, v4, v5, v6, v7⟩ := hF j hj2
      obtain ⟨w1, w2, w3⟩ := hFB j hj2
      rw [← g1] at w1 w2
      rw [if_neg hj, stands_g g1, w3, bn1_e, gd_ib (by omega) (by omega), ixn (by omega), bnd_e, gIe, nI_1]
      have e1 : ∀ q, untN (qd hw) ra u q (j + 1) = untN (qd hw) ra u q j + (if qd hw j = true ∧ ra j = q then u j else 0) := fun q => rfl
      by_cases h2' : (2 : Int32) ≤ hw j
      · have hq : qd hw j = false := by unfold qd; rw [decide_eq_true h2']; rfl
        rw [if_pos h2']
        obtain ⟨M1, q1, q2, q3, q4, q5, q6⟩ := ih (j + 1) (sI M 6 j (hw j)) g1 (fun q hq2 => by
          rw [e1, if_neg (by rw [hq]; intro z; cases z.1), Nat.add_zero]
          exact g2 q hq2) (by omega) (by omega)
        refine ⟨M1, q1, q2, by rw [q3, gI_ne (by decide)], fun i h3 h4 => ?_, fun i h3 => by rw [q5 i (by omega), gIn (by omega)], q6⟩
        by_cases e : i = j
        · subst e
          rw [q5 i (by omega), gIe]
        · exact q4 i (by omega) h4
      · have hq : qd hw j = true := by unfold qd; rw [decide_eq_false h2']; rfl
        rw [if_neg h2']
        simp (disch := omega) only [part_3, part_4, gd_ib, ixn, gLsI, w1, w2, lNi, bnd_e]
        rw [g2 _ v5, lN_add]
        obtain ⟨M1, q1, q2, q3, q4, q5, q6⟩ := ih (j + 1) (sL (sI M 6 j (hw j)) 4 (ra j) (lN (untN (qd hw) ra u (ra j) j + u j))) (by rw [gL_ne (by decide)]; exact g1) (fun q hq2 => by
          rw [e1]
          by_cases e : ra j = q
          · subst e
            rw [if_pos ⟨hq, rfl⟩, gLe]
          · rw [if_neg (fun z => e z.2), Nat.add_zero, gLn (by omega)]
            exact g2 q hq2) (by omega) (by omega)
        refine ⟨M1, q1, fun c hc => by rw [q2 c hc, gL_ne hc]; rfl, by rw [q3]; show gI (sI M 6 j (hw j)) 0 = gI M 0; rw [gI_ne (by decide)], fun i h3 h4 => ?_, fun i h3 => by rw [q5 i (by omega), gIsL, gIn (by omega)], q6⟩
        by_cases e : i = j
        · subst e
          rw [q5 i (by omega), gIsL, gIe]
        · exact q4 i (by omega) h4
theorem c242 {U : Nat → Nat} (hr : r ≤ 6) {M : MM} (g : ∀ q, q < r → gL M 4 q = lN (U q) ∧ U q ≤ 40000) {v2 v6 v8 v11 : Int64} {v5 v10 : Int32} : ∀ (fu j : Nat), j ≤ r → r < j + fu → ∃ q, F_X6_close_242 N x fu v2 (nI r) v5 v6 v8 v10 v11 (nI j) M = some (nI q) ∧ j ≤ q ∧ q ≤ r ∧ (∀ z, j ≤ z → z < q → U z = 0) ∧ (q < r → U q ≠ 0) := by
  intro fu
  induction fu with
  | zero => intro j h1 h2; omega
  | succ fu ih =>
    intro j h1 h2
    rw [F_X6_close_242]
    simp (disch := omega) only [nIl]
    by_cases hj : r ≤ j
    · rw [if_pos hj]
      exact ⟨j, rfl, Nat.le_refl _, h1, fun z h3 h4 => by omega, fun h3 => by omega⟩
    · obtain ⟨g1, g2⟩ := g j (by omega)
      rw [if_neg hj, gd_ib (by omega) (by omega), ixn (by omega), g1, nI_1]
      simp only [lN_e0 (show U j < 2 ^ 63 by omega)]
      by_cases h0 : U j = 0
      · rw [if_pos h0]
        obtain ⟨q, q1, q2, q3, q4, q5⟩ := ih (j + 1) (by omega) (by omega)
        refine ⟨q, q1, by omega, q3, fun z h3 h4 => ?_, q5⟩
        by_cases e : z = j
        · rw [e]; exact h0
        · exact q4 z (by omega) h4
      · rw [if_neg h0]
        exact ⟨j, rfl, Nat.le_refl _, h1, fun z h3 h4 => by omega, fun _ => h0⟩
set_option maxHeartbeats 4000000 in
theorem c206 {U p st : Nat → Nat} {pn ST : Nat} (hN : 6000 ≤ N) (hr : r ≤ 6) (hpn : pn ≤ 6200000000) (hst : ∀ k, k < r → st k ≤ 400000000) (hST : ST ≤ 2400000000) (hST0 : ST ≠ 0) (hp : p = fun k => pn * st k / ST) (hps : sN p r ≤ pn) : ∀ (fu j w : Nat) (M : MM) (X : Nat → Nat), (∀ k, k < r → gL M 1 (279 + 4 * k + 3) = lN (st k)) → (∀ q, q < r → gL M 4 q = lN (U q) ∧ U q ≤ 40000) → (∀ q, q < r → gL M 3 q = lN (X q)) → (∀ q, q < j → U q ≠ 0 → X q = tot U p q) → (∀ q, j ≤ q → q < r → U q ≠ 0 → (∀ z, j ≤ z → z < q → U z = 0) → X q = hnd U p j) → (∀ q z, j ≤ z → z < q → q < r → U z ≠ 0 → X q = 0) → w + sN X r = pn → sN X r ≤ sN p j → j ≤ r → r < j + fu → ∃ (M1 : MM) (X1 : Nat → Nat) (w1 : Nat), F_X6_close_206 N x fu (lN pn) (nI r) (nI s) (lN ST) (lN w) (nI j) M = F_X6_close_305 N x N (nI r) (nI s) (lN w1) (0 : Int32) M1 ∧ (∀ c, c ≠ 3 → gL M1 c = gL M c) ∧ gI M1 = gI M ∧ (∀ q, q < r → gL M1 3 q = lN (X1 q)) ∧ (∀ q, q < r → U q ≠ 0 → X1 q = tot U p q) ∧ w1 + sN X1 r = pn := by
  intro fu
  induction fu with
  | zero => intro j w M X g1 g2 g3 ga gb gd1 gw gs h1 h2; omega
  | succ fu ih =>
    intro j w M X g1 g2 g3 ga gb gd1 gw gs h1 h2
    rw [F_X6_close_206]
    simp (disch := omega) only [nIl, lN_le0 (show ST < 2 ^ 63 by omega)]
    by_cases hj : r ≤ j
    · have : j = r := by omega
      subst this
      rw [if_pos hj]
      exact ⟨M, X, w, rfl, fun _ _ => rfl, rfl, g3, ga, gw⟩
    · have hj2 : j < r := by omega
      have hmb : pn * st j < 2 ^ 63 := by
        have : pn * st j ≤ 6200000000 * 400000000 := Nat.mul_le_mul hpn (hst j hj2)
        omega
      have hpj : (lN pn * lN (st j)) / lN ST = lN (p j) := by
        rw [lN_mul, hp]
        exact pk_lDiv hmb (by omega) (by omega)
      have hsp := sN_mono (f := p) (a := j + 1) (n := r) (by omega)
      rw [sN] at hsp
      rw [if_neg hj, if_neg hST0, groupCell_3, gd_ib (by omega) (by omega), ixn (by omega), g1 j hj2, hpj, bnd_e]
      obtain ⟨q, q1, q2, q3, q4, q5⟩ := c242 (x := x) (N := N) hr g2 (v2 := lN pn) (v6 := lN ST) (v8 := lN w) (v11 := lN (p j)) (v5 := nI s) (v10 := nI j) N j (by omega) (by omega)
      rw [q1, bn1_e, nI_1]
      simp (disch := omega) only [nIe]
      by_cases hq : q = r
      · have hz : U j = 0 := q4 j (Nat.le_refl _) (by omega)
        rw [if_pos hq]
        refine ih (j + 1) w M X g1 g2 g3 (fun z h3 h4 => ?_) (fun z h3 h4 h5 h6 => ?_) (fun z z2 h3 h4 h5 h6 => ?_) gw (by rw [sN]; omega) (by omega) (by omega)
        · by_cases e : z = j
          · rw [e] at h4; exact absurd hz h4
          · exact ga z (by omega) h4
        · exact absurd (q4 z (by omega) (by omega)) h5
        · exact absurd (q4 z2 (by omega) (by omega)) h6
      · have hqr : q < r := by omega
        have hXq : X q = hnd U p j := gb q q2 hqr (q5 hqr) q4
        have hwp : p j ≤ w := by omega
        rw [if_neg hq, gd_ib (by omega) (by omega), ixn (by omega), g3 q hqr, lN_add, bnd_e, lN_sub hwp, bnd_e]
        obtain ⟨X2, hX2⟩ : ∃ X2 : Nat → Nat, X2 = fun z => if z = q then X q + p j else X z := ⟨_, rfl⟩
        have x1 : X2 q = X q + p j := by rw [hX2]; exact if_pos rfl
        have x2 : ∀ z, z ≠ q → X2 z = X z := fun z hz => by rw [hX2]; exact if_neg hz
        have hsu := sN_upd (f := X) (g := X2) (j := q) (n := r) hqr (fun i _ hi => x2 i hi)
        obtain ⟨M1, X1, w1, r1, r2, r3, r4, r5, r6⟩ := ih (j + 1) (w - p j) (sL M 3 q (lN (X q + p j))) X2 (fun k hk => by rw [gLn (by omega)]; exact g1 k hk) (fun z hz => by rw [gLn (by omega)]; exact g2 z hz) (fun z hz => by
          by_cases e : z = q
          · subst e; rw [gLe, x1]
          · rw [gLn (by omega), x2 z e]; exact g3 z hz) (fun z h3 h4 => by
          by_cases e : z = j
          · subst e
            have eqz : q = z := by
              by_cases e2 : q = z
              · exact e2
              · exact absurd (q4 z (Nat.le_refl _) (by omega)) h4
            subst eqz
            rw [x1, hXq]
            rfl
          · rw [x2 z (by omega)]; exact ga z (by omega) h4) (fun z h3 h4 h5 h6 => by
          by_cases hz : U j = 0
          · have ez : z = q := by
              by_cases e2 : z < q
              · exact absurd (q4 z (by omega) e2) h5
              · by_cases e3 : q < z
                · by_cases e4 : q = j
                  · rw [e4] at q5; exact absurd hz (q5 (by omega))
                  · exact absurd (h6 q (by omega) e3) (q5 hqr)
                · omega
            subst ez
            rw [x1, hXq, hnd, if_pos hz]
          · have eqj : q = j := by
              by_cases e2 : q = j
              · exact e2
              · exact absurd (q4 j (Nat.le_refl _) (by omega)) hz
            rw [x2 z (by omega), hnd, if_neg hz]
            exact gd1 z j (Nat.le_refl _) (by omega) h4 hz) (fun z z2 h3 h4 h5 h6 => by
          have e1 : ¬ z = q := fun e => by
            subst e
            exact absurd (q4 z2 (by omega) h4) h6
          rw [x2 z e1]
          exact gd1 z z2 (by omega) h4 h5 h6) (by omega) (by rw [sN]; omega) (by omega) (by omega)
        exact ⟨M1, X1, w1, r1, fun c hc => by rw [r2 c hc, gL_ne hc], r3, r4, r5, r6⟩
set_option maxHeartbeats 4000000 in
theorem c305 {U p : Nat → Nat} {w1 : Nat} (hs : s ≤ 40) (hr : r ≤ 6) {A : MM} (hF : FA N r s hw ra u A) (hU : U = fun k => untN (qd hw) ra u k s) (hT : ∀ k, k < r → tot U p k ≤ 6200000000) (hw1 : w1 ≤ 6200000000) : ∀ (fu j : Nat) (v : Int64) (M : MM), (∀ i, i < s → gL M 1 (303 + 14 * i + 3) = lN (u i) ∧ gL M 1 (303 + 14 * i + 4) = lN (ra i)) → (∀ q, q < r → gL M 4 q = lN (U q)) → (∀ q, q < r → U q ≠ 0 → gL M 3 q = lN (tot U p q)) → (∀ i, i < s → gI M 6 i = hw i) → v.toInt = (w1 : Int) - (sN (drw (qd hw) ra u (tot U p) U) j : Nat) → j ≤ s → s < j + fu → ∃ (M1 : MM) (v1 : Int64), F_X6_close_305 N x fu (nI r) (nI s) v (nI j) M = F_X6_close_396 N x N (nI r) (nI s) v1 (0 : Int32) M1 ∧ v1.toInt = (w1 : Int) - (sN (drw (qd hw) ra u (tot U p) U) s : Nat) ∧ (∀ c, c ≠ 5 → gL M1 c = gL M c) ∧ gI M1 = gI M ∧ (∀ i, j ≤ i → i < s → gL M1 5 i = lN (drw (qd hw) ra u (tot U p) U i)) ∧ (∀ i, i < j → gL M1 5 i = gL M 5 i) := by
  have hdb : ∀ i, i < s → drw (qd hw) ra u (tot U p) U i ≤ 6200000000000 := fun i hi => by
    obtain ⟨v1, v2, v3, v4, v5, v6, v7⟩ := hF i hi
    unfold drw
    split
    · have h1 : tot U p (ra i) * u i ≤ 6200000000 * 1000 := Nat.mul_le_mul (hT _ v5) v3
      have h2 := Nat.div_le_self (tot U p (ra i) * u i) (U (ra i))
      omega
    · omega
  intro fu
  induction fu with
  | zero => intro j v M g1 g2 g3 g4 gv h1 h2; omega
  | succ fu ih =>
    intro j v M g1 g2 g3 g4 gv h1 h2
    rw [F_X6_close_305]
    simp (disch := omega) only [nIl]
    by_cases hj : s ≤ j
    · have : j = s := by omega
      subst this
      rw [if_pos hj]
      exact ⟨M, v, rfl, gv, fun _ _ => rfl, rfl, fun i h3 h4 => by omega, fun i _ => rfl⟩
    · have hj2 : j < s := by omega
      obtain ⟨v1, v2, v3, v4, v5, v6, v7⟩ := hF j hj2
      obtain ⟨w3, w4⟩ := g1 j hj2
      have hb := hdb j hj2
      have hbs : sN (drw (qd hw) ra u (tot U p) U) j ≤ j * 6200000000000 := sN_bd (fun i hi => hdb i (by omega))
      rw [if_neg hj]
      simp (disch := omega) only [part_3, part_4, gd_ib, ixn, w3, w4, lNi, bnd_e, g4 j hj2, nI_1]
      have key : ∀ (d : Nat), d = drw (qd hw) ra u (tot U p) U j → ∃ (M1 : MM) (v1 : Int64), F_X6_close_305 N x fu (nI r) (nI s) (v - gL (sL M 5 j (lN d)) 5 j) (nI (j + 1)) (sL M 5 j (lN d)) = F_X6_close_396 N x N (nI r) (nI s) v1 (0 : Int32) M1 ∧ v1.toInt = (w1 : Int) - (sN (drw (qd hw) ra u (tot U p) U) s : Nat) ∧ (∀ c, c ≠ 5 → gL M1 c = gL M c) ∧ gI M1 = gI M ∧ (∀ i, j ≤ i → i < s → gL M1 5 i = lN (drw (qd hw) ra u (tot U p) U i)) ∧ (∀ i, i < j → gL M1 5 i = gL M 5 i) := by
        intro d hd
        rw [gLe]
        obtain ⟨M1, v1, q1, q2, q3, q4, q5, q6⟩ := ih (j + 1) (v - lN d) (sL M 5 j (lN d)) (fun i hi => by rw [gLn (by omega), gLn (by omega)]; exact g1 i hi) (fun q hq => by rw [gLn (by omega)]; exact g2 q hq) (fun q hq hu => by rw [gLn (by omega)]; exact g3 q hq hu) g4 (by
          rw [fb_subL, gv, pk_lT (by omega), sN, hd]
          · omega
          · rw [gv, pk_lT (by omega)]; omega
          · rw [gv, pk_lT (by omega)]; omega) (by omega) (by omega)
        refine ⟨M1, v1, q1, q2, fun c hc => by rw [q3 c hc, gL_ne hc], q4, fun i h3 h4 => ?_, fun i h3 => by rw [q6 i (by omega), gLn (by omega)]⟩
        by_cases e : i = j
        · subst e
          rw [q6 i (by omega), gLe, hd]
        · exact q5 i (by omega) h4
      by_cases h2' : (2 : Int32) ≤ hw j
      · have hq : qd hw j = false := by unfold qd; rw [decide_eq_true h2']; rfl
        rw [if_pos h2']
        exact key 0 (by unfold drw; rw [hq]; rfl)
      · have hq : qd hw j = true := by unfold qd; rw [decide_eq_false h2']; rfl
        have hUp : U (ra j) ≠ 0 := by
          rw [hU]
          show untN (qd hw) ra u (ra j) s ≠ 0
          have := sN_part (f := fun i => if qd hw i = true ∧ ra i = ra j then u i else 0) (j := j) (n := s) hj2
          have e : (if qd hw j = true ∧ ra j = ra j then u j else 0) = u j := if_pos ⟨hq, rfl⟩
          unfold untN
          omega
        have hUb : U (ra j) ≤ 40000 := by rw [hU]; exact unt_bd hF (Nat.le_refl _) hs
        have hz : nz (lN (U (ra j))) = true := by
          have h0 : ¬ lN (U (ra j)) = 0 := by
            rw [lN_e0 (by omega)]
            exact hUp
          simp [nz, h0]
        have hm : tot U p (ra j) * u j ≤ 6200000000 * 1000 := Nat.mul_le_mul (hT _ v5) v3
        rw [if_neg h2', g2 _ v5, g3 _ v5 hUp, gd_t hz, lN_mul, pk_lDiv (by omega) (by omega) (by omega)]
        exact key _ (by unfold drw; rw [if_pos hq])
theorem c396 {y : Nat} {X : Nat → Nat} (hr : r ≤ 6) (hX : ∀ q, q < r → X q ≤ 6200000000) {z : Int} (hz : -1000000000000000 ≤ z ∧ z ≤ 1000000000000000) {M : MM} (g : ∀ q, q < r → gL M 3 q = lN (X q)) (hy : gL M 1 5663 = lN y) : ∀ (fu j : Nat) (v : Int64), v.toInt = z + (sN X j : Nat) → j ≤ r → r < j + fu → ∃ v1 : Int64, F_X6_close_396 N x fu (nI r) (nI s) v (nI j) M = F_X6_close_448 N x N (nI s) (nI y) (0 : Int64) (0 : Int32) (sL M 1 5664 v1) ∧ v1.toInt = z + (sN X r : Nat) := by
  intro fu
  induction fu with
  | zero => intro j v gv h1 h2; omega
  | succ fu ih =>
    intro j v gv h1 h2
    rw [F_X6_close_396]
    simp (disch := omega) only [nIl]
    by_cases hj : r ≤ j
    · have : j = r := by omega
      subst this
      rw [if_pos hj, bnd_e, gLn (by omega), hy, lNi, bnd_e]
      exact ⟨v, rfl, gv⟩
    · have hb := hX j (by omega)
      have hbs : sN X j ≤ j * 6200000000 := sN_bd (fun i hi => hX i (by omega))
      rw [if_neg hj, gd_ib (by omega) (by omega), ixn (by omega), g j (by omega), bnd_e, nI_1]
      refine ih (j + 1) (v + lN (X j)) ?_ (by omega) (by omega)
      rw [fb_addL, gv, pk_lT (by omega), sN]
      · omega
      · rw [gv, pk_lT (by omega)]; omega
      · rw [gv, pk_lT (by omega)]; omega
end PotB

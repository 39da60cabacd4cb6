/-! ===== the first half of close, the reference ===== -/
theorem p_sum {pn ST r : Nat} {st p : Nat → Nat} (hp : p = fun k => pn * st k / ST) (hSe : ST = sN st r) : sN p r ≤ pn := by
  rw [hp]
  exact cut_le (by rw [hSe]; exact Nat.le_refl _)
theorem D_le {N r s pn : Nat} {A : MM} {hw : Nat → Int32} {ra u p U : Nat → Nat} (hF : FA N r s hw ra u A) (hU : U = fun k => untN (qd hw) ra u k s) (hps : sN p r ≤ pn) : sN (drw (qd hw) ra u (tot U p) U) s ≤ pn := by
  have h1 := drw_sum (q := qd hw) (ra := ra) (u := u) (T := tot U p) (U := U) (r := r) (s := s) (fun i hi => (hF i hi).2.2.2.2.1) (fun k _ => by rw [hU]; exact Nat.le_refl _)
  have h2 := tot_sum (U := U) (p := p) (n := r)
  omega
theorem hnd_z {U p : Nat → Nat} (h : ∀ k, p k = 0) : ∀ k, hnd U p k = 0
  | 0 => rfl
  | k + 1 => by
    rw [hnd, hnd_z h k, h k]
    split <;> rfl
set_option maxHeartbeats 4000000 in
theorem potB {N r s y pn ST : Nat} {A M : MM} {hw : Nat → Int32} {ra u st p U : Nat → Nat} {x : Int32} (hN : 6000 ≤ N) (hs : s ≤ 40) (hr : r ≤ 6) (hF : FA N r s hw ra u A) (hFB : FB N s hw ra u M) (hM3 : ∀ k, k < r → gL M 1 (279 + 4 * k + 3) = lN (st k)) (hy : gL M 1 5663 = lN y) (hpn : pn ≤ 6200000000) (hst : ∀ k, k < r → st k ≤ 400000000) (hSe : ST = sN st r) (hp : p = fun k => pn * st k / ST) (hU : U = fun k => untN (qd hw) ra u k s) : ∃ B5, F_X6_close_84 N x N (lN pn) (nI r) (nI s) (0 : Int64) (0 : Int32) M = F_X6_close_448 N x N (nI s) (nI y) (0 : Int64) (0 : Int32) (sL B5 1 5664 (lN (pn - sN (drw (qd hw) ra u (tot U p) U) s))) ∧ gL B5 1 = gL M 1 ∧ gL B5 2 = gL M 2 ∧ gI B5 0 = gI M 0 ∧ (∀ i, i < s → gL B5 5 i = lN (drw (qd hw) ra u (tot U p) U i) ∧ gI B5 6 i = hw i) := by
  have hSTb : ST ≤ 2400000000 := by
    have : sN st r ≤ r * 400000000 := sN_bd hst
    omega
  have hps := p_sum hp hSe
  have hD := D_le hF hU hps
  have hT : ∀ k, k < r → tot U p k ≤ 6200000000 := fun k hk => by
    have := tot_le (U := U) (p := p) hk
    omega
  have hUb : ∀ q, U q ≤ 40000 := fun q => by rw [hU]; exact unt_bd hF (Nat.le_refl _) hs
  obtain ⟨M1, a1, a2, a3, a4, a5⟩ := c84 (N := N) (x := x) (s := s) (r := r) (st := st) hr (P := lN pn) N 0 M hM3 (by omega) (by omega)
  have a1' : F_X6_close_84 N x N (lN pn) (nI r) (nI s) (0 : Int64) (0 : Int32) M = F_X6_close_132 N x N (lN pn) (nI r) (nI s) (lN (sN st r)) (0 : Int32) M1 := a1
  obtain ⟨M2, b1, b2, b3, b4, b5, b6⟩ := c132 (N := N) (x := x) (B := M) hs hr hF hFB (P := lN pn) (S := lN (sN st r)) N 0 M1 (a2 1 (by decide) (by decide)) (fun q hq => by rw [(a4 q (by omega) hq).2]; rfl) (by omega) (by omega)
  have b1' : F_X6_close_132 N x N (lN pn) (nI r) (nI s) (lN (sN st r)) (0 : Int32) M1 = F_X6_close_206 N x N (lN pn) (nI r) (nI s) (lN (sN st r)) (lN pn) (0 : Int32) M2 := b1
  have m21 : gL M2 1 = gL M 1 := by rw [b2 1 (by decide), a2 1 (by decide) (by decide)]
  have m23 : ∀ q, q < r → gL M2 3 q = 0 := fun q hq => by rw [b2 3 (by decide), (a4 q (by omega) hq).1]
  have m24 : ∀ q, q < r → gL M2 4 q = lN (U q) ∧ U q ≤ 40000 := fun q hq => ⟨by rw [b6 q hq, hU], hUb q⟩
  have h206 : ∃ (M3 : MM) (X1 : Nat → Nat) (w1 : Nat), F_X6_close_206 N x N (lN pn) (nI r) (nI s) (lN ST) (lN pn) (0 : Int32) M2 = F_X6_close_305 N x N (nI r) (nI s) (lN w1) (0 : Int32) M3 ∧ (∀ c, c ≠ 3 → gL M3 c = gL M2 c) ∧ gI M3 = gI M2 ∧ (∀ q, q < r → gL M3 3 q = lN (X1 q)) ∧ (∀ q, q < r → U q ≠ 0 → X1 q = tot U p q) ∧ w1 + sN X1 r = pn := by
    by_cases h0 : ST = 0
    · refine ⟨M2, fun _ => 0, pn, ?_, fun _ _ => rfl, rfl, fun q hq => by rw [m23 q hq]; rfl, fun q hq _ => ?_, by rw [sN_z]; omega⟩
      · obtain ⟨N', hN'⟩ : ∃ N', N = N' + 1 := ⟨N - 1, by omega⟩
        have e : ∀ fu, F_X6_close_206 N x (fu + 1) (lN pn) (nI r) (nI s) (lN ST) (lN pn) (0 : Int32) M2 = F_X6_close_305 N x N (nI r) (nI s) (lN pn) (0 : Int32) M2 := fun fu => by
          rw [F_X6_close_206]
          simp only [lN_le0 (show ST < 2 ^ 63 by omega)]
          rw [if_pos h0]
          split <;> rfl
        have e' := e N'
        rw [← hN'] at e'
        exact e'
      · have hz : ∀ k, p k = 0 := fun k => by rw [hp, h0]; exact Nat.div_zero _
        unfold tot
        rw [hnd_z hz, hz]
    · exact c206 (N := N) (x := x) (s := s) (U := U) hN hr hpn hst hSTb h0 hp hps N 0 pn M2 (fun _ => 0) (fun k hk => by rw [m21]; exact hM3 k hk) m24 (fun q hq => by rw [m23 q hq]; rfl) (fun q hq => by omega) (fun q _ _ _ _ => rfl) (fun q z _ _ _ _ => rfl) (by rw [sN_z]; omega) (by rw [sN_z]; exact Nat.zero_le _) (by omega) (by omega)
  obtain ⟨M3, X1, w1, d1, d2, d3, d4, d5, d6⟩ := h206
  rw [← hSe] at a1' b1'
  have m31 : gL M3 1 = gL M 1 := by rw [d2 1 (by decide), m21]
  have hXb : ∀ q, q < r → X1 q ≤ 6200000000 := fun q hq => by
    have := sN_part (f := X1) (j := q) (n := r) hq
    omega
  obtain ⟨M4, v4, e1, e2, e3, e4, e5, e6⟩ := c305 (N := N) (x := x) (U := U) (p := p) (w1 := w1) hs hr hF hU hT (by omega) N 0 (lN w1) M3 (fun i hi => by rw [m31]; exact ⟨(hFB i hi).1, (hFB i hi).2.1⟩) (fun q hq => by rw [d2 4 (by decide)]; exact (m24 q hq).1) (fun q hq hu => by rw [d4 q hq, d5 q hq hu]) (fun i hi => by rw [d3]; exact b4 i (by omega) hi) (by rw [pk_lT (by omega), sN]; omega) (by omega) (by omega)
  have e1' : F_X6_close_305 N x N (nI r) (nI s) (lN w1) (0 : Int32) M3 = F_X6_close_396 N x N (nI r) (nI s) v4 (0 : Int32) M4 := e1
  have m41 : gL M4 1 = gL M 1 := by rw [e3 1 (by decide), m31]
  obtain ⟨v5, f1, f2⟩ := c396 (N := N) (x := x) (s := s) (y := y) (X := X1) hr hXb (z := (w1 : Int) - (sN (drw (qd hw) ra u (tot U p) U) s : Nat)) (by omega) (M := M4) (fun q hq => by rw [e3 3 (by decide)]; exact d4 q hq) (by rw [m41]; exact hy) N 0 v4 (by rw [e2, sN]; omega) (by omega) (by omega)
  have f1' : F_X6_close_396 N x N (nI r) (nI s) v4 (0 : Int32) M4 = F_X6_close_448 N x N (nI s) (nI y) (0 : Int64) (0 : Int32) (sL M4 1 5664 v5) := f1
  have hv5 : v5 = lN (pn - sN (drw (qd hw) ra u (tot U p) U) s) := i64 (by rw [f2, pk_lT (by omega)]; omega)
  refine ⟨M4, ?_, m41, ?_, ?_, fun i hi => ⟨e5 i (by omega) hi, ?_⟩⟩
  · rw [a1', b1', d1, e1', f1', hv5]
  · rw [e3 2 (by decide), d2 2 (by decide), b2 2 (by decide), a2 2 (by decide) (by decide)]
  · rw [e4, d3, b3, a3]
  · rw [e4, d3]
    exact b4 i (by omega) hi

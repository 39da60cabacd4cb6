/-! ===== close ===== -/
theorem BR_CM {k : Nat} {b : Int} {K : KT} {m r s y : Nat} {A B : MM} (h : BR k K m r s y A B) {v : Int64} (h0 : 0 ≤ v.toInt) (h1 : v.toInt + sumZ (heI B) s ≤ b) {Y : Nat → Nat} {P : Nat → Prop} (hY : ∀ i, i < s → Y i = y ∧ (P i → prv m A i)) : CM b (k * 20000000000000) K m r s y Y P (sL A 1 10 v) (sL B 1 5664 v) := by
  obtain ⟨he, hs, ht, hm, hkk, hh, hp, hf, hb⟩ := BR_MS.mp h
  have c1 : m ≤ 24 := he.1.1
  have c2 : r ≤ 6 := he.1.2.1
  have c3 : s ≤ 40 := he.1.2.2
  refine ⟨he.L v_sc10 rfl v rfl, hs.fL, ht.fL, hm.fL, hkk.fL c2 (by omega), fun q hq => ?_, fun q hq => ((hp q hq).fL (by omega)).fB (by omega), ?_, hb.fL c1 (by omega)⟩
  · rw [(hY q hq).1]
    exact (((hh q hq).mono (hY q hq).2).fL (by omega)).fB (by omega) (by omega) (by omega)
  · rw [sumZ_congr (f := heI (sL B 1 5664 v)) (g := heI B) (fun i hi => heI_fB (by omega) (by omega)), gLe]
    exact ⟨h0, h1⟩
theorem BR.came {k : Nat} {K : KT} {m r s y : Nat} {A B : MM} (h : BR k K m r s y A B) (v : Int64) : BR k K m r s y (sL A 1 12 v) (sL B 1 5671 v) := by
  obtain ⟨he, hs, ht, hm, hkk, hh, hp, hf, hb⟩ := h
  have c1 : m ≤ 24 := he.1.1
  have c2 : r ≤ 6 := he.1.2.1
  have c3 : s ≤ 40 := he.1.2.2
  exact ⟨he.L v_sc12 rfl v rfl, hs.fL, ht.fL, hm.fL, hkk.fL c2 (by omega), fun q hq => ((hh q hq).fL (by omega)).fB (by omega) (by omega) (by omega), fun q hq => ((hp q hq).fL (by omega)).fB (by omega), (hf.fL (by omega)).fB c3 (by omega), hb.fL c1 (by omega)⟩
/-- all that both sides part, of a book -/
theorem facts {N k : Nat} (hN : 6000 ≤ N) {K : KT} {m r s y : Nat} {A B : MM} (h : BR k K m r s y A B) : ∃ (hw : Nat → Int32) (ra u : Nat → Nat), FA N r s hw ra u A ∧ FB N s hw ra u B ∧ (∀ i, i < s → (hw i = 0 ↔ (prv m A i ∨ y < ix (gI A (37 + i) 9)))) ∧ (∀ i, i < s → R_o m A i ∧ ∃ li, gI A (37 + i) 1 = nI li ∧ li < m) := by
  obtain ⟨he, hs, ht, hm, hkk, hh, hp, hf, hb⟩ := h
  have c2 : r ≤ 6 := he.1.2.1
  have hy : y ≤ 60 := hs.2.2.2.2.1
  have all : ∀ i, i < s → ∃ (h : Int32) (li ra u su : Nat), gI A (37 + i) 3 = nI u ∧ 1 ≤ u ∧ u ≤ 1000 ∧ gI A (37 + i) 4 = nI ra ∧ ra < r ∧ gI A (37 + i) 9 = nI su ∧ su ≤ 90 ∧ F_X0_howItIs N (37 + i) A = some h ∧ F_X6_stands N (nI i) B = some h ∧ (h = 0 ↔ (prv m A i ∨ y < su)) ∧ (h = 0 ∨ h = 1 ∨ h = 2 ∨ h = 3) ∧ gI A (37 + i) 1 = nI li ∧ li < m ∧ R_o m A i := by
    intro i hi
    obtain ⟨g0, ho, li, ra, u, kn, si, su, un, hf2, g1, g2, -⟩ := hh i hi
    have g10 := g1
    obtain ⟨v0, v1, v4, v3, v5, v8, v9, v10, v14, r0, r1, r4, r3, r3', r5, r8, r9, r9', r95, r10, r14⟩ := g1
    obtain ⟨h, q1, q2, q3, q4⟩ := stands_sim (N := N) hN he hs hi g10 g0 (by omega) r8 g2
    exact ⟨h, li, ra, u, su, v3, r3, r3', v4, r4, v9, r9', q1, q2, q3, q4, v1, r1, g0⟩
  refine ⟨fun i => (F_X6_stands N (nI i) B).getD 0, fun i => ix (gI A (37 + i) 4), fun i => ix (gI A (37 + i) 3), fun i hi => ?_, fun i hi => ?_, fun i hi => ?_, fun i hi => ?_⟩
  · obtain ⟨h, li, ra, u, su, a1, a2, a3, a4, a5, a6, a7, a8, a9, a10, a11, a12, a13, a14⟩ := all i hi
    show gI A (37 + i) 3 = nI (ix (gI A (37 + i) 3)) ∧ 1 ≤ ix (gI A (37 + i) 3) ∧ ix (gI A (37 + i) 3) ≤ 1000 ∧ gI A (37 + i) 4 = nI (ix (gI A (37 + i) 4)) ∧ ix (gI A (37 + i) 4) < r ∧ F_X0_howItIs N (37 + i) A = some ((F_X6_stands N (nI i) B).getD 0) ∧ ((F_X6_stands N (nI i) B).getD 0 = 0 ∨ (F_X6_stands N (nI i) B).getD 0 = 1 ∨ (F_X6_stands N (nI i) B).getD 0 = 2 ∨ (F_X6_stands N (nI i) B).getD 0 = 3)
    rw [a1, a4, ixn (by omega), ixn (by omega), a8, a9]
    exact ⟨rfl, a2, a3, rfl, a5, rfl, a11⟩
  · obtain ⟨h, li, ra, u, su, a1, a2, a3, a4, a5, a6, a7, a8, a9, a10, a11, a12, a13, a14⟩ := all i hi
    show gL B 1 (303 + 14 * i + 3) = lN (ix (gI A (37 + i) 3)) ∧ gL B 1 (303 + 14 * i + 4) = lN (ix (gI A (37 + i) 4)) ∧ F_X6_stands N (nI i) B = some ((F_X6_stands N (nI i) B).getD 0)
    rw [he.s3 hi, he.s4 hi, a1, a4, ixn (by omega), ixn (by omega), nIw (by omega), nIw (by omega), a9]
    exact ⟨rfl, rfl, rfl⟩
  · obtain ⟨h, li, ra, u, su, a1, a2, a3, a4, a5, a6, a7, a8, a9, a10, a11, a12, a13, a14⟩ := all i hi
    show (F_X6_stands N (nI i) B).getD 0 = 0 ↔ _
    rw [a9, a6, ixn (by omega)]
    exact a10
  · obtain ⟨h, li, ra, u, su, a1, a2, a3, a4, a5, a6, a7, a8, a9, a10, a11, a12, a13, a14⟩ := all i hi
    exact ⟨a14, li, a12, a13⟩
set_option maxHeartbeats 8000000 in
theorem close_core {N k : Nat} (hN : 6000 ≤ N) {K : KT} {m r s y : Nat} {A B : MM} (h : BR k K m r s y A B) (hy : y < 60) {cn : Nat} (hcn : cn ≤ 100000000) : ∃ (w : Int64) (A' B' : MM), bn1 (F_X0_partPot N (nI cn) A) (fun M3 => bn2 (F_X0_drawAll N M3) (fun x5 M4 => bn1 (F_X0_beginNextYear N M4) (fun M6 => bn1 (F_X0_giveBack N M6) (fun M7 => some (x5, M7))))) = some (w, A') ∧ F_X6_close_84 N (nI cn) N (gL B 1 5664 + lN cn) (nI r) (nI s) (0 : Int64) (0 : Int32) (sL B 1 5671 (gL B 1 5671 + lN cn)) = some (w, B') ∧ BR k K m r s (y + 1) A' B' := by
  have h00 := h
  have h4 := h.came (gL A 1 12 + lN cn)
  obtain ⟨he, hs, ht, hm, hkk, hh, hp, hf, hb⟩ := h
  have hc := he.1
  have c1 : m ≤ 24 := hc.1
  have c2 : r ≤ 6 := hc.2.1
  have c3 : s ≤ 40 := hc.2.2
  obtain ⟨A4, hA4⟩ : ∃ A4, A4 = sL A 1 12 (gL A 1 12 + lN cn) := ⟨_, rfl⟩
  obtain ⟨B4, hB4⟩ : ∃ B4, B4 = sL B 1 5671 (gL A 1 12 + lN cn) := ⟨_, rfl⟩
  rw [← hA4, ← hB4] at h4
  have gA4 : gI A4 = gI A := by rw [hA4]; rfl
  obtain ⟨hw, ra, u, hFA4, hFB, hlv4, hli4⟩ := facts hN h4
  have hF : FA N r s hw ra u A := fun i hi => by
    obtain ⟨a1, a2, a3, a4, a5, a6, a7⟩ := hFA4 i hi
    rw [gA4] at a1 a4
    rw [how_gI gA4] at a6
    exact ⟨a1, a2, a3, a4, a5, a6, a7⟩
  have hlv : ∀ i, i < s → (hw i = 0 ↔ (prv m A i ∨ y < ix (gI A (37 + i) 9))) := fun i hi => by
    have q := hlv4 i hi
    unfold prv at q ⊢
    rw [gA4] at q
    exact q
  have hli : ∀ i, i < s → R_o m A i ∧ ∃ li, gI A (37 + i) 1 = nI li ∧ li < m := fun i hi => by
    have q := hli4 i hi
    unfold R_o at q ⊢
    rw [gA4] at q
    exact q
  -- the numbers
  have hT0 : 0 ≤ sumZ (heI B) s := sumZ_nn (fun q hq => ((BR_MS.mp h00).2.2.2.2.2.1 q hq).hn)
  have hf1 := hf.1
  have hf2 := hf.2
  obtain ⟨ca, hca⟩ : ∃ ca : Nat, ca = (gL A 1 10).toInt.toNat := ⟨_, rfl⟩
  have eca : gL A 1 10 = lN ca := by rw [hca]; exact lN_of hf1
  have eci : (gL A 1 10).toInt = ca := by omega
  obtain ⟨st, hst⟩ : ∃ st : Nat → Nat, st = fun q => (gL A (31 + q) 3).toInt.toNat := ⟨_, rfl⟩
  have est : ∀ q, q < r → gL A (31 + q) 3 = lN (st q) ∧ st q ≤ 400000000 := fun q hq => by
    have z := hkk q hq
    rw [hst]
    refine ⟨lN_of z.2.2.2.1, ?_⟩
    show (gL A (31 + q) 3).toInt.toNat ≤ 400000000
    omega
  obtain ⟨pn, hpn⟩ : ∃ pn : Nat, pn = ca + cn := ⟨_, rfl⟩
  have hpnb : pn ≤ 6200000000 := by omega
  obtain ⟨ST, hST⟩ : ∃ ST : Nat, ST = sN st r := ⟨_, rfl⟩
  obtain ⟨p, hpp⟩ : ∃ p : Nat → Nat, p = fun q => pn * st q / ST := ⟨_, rfl⟩
  obtain ⟨U, hU⟩ : ∃ U : Nat → Nat, U = fun q => untN (qd hw) ra u q s := ⟨_, rfl⟩
  obtain ⟨d, hd⟩ : ∃ d : Nat → Nat, d = drw (qd hw) ra u (tot U p) U := ⟨_, rfl⟩
  obtain ⟨D, hD⟩ : ∃ D : Nat, D = sN d s := ⟨_, rfl⟩
  have hps := p_sum hpp hST
  have hDp : D ≤ pn := by rw [hD, hd]; exact D_le hF hU hps
  have hUb : ∀ q, U q ≤ 40000 := fun q => by rw [hU]; exact unt_bd hF (Nat.le_refl _) c3
  have hTb : ∀ q, q < r → tot U p q ≤ 6200000000 := fun q hq => by
    have := tot_le (U := U) (p := p) hq
    omega
  -- the class parts the pot
  obtain ⟨A2, a1, a2, a3, a4, a5, a6⟩ := potA (N := N) (r := r) (s := s) (st := st) (p := p) (U := U) hN hs.2.2.1 hs.2.1 c3 c2 hF eca hpn (fun q hq => (est q hq).1) hpnb (fun q hq => (est q hq).2) hST hpp hU (by omega)
  -- the reference parts the pot
  have eB5 : gL B 1 5671 = gL A 1 12 := he.sc12
  have eB4c : gL B 1 5664 = lN ca := by rw [he.sc10, eca]
  obtain ⟨B5, b1, b2, b3, b4, b5⟩ := potB (N := N) (r := r) (s := s) (y := y) (st := st) (p := p) (U := U) (M := B4) (x := nI cn) hN c3 c2 hF hFB (fun q hq => by rw [hB4, gLn (by omega), he.k3 hq]; exact (est q hq).1) (by rw [hB4, gLn (by omega)]; exact he.cy hs) hpnb (fun q hq => (est q hq).2) hST hpp hU
  rw [← hd, ← hD] at b1
  rw [← hd] at b5
  -- the two, but for CARRY
  obtain ⟨A5, hA5⟩ : ∃ A5, A5 = sL A2 1 10 (gL A 1 10) := ⟨_, rfl⟩
  have hAg : Ag m r s A5 A4 := by
    refine ⟨fun c j q => ?_, fun c j q => ?_, fun c j q => ?_⟩
    · rw [hA5, gIsL, a2, gA4]
    · rw [hA5, gIsL, a2, gA4]
    · by_cases e1 : c = 1 ∧ j = 10
      · obtain ⟨rfl, rfl⟩ := e1
        rw [hA5, gLe, hA4, gLn (by omega)]
      · by_cases e2 : c = 1 ∧ j = 12
        · obtain ⟨rfl, rfl⟩ := e2
          rw [hA5, gLn (by omega), a5, hA4, gLe]
        · rw [hA5, gLn e1, a3 c j (by omega) (by unfold vL at q; omega), hA4, gLn e2]
  have h5 : BR k K m r s y A5 B5 := h4.same hAg (fun q _ => by rw [b2]) (fun c j hcj => by
      have q := h4.1.2.2.1 c j hcj
      rw [hA5, gIsL, gLn (by omega), a2, a3 c j (by omega) (by omega)]
      rw [hA4, gIsL, gLn (by omega)] at q
      exact q) (by rw [b3]; exact h4.1.2.2.2.1) (by rw [b4]; exact h4.1.2.2.2.2)
  have hsB : sumZ (heI B5) s = sumZ (heI B) s := sumZ_congr (fun i hi => heI_of (fun j hj => by rw [b2, hB4, gLn (by omega)]))
  have epd : (lN (pn - D)).toInt = ((pn - D : Nat) : Int) := pk_lT (by omega)
  have hC := BR_CM (b := 100000000 * ((y : Int) + 1) - ((D - sN d 0 : Nat) : Int)) h5 (v := lN (pn - D)) (by omega) (by rw [hsB, epd, sN]; omega) (Y := fun i => if i < 0 then y + 1 else y) (P := fun i => 0 ≤ i ∧ prv m A i) (fun i hi => ⟨if_neg (by omega), fun q => by
      have q2 := q.2
      unfold prv at q2 ⊢
      rw [hA5]
      show ∃ j, j < m ∧ (gI A2 (37 + i) 1 = nI j ∨ gI A2 (37 + i) 2 = nI j) ∧ gI A2 (7 + j) 4 ≠ 0
      rw [a2]
      exact q2⟩)
  have hXe : sL A5 1 10 (lN (pn - D)) = sL A2 1 10 (lN (pn - D)) := by rw [hA5, sLL]
  rw [hXe] at hC
  obtain ⟨w, X', B', q1, q2, q3, q4⟩ := draw_loop (N := N) (x := nI cn) (A0 := A) (p := p) (U := U) (D := D) hc hs hF hlv hli hUb hTb hd hD (by omega) hy N 0 0 (sL A2 1 10 (lN (pn - D))) (sL B5 1 5664 (lN (pn - D))) hC (fun c z _ => by rw [gIsL, a2]) (fun i _ _ z => by rw [gIsL, a2]) (fun q hq => by rw [gLn (by omega), gLn (by omega)]; exact a6 q hq) (fun i hi => by rw [gLn (by omega), gIsL]; exact b5 i hi) (by omega) (by omega)
  have eA2 : sL (sL A2 1 10 (lN (pn - D))) 1 10 (gL (sL A2 1 10 (lN (pn - D))) 1 10 + lN (D - sN d 0)) = A2 := by
    rw [gLe, sLL, lN_add, show pn - D + (D - sN d 0) = pn by rw [sN]; omega, ← a4, sL_same]
  rw [eA2] at q1
  have q1' : F_X0_drawAll N A2 = some (w, X') := q1
  have q2' : F_X6_close_448 N (nI cn) N (nI s) (nI y) (0 : Int64) (0 : Int32) (sL B5 1 5664 (lN (pn - D))) = bnd (sL B' 1 5663 (gL B' 1 5663 + (1 : Int64))) (fun M54 => F_X6_close_632 N (nI cn) N (nI s) w (0 : Int32) M54) := q2
  -- the year is one more
  have hM := q3.year hy
  obtain ⟨A7, B7, y1, y2, y3, y4, y5⟩ := year_loop (N := N) (x := nI cn) (w := w) N 0 (sI X' 1 7 (nI (y + 1))) (sL B' 1 5663 (lN (y + 1))) hM (by omega) (by omega)
  have y1' : F_X0_beginNextYear N X' = some A7 := by
    rw [F_X0_beginNextYear, q3.2.1.2.2.2.1, nI_1, bnd_e]
    exact y1
  have eyB : gL B' 1 5663 = lN y := q3.1.cy q3.2.1
  have y2' : F_X6_close_632 N (nI cn) N (nI s) w (0 : Int32) (sL B' 1 5663 (lN (y + 1))) = F_X6_close_668 N (nI cn) N (nI s) w (0 : Int32) B7 := y2
  obtain ⟨A8, B8, z1, z2, z3, z4⟩ := gb_loop (N := N) (x := nI cn) (w := w) hN N 0 A7 B7 y3 (by omega) (by omega)
  have z1' : F_X0_giveBack N A7 = some A8 := z1
  have z2' : F_X6_close_668 N (nI cn) N (nI s) w (0 : Int32) B7 = some (w, B8) := z2
  refine ⟨w, A8, B8, ?_, ?_, BR_MS.mpr (z3.mono ?_)⟩
  · rw [a1, bn1_e, q1', bn2_e, y1', bn1_e, z1', bn1_e]
  · rw [eB4c, lN_add, ← hpn, eB5, ← hB4, b1, q2', bnd_e, eyB, lN_1, y2', z2']
  · rintro i hi ⟨j, j1, j2, j3⟩
    rw [z4 j j1, y4 j (by omega) j1] at j3
    exact j3 rfl
theorem sim_close {N : Nat} (hN : 6000 ≤ N) : Sim_close N Rel := by
  intro k n A B hk hR x1
  have hR2 := hR.up
  obtain ⟨hn, K, m, r, s, y, hB, hK1, hK2⟩ := hR
  have hB0 := hB
  obtain ⟨he, hs, ht, hm, hkk, hh, hp, hf, hb⟩ := hB
  have c2 : r ≤ 6 := he.1.2.1
  have c3 : s ≤ 40 := he.1.2.2
  have hy : y ≤ 60 := hs.2.2.2.2.1
  rw [F_X5_close, F_X6_close, in_w (x := x1) (a := 0) (b := 100000000) (a' := 0) (b' := 100000000) rfl rfl, hs.2.2.2.1, he.cy hs]
  have e60 : (nI y < (60 : Int32)) = (y < 60) := nIlt (b := 60) (by omega) (by omega)
  have e60' : (lN y = (60 : Int64)) = (y = 60) := lNe (b := 60) (by omega) (by omega)
  simp only [e60, e60']
  cases hx : F_X5_isWithin x1 0 100000000 with
  | false => exact ⟨_, A, B, rfl, rfl, hR2⟩
  | true =>
    rw [bIt, bIt]
    by_cases h60 : y < 60
    · have g := wi_toInt.mp hx
      rw [show (0 : Int32).toInt = 0 from rfl, show (100000000 : Int32).toInt = 100000000 from rfl] at g
      obtain ⟨cn, hcn, rfl⟩ := ib_of (x := x1) (n := 100000001) (ibm.mpr (by omega)) (by omega)
      rw [if_pos h60, if_neg (show ¬ y = 60 by omega), nI_l (by omega), bnd_e, bnd_e, bnd_e, bnd_e, gLn (by omega), gLn (by omega), he.cr hs, he.cs hs, lNi, lNi]
      obtain ⟨w, A', B', q1, q2, q3⟩ := close_core hN hB0 h60 (cn := cn) (by omega)
      exact ⟨w, A', B', q1, q2, hn, K, m, r, s, y + 1, q3.up, hK1, fun z => ⟨(hK2 z).1, (hK2 z).2.up⟩⟩
    · rw [if_neg h60, if_pos (show y = 60 by omega)]
      exact ⟨_, A, B, rfl, rfl, hR2⟩

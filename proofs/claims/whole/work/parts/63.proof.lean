/-! ===== what a write leaves as it was, in the middle of a call ===== -/
section MFrames
variable {m r s y c j k i : Nat} {A B : MM} {P : Prop}
theorem R_g.fI {v : Int32} (h : R_g m r y A B i P) (hc : c ≠ 37 + i ∨ j = 12 ∨ j = 13) : R_g m r y (sI A c j v) B i P := by
  obtain ⟨h0, ho, li, ra, u, kn, si, su, un, hf, h1, h2, h3, h4⟩ := h
  refine ⟨?_, ho, li, ra, u, kn, si, su, un, hf, ?_, h2, h3, fun q hq => ?_⟩
  · unfold R_o at *
    simp (disch := omega) only [gIn]
    exact h0
  · unfold R_v at *
    simp (disch := omega) only [gIn]
    exact h1
  · simp only [gLsI]
    exact h4 q hq
theorem R_g.fL {v : Int64} (h : R_g m r y A B i P) (hc : c < 77) : R_g m r y (sL A c j v) B i P := by
  obtain ⟨h0, ho, li, ra, u, kn, si, su, un, hf, h1, h2, h3, h4⟩ := h
  refine ⟨h0, ho, li, ra, u, kn, si, su, un, hf, h1, h2, h3, fun q hq => ?_⟩
  simp (disch := omega) only [gLn]
  exact h4 q hq
theorem R_g.fB {v : Int64} (h : R_g m r y A B i P) (hi : i < 40) (hj : j ≠ 303 + 14 * i + 9) (hh : j < 3263 ∨ 5663 ≤ j) : R_g m r y A (sL B 1 j v) i P := by
  obtain ⟨h0, ho, li, ra, u, kn, si, su, un, hf, h1, h2, h3, h4⟩ := h
  refine ⟨h0, ho, li, ra, u, kn, si, su, un, hf, h1, ?_, h3, fun q hq => ?_⟩
  · rw [gLn (by omega)]
    exact h2
  · rw [gLn (by omega)]
    exact h4 q hq
/-- how long a share hasn't been proved -/
theorem R_g.un {un' : Nat} (h : R_g m r y A B i P) (hu : un' ≤ y) : R_g m r y (sI A (37 + i) 10 (nI un')) B i P := by
  obtain ⟨h0, ho, li, ra, u, kn, si, su, un, hf, h1, h2, h3, h4⟩ := h
  refine ⟨?_, ho, li, ra, u, kn, si, su, un', hf, ?_, h2, h3, fun q hq => ?_⟩
  · unfold R_o at *
    simp (disch := omega) only [gIn]
    exact h0
  · obtain ⟨v0, v1, v4, v3, v5, v8, v9, v10, v14, r0, r1, r4, r3, r3', r5, r8, r9, r9', r95, r10, r14⟩ := h1
    unfold R_v
    simp (disch := omega) only [gIn, gIe]
    exact ⟨v0, v1, v4, v3, v5, v8, v9, trivial, v14, r0, r1, r4, r3, r3', r5, r8, r9, r9', r95, hu, r14⟩
  · simp only [gLsI]
    exact h4 q hq
end MFrames
section MSteps
variable {k : Int} {K : KT} {m r s y : Nat} {P : Nat → Prop} {A B : MM}
theorem MS.un (h : MS k K m r s y P A B) {i un : Nat} (hi : i < s) (hu : un ≤ y) {w : Int64} (hw : w = lN un) : MS k K m r s y P (sI A (37 + i) 10 (nI un)) (sL B 1 (303 + 14 * i + 10) w) := by
  obtain ⟨he, hs, ht, hm, hkk, hh, hp, hf, hb⟩ := h
  have c1 : m ≤ 24 := he.1.1
  have c2 : r ≤ 6 := he.1.2.1
  have c3 : s ≤ 40 := he.1.2.2
  have hy : y ≤ 60 := hs.2.2.2.2.1
  refine ⟨he.I (v_s10 hi) (t_s10 (by omega)) (z_s10 (by omega)) _ (n_s10 (by omega)) (by rw [hw, nIw (by omega)]), hs.fI (by omega), ht.fI (by omega), hm.fI c1 (by omega), hkk.fI c2 (by omega), fun q hq => ?_, fun q hq => ((hp q hq).fI (by omega)).fB (by omega), (R_f.fI hf).fB c3 (by omega), hb.fI⟩
  refine R_g.fB ?_ (by omega) (by omega) (by omega)
  by_cases e : q = i
  · subst e; exact (hh q hq).un hu
  · exact (hh q hq).fI (by omega)
theorem MS.m4 (h : MS k K m r s y P A B) {i : Nat} (hi : i < m) {v : Int32} {w : Int64} (hw : w = (bo v).toInt64) : MS k K m r s y P (sI A (7 + i) 4 v) (sL B 1 (111 + 7 * i + 4) w) := by
  obtain ⟨he, hs, ht, hm, hkk, hh, hp, hf, hb⟩ := h
  have c1 : m ≤ 24 := he.1.1
  have c2 : r ≤ 6 := he.1.2.1
  have c3 : s ≤ 40 := he.1.2.2
  exact ⟨he.Z (v_m4 hi) (t_m4 (by omega)) (z_m4 (by omega)) _ (n_m4 (by omega)) hw, hs.fI (by omega), ht.fI (by omega), hm.fI c1 (by omega), hkk.fI c2 (by omega), fun q hq => ((hh q hq).fI (by omega)).fB (by omega) (by omega) (by omega), fun q hq => ((hp q hq).fI (by omega)).fB (by omega), (R_f.fI hf).fB c3 (by omega), hb.fI⟩
theorem MS.m5 (h : MS k K m r s y P A B) {i : Nat} (hi : i < m) {v : Int32} {w : Int64} (hw : w = (bo v).toInt64) : MS k K m r s y P (sI A (7 + i) 5 v) (sL B 1 (111 + 7 * i + 5) w) := by
  obtain ⟨he, hs, ht, hm, hkk, hh, hp, hf, hb⟩ := h
  have c1 : m ≤ 24 := he.1.1
  have c2 : r ≤ 6 := he.1.2.1
  have c3 : s ≤ 40 := he.1.2.2
  exact ⟨he.Z (v_m5 hi) (t_m5 (by omega)) (z_m5 (by omega)) _ (n_m5 (by omega)) hw, hs.fI (by omega), ht.fI (by omega), hm.fI c1 (by omega), hkk.fI c2 (by omega), fun q hq => ((hh q hq).fI (by omega)).fB (by omega) (by omega) (by omega), fun q hq => ((hp q hq).fI (by omega)).fB (by omega), (R_f.fI hf).fB c3 (by omega), hb.fI⟩
set_option maxHeartbeats 4000000 in
/-- all that share i holds is let go -/
theorem MS.upd {A2 B2 : MM} {Q : Nat → Prop} {a : Int} (h : MS k K m r s y P A B) {i : Nat} (hi : i < s) (hQ : ∀ z, z < s → z ≠ i → Q z → P z) (a1 : ∀ c j, ¬ (c = 37 + i ∧ j = 14) → gI A2 c j = gI A c j) (a2 : ∀ c j, c ≠ 77 + i → ¬ (c = 1 ∧ j = 10) → gL A2 c j = gL A c j) (a3 : gI A2 (37 + i) 14 = nI y) (b1 : ∀ q, (q < 3263 + 60 * i ∨ 3263 + 60 * i + 60 ≤ q) → (q < 863 + 60 * i ∨ 863 + 60 * i + 60 ≤ q) → q ≠ 5664 → gL B2 1 q = gL B 1 q) (b2 : gL B2 2 = gL B 2) (b3 : gI B2 0 = gI B 0) (b4 : gL B2 1 5664 = gL A2 1 10) (d1 : ∀ j, j < 60 → gL B2 1 (863 + 60 * i + j) = gL A2 (77 + i) j ∧ gL B2 1 (3263 + 60 * i + j) = 0 ∧ (gL A2 (77 + i) j = gL A (77 + i) j ∨ gL A2 (77 + i) j = 0)) (f1 : 0 ≤ (gL A2 1 10).toInt) (f2 : (gL A2 1 10).toInt + a ≤ (gL A 1 10).toInt + heI B i) (ha : 0 ≤ a) : MS k K m r s y Q A2 B2 ∧ (gL A2 1 10).toInt + sumZ (heI B2) s + a ≤ 100000000 * y := by
  obtain ⟨he, hs, ht, hm, hkk, hh, hp, hf, hb⟩ := h
  have hc := he.1
  have c1 : m ≤ 24 := he.1.1
  have c2 : r ≤ 6 := he.1.2.1
  have c3 : s ≤ 40 := he.1.2.2
  have hy : y ≤ 60 := hs.2.2.2.2.1
  have eh : ∀ z, z < s → z ≠ i → heI B2 z = heI B z := fun z hz hne => heI_of (fun j hj => b1 _ (by omega) (by omega) (by omega))
  have eh0 : heI B2 i = 0 := by
    unfold heI
    rw [sumZ_congr (g := fun _ => (0 : Int)) (fun j hj => by rw [(d1 j hj).2.1]; rfl)]
    have : ∀ n : Nat, sumZ (fun _ => (0 : Int)) n = 0 := by
      intro n
      induction n with
      | zero => rfl
      | succ n ih => rw [sumZ, ih]; rfl
    exact this 60
  have eS : sumZ (heI B2) s = sumZ (heI B) s - heI B i + 0 := by
    rw [sumZ_upd (f := heI B) (g := heI B2) hi eh, eh0]
  have hbd : (gL A2 1 10).toInt + sumZ (heI B2) s + a ≤ 100000000 * y := by
    have := hf.2
    omega
  refine ⟨⟨⟨hc, fun c j hv => ?_, fun c j hcj => ?_, by rw [b2]; exact he.2.2.2.1, by rw [b3]; exact he.2.2.2.2⟩, ?_, fun z hz => ?_, fun z hz => ?_, fun z hz => ?_, fun z hz => ?_, fun z hz => ?_, ⟨f1, by omega⟩, fun z hz => ?_⟩, hbd⟩
  · by_cases e1 : c = 77 + i
    · subst e1
      have hj : j < 60 := by unfold val at hv; omega
      rw [n_d, (d1 j hj).1]
      unfold rd
      rw [if_pos t_d]
    · by_cases e2 : c = 1 ∧ j = 10
      · obtain ⟨rfl, rfl⟩ := e2
        exact b4
      · have w := enc_for hc hv
        have q8 : enc c j ≠ 5664 := fun q => e2 (enc_inj hc hv v_sc10 q)
        rw [b1 _ (by omega) (by omega) q8, he.2.1 c j hv]
        by_cases e3 : c = 37 + i ∧ j = 14
        · exfalso; unfold val at hv; omega
        · exact (rd_of (a1 c j e3) (a2 c j e1 e2)).symm
  · have q := he.2.2.1 c j hcj
    rw [a1 c j (by omega), a2 c j (by omega) (by omega)]
    exact q
  · unfold R_s at *
    rw [a1 1 4 (by omega), a1 1 5 (by omega), a1 1 6 (by omega), a1 1 7 (by omega), a1 1 9 (by omega)]
    exact hs
  · rw [a1 3 z (by omega)]
    exact ht z hz
  · rw [a1 _ 0 (by omega), a1 _ 3 (by omega), a1 _ 6 (by omega)]
    exact hm z hz
  · rw [a1 _ _ (by omega), a1 _ _ (by omega), a1 _ _ (by omega), a2 _ _ (by omega) (by omega)]
    exact hkk z hz
  · obtain ⟨h0, ho, li, ra, u, kn, si, su, un, hf2, h1, h2, h3, h4⟩ := hh z hz
    obtain ⟨v0, v1, v4, v3, v5, v8, v9, v10, v14, r0, r1, r4, r3, r3', r5, r8, r9, r9', r95, r10, r14⟩ := h1
    have g0 : R_o m A2 z := by
      unfold R_o at *
      rw [a1 _ _ (by omega)]
      exact h0
    by_cases e : z = i
    · subst e
      refine ⟨g0, ho, li, ra, u, kn, si, su, un, y, ?_, ?_, fun _ => rfl, fun j hj => ?_⟩
      · unfold R_v
        rw [a1 _ 0 (by omega), a1 _ 1 (by omega), a1 _ 4 (by omega), a1 _ 3 (by omega), a1 _ 5 (by omega), a1 _ 8 (by omega), a1 _ 9 (by omega), a1 _ 10 (by omega)]
        exact ⟨v0, v1, v4, v3, v5, v8, v9, v10, a3, r0, r1, r4, r3, r3', r5, r8, r9, r9', r95, r10, Nat.le_refl _⟩
      · rw [b1 _ (by omega) (by omega) (by omega)]
        exact h2
      · obtain ⟨d2, d3, d4⟩ := d1 j hj
        obtain ⟨q1, q2, q3, q4, q5⟩ := h4 j hj
        have hz0 : y ≤ j → gL A2 (77 + z) j = 0 := fun q => by
          rcases d4 with d | d
          · rw [d]; exact q4 q
          · exact d
        refine ⟨?_, ?_, ?_, hz0, fun q => ?_⟩
        · rw [d3]
          split
          · next q => exact (hz0 q).symm
          · rfl
        · rcases d4 with d | d
          · rw [d]; exact q2
          · rw [d]; decide
        · rcases d4 with d | d
          · rw [d]; exact q3
          · rw [d]; decide
        · rcases d4 with d | d
          · rw [d]; exact q5 q
          · exact d
    · refine ⟨g0, ho, li, ra, u, kn, si, su, un, hf2, ?_, ?_, fun q => h3 (q.imp (hQ z hz e) id), fun j hj => ?_⟩
      · unfold R_v
        rw [a1 _ 0 (by omega), a1 _ 1 (by omega), a1 _ 4 (by omega), a1 _ 3 (by omega), a1 _ 5 (by omega), a1 _ 8 (by omega), a1 _ 9 (by omega), a1 _ 10 (by omega), a1 _ 14 (by omega)]
        exact ⟨v0, v1, v4, v3, v5, v8, v9, v10, v14, r0, r1, r4, r3, r3', r5, r8, r9, r9', r95, r10, r14⟩
      · rw [b1 _ (by omega) (by omega) (by omega)]
        exact h2
      · rw [b1 _ (by omega) (by omega) (by omega), a2 _ _ (by omega) (by omega)]
        exact h4 j hj
  · obtain ⟨q, q1, q2, q3⟩ := hp z hz
    refine ⟨q, q1, ?_, ?_⟩
    · rw [b1 _ (by omega) (by omega) (by omega)]
      exact q2
    · rw [a1 _ _ (by omega), a2 _ _ (by omega) (by omega)]
      exact q3
  · rw [a2 _ _ (by omega) (by omega)]
    exact hb z hz
end MSteps
theorem zero_loop {N : Nat} {x : Int32} {v2 v5 : Int64} {i : Nat} (hi : i < 40) : ∀ (fu j : Nat) (B : MM), j ≤ 60 → 60 < j + fu → ∃ B1, F_X6_proof_91 N x fu v2 (nI i) v5 (nI j) B = some B1 ∧ (∀ q, gL B1 1 q = if 3263 + 60 * i + j ≤ q ∧ q < 3263 + 60 * i + 60 then 0 else gL B 1 q) ∧ gL B1 2 = gL B 2 ∧ gI B1 = gI B := by
  intro fu
  induction fu with
  | zero => intro j B h1 h2; omega
  | succ fu ih =>
    intro j B h1 h2
    rw [F_X6_proof_91]
    have e60 : ((60 : Int32) ≤ nI j) = (60 ≤ j) := nIl (a := 60) (by omega) (by omega)
    simp only [e60]
    by_cases hj : 60 ≤ j
    · rw [if_pos hj]
      exact ⟨B, rfl, fun q => by rw [if_neg (by omega)], rfl, rfl⟩
    · rw [if_neg hj, hex, gd_ib (by omega) (by omega), bnd_e, ixn (by omega), nI_1]
      obtain ⟨B1, q1, q2, q3, q4⟩ := ih (j + 1) (sL B 1 (3263 + 60 * i + j) 0) (by omega) (by omega)
      refine ⟨B1, q1, fun q => ?_, by rw [q3, gL_ne (by decide)], q4⟩
      rw [q2 q, gLs]
      by_cases e1 : q = 3263 + 60 * i + j
      · subst e1
        rw [if_neg (by omega), if_pos ⟨rfl, rfl⟩, if_pos (by omega)]
      · rw [if_neg (by omega : ¬ (1 = 1 ∧ q = 3263 + 60 * i + j))]
        by_cases e2 : 3263 + 60 * i + (j + 1) ≤ q ∧ q < 3263 + 60 * i + 60
        · rw [if_pos e2, if_pos (by omega)]
        · rw [if_neg e2, if_neg (by omega)]
theorem held_g {N : Nat} (hN : 6000 ≤ N) {K : KT} {m r s y i : Nat} {A B : MM} {P : Prop} (he : Eqv K m r s A B) (hs : R_s m r s y A) (hi : i < s) (hh : R_g m r y A B i P) : F_X3_heldAt N (37 + i) (gI A 1 7) A = some (smL (fun z => gL B 1 (3263 + 60 * i + z)) 0 60) ∧ F_X6_heldBy N (nI i) B = some (smL (fun z => gL B 1 (3263 + 60 * i + z)) 0 60) := by
  have c3 : s ≤ 40 := he.1.2.2
  have hy : y ≤ 60 := hs.2.2.2.2.1
  obtain ⟨h0, ho, li, ra, u, kn, si, su, un, hf, h1, h2, h3, h4⟩ := hh
  have h14 : gI A (37 + i) 14 = nI hf := h1.2.2.2.2.2.2.2.2.1
  have hfy : hf ≤ y := h1.2.2.2.2.2.2.2.2.2.2.2.2.2.2.2.2.2.2.2.2
  refine ⟨?_, held_B hN (by omega)⟩
  rw [held_eq (fun j hj => (h4 j hj).1) (fun j hj => (h4 j hj).2.2.2.1) hy hfy, hs.2.2.2.1, held_A hN h14 (by omega) (by omega), show 37 + i + 40 = 77 + i by omega]
/-- what share i holds is paid to it -/
theorem MS.payHeld {N : Nat} {k : Int} (hN : 6000 ≤ N) {K : KT} {m r s y : Nat} {P Q : Nat → Prop} {A B : MM} (h : MS k K m r s y P A B) {i : Nat} (hi : i < s) (hQ : ∀ z, z < s → z ≠ i → Q z → P z) (x : Int32) (v2 : Int64) : ∃ (v : Int64) (B1 A' B' : MM), F_X0_payHeld N (37 + i) A = some (v, A') ∧ F_X6_heldBy N (nI i) B = some v ∧ F_X6_proof_91 N x N v2 (nI i) v (0 : Int32) B = some B1 ∧ F_X6_pays N (nI i) v B1 = some B' ∧ MS k K m r s y Q A' B' ∧ (∀ c j, ¬ (c = 37 + i ∧ j = 14) → gI A' c j = gI A c j) := by
  have h00 := h
  obtain ⟨he, hs, ht, hm, hkk, hh, hp, hf, hb⟩ := h
  have c3 : s ≤ 40 := he.1.2.2
  have hy : y ≤ 60 := hs.2.2.2.2.1
  have hT : 0 ≤ sumZ (heI B) s := sumZ_nn (fun q hq => (hh q hq).hn)
  have hTi : heI B i ≤ sumZ (heI B) s := sumZ_part (fun q hq => (hh q hq).hn) hi
  have hi0 := (hh i hi).hn
  have hf2 := hf.2
  have hf1 := hf.1
  obtain ⟨e1, e2⟩ := held_g hN he hs hi (hh i hi)
  have ev := hel_toInt (B := B) (i := i) (fun j hj => (hh i hi).nn hj) (by omega)
  generalize smL (fun z => gL B 1 (3263 + 60 * i + z)) 0 60 = v at e1 e2 ev
  obtain ⟨B1, z1, z2, z3, z4⟩ := zero_loop (N := N) (x := x) (v2 := v2) (v5 := v) (i := i) (by omega) N 0 B (by omega) (by omega)
  have hu := h00.upd (A2 := sI A (37 + i) 14 (nI y)) (B2 := B1) (Q := Q) (a := v.toInt) hi hQ (fun c j q => by rw [gIn (by omega)]) (fun c j q q2 => rfl) gIe (fun q q1 q2 q3 => by rw [z2, if_neg (by omega)]) z3 (by rw [z4]) (by rw [z2, if_neg (by omega)]; exact he.sc10) (fun j hj => ⟨by rw [z2, if_neg (by omega)]; exact he.d hi hj, by rw [z2, if_pos (by omega)], Or.inl rfl⟩) hf.1 (by rw [ev]; exact Int.le_refl _) (by omega)
  obtain ⟨A', B', p1, p2, p3, p4, -⟩ := hu.1.pay (N := N) hi (a := v) (by omega) hu.2
  refine ⟨v, B1, A', B', ?_, e2, z1, p2, p3, fun c j q => by rw [p4, gIn (by omega)]⟩
  rw [F_X0_payHeld, F_X3_release, e1, bn1_e, bnd_e, bn2_e, hs.2.2.2.1, p1, bn1_e]
theorem hasL_of {A A1 : MM} {i : Nat} {x : Int32} (h1 : gI A (37 + i) 1 = gI A1 (37 + i) 1) (h2 : gI A (37 + i) 2 = gI A1 (37 + i) 2) : F_X3_hasLife (37 + i) x A = F_X3_hasLife (37 + i) x A1 := by
  rw [F_X3_hasLife, F_X3_hasLife, h1, h2]
theorem prove_loop {N : Nat} {k : Int} (hN : 6000 ≤ N) {K : KT} {m r s y : Nat} {P : Nat → Prop} {A1 : MM} {x : Int32} : ∀ (fu j : Nat) (v : Int64) (A B : MM), MS k K m r s y (fun i => P i ∨ (i < j ∧ F_X3_hasLife (37 + i) x A1 = true)) A B → (∀ c z, c < 37 ∨ (z ≠ 10 ∧ z ≠ 14) → gI A c z = gI A1 c z) → j ≤ s → s < j + fu → ∃ (w : Int64) (A' B' : MM), F_X0_prove_15 N x fu v (nI j) A = some (w, A') ∧ F_X6_proof_52 N x fu v (nI j) B = some (w, B') ∧ MS k K m r s y (fun i => P i ∨ F_X3_hasLife (37 + i) x A1 = true) A' B' ∧ (∀ c z, c < 37 ∨ (z ≠ 10 ∧ z ≠ 14) → gI A' c z = gI A1 c z) := by
  intro fu
  induction fu with
  | zero => intro j v A B h0 h9 h1 h2; omega
  | succ fu ih =>
    intro j v A B h0 h9 h1 h2
    have he := h0.1
    have hs := h0.2.1
    have c3 : s ≤ 40 := he.1.2.2
    have hy : y ≤ 60 := hs.2.2.2.2.1
    rw [F_X0_prove_15, F_X6_proof_52, he.cs hs, nIw (by omega), hs.2.2.1]
    simp (disch := omega) only [lNl, nIl]
    by_cases hj : s ≤ j
    · rw [if_pos hj, if_pos hj]
      refine ⟨v, A, B, rfl, rfl, h0.mono (fun i hi q => ?_), h9⟩
      rcases q with q | q
      · exact Or.inl q
      · exact Or.inr ⟨by omega, q⟩
    · have hj2 : j < s := by omega
      rw [if_neg hj, if_neg hj, gd_ib (by omega) (by omega), hasL he hj2, bn1_e, ixn (by omega), nI_1]
      have eL : F_X3_hasLife (37 + j) x A = F_X3_hasLife (37 + j) x A1 := hasL_of (h9 _ _ (by omega)) (h9 _ _ (by omega))
      cases hl : F_X3_hasLife (37 + j) x A with
      | false =>
        rw [bIf, bIf]
        refine ih (j + 1) v A B (h0.mono (fun i hi q => ?_)) h9 (by omega) (by omega)
        rcases q with q | ⟨q1, q2⟩
        · exact Or.inl q
        · refine Or.inr ⟨?_, q2⟩
          by_cases e : i = j
          · subst e; rw [eL, q2] at hl; cases hl
          · omega
      | true =>
        rw [bIt, bIt]
        obtain ⟨vv, B1, A2, B2, p1, p2, p3, p4, p5, p6⟩ := h0.payHeld (Q := fun i => P i ∨ (i < j + 1 ∧ F_X3_hasLife (37 + i) x A1 = true)) hN hj2 (fun z hz hne q => by
          rcases q with q | ⟨q1, q2⟩
          · exact Or.inl q
          · exact Or.inr ⟨by omega, q2⟩) x v
        rw [p1, bn2_e, bnd_e, bnd_e, p2, bn1_e, p3, bn1_e, p4, bn1_e, part_10, gd_ib (by omega) (by omega), ixn (by omega), bnd_e, bnd_e]
        refine ih (j + 1) (v + vv) (sI A2 (37 + j) 10 (nI 0)) (sL B2 1 (303 + 14 * j + 10) 0) (p5.un hj2 (by omega) rfl) (fun c z q => ?_) (by omega) (by omega)
        rw [gIn (by omega), p6 c z (by omega), h9 c z q]
theorem sim_proof {N : Nat} (hN : 6000 ≤ N) : Sim_proof N Rel := by
  intro k n A B hk hR x1
  have hR2 := hR.up
  obtain ⟨hn, K, m, r, s, y, hB, hK1, hK2⟩ := hR
  have hB0 := BR_MS.mp hB
  obtain ⟨he, hs, ht, hm, hkk, hh, hp, hf, hb⟩ := hB
  have c1 : m ≤ 24 := he.1.1
  have c3 : s ≤ 40 := he.1.2.2
  rw [F_X5_proof, F_X6_proof, isM_A hs.1 (by omega), isM_B (he.cm hs) (by omega)]
  cases hx : ib x1 m with
  | false => exact ⟨_, A, B, rfl, rfl, hR2⟩
  | true =>
    obtain ⟨i, hi, rfl⟩ := ib_of hx (by omega)
    rw [bIt, bIt, nIw (by omega), dead_B he hi, bn1_e, gd_ib (by omega) (by omega), ixn (by omega)]
    simp only [bo0]
    unfold dB
    by_cases h5 : gI A (7 + i) 5 = 0
    · rw [if_pos h5, decide_eq_true h5, Bool.not_true, bIf, cellOf_4, gd_ib (by omega) (by omega), ixn (by omega), he.m4 hi]
      simp only [bo1]
      by_cases h4 : gI A (7 + i) 4 = 0
      · rw [if_pos h4, if_neg (fun q => q h4), F_X0_prove, gd_ib (by omega) (by omega), ixn (by omega), bnd_e, bnd_e]
        obtain ⟨w, A', B', q1, q2, q3, q4⟩ := prove_loop hN (P := fun z => prv m A z) (A1 := sI A (7 + i) 4 1) (x := nI i) N 0 0 (sI A (7 + i) 4 1) (sL B 1 (111 + 7 * i + 4) 1) ((hB0.m4 hi (v := 1) (w := 1) rfl).mono (fun z hz q => by
          rcases q with q | q
          · exact q
          · omega)) (fun c z q => rfl) (by omega) (by omega)
        rw [show (0 : Int32) = nI 0 from rfl, q1, q2, bn2_e]
        refine ⟨w, A', B', rfl, rfl, hn, K, m, r, s, y, BR.up (BR_MS.mpr (q3.mono ?_)), hK1, fun z => ⟨(hK2 z).1, (hK2 z).2.up⟩⟩
        rintro z hz ⟨j, j1, j2, j3⟩
        rw [q4 _ _ (by omega), q4 _ _ (by omega)] at j2
        by_cases e : j = i
        · subst e
          exact Or.inr (hasL_iff.mpr j2)
        · rw [q4 _ _ (by omega), gIn (by omega)] at j3
          rw [gIn (by omega), gIn (by omega)] at j2
          exact Or.inl ⟨j, j1, j2, j3⟩
      · rw [if_neg h4, if_pos h4]
        exact ⟨_, A, B, rfl, rfl, hR2⟩
    · rw [if_neg h5, decide_eq_false h5, Bool.not_false, bIt]
      exact ⟨_, A, B, rfl, rfl, hR2⟩

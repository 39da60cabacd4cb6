/-! ===== a share is settled ===== -/
set_option maxHeartbeats 4000000 in
theorem MS.settle {N : Nat} (hN : 6000 ≤ N) {k k' : Int} {K : KT} {m r s y : Nat} {P : Nat → Prop} {A B : MM} (h : MS k K m r s y P A B) {i : Nat} (hi : i < s) (hk : k ≤ 20000000000000000) (hk' : k + 400000000000 ≤ k') : ∃ (w : Int64) (A' B' : MM), F_X0_settle N (37 + i) A = some (w, A') ∧ F_X6_ends N (nI i) B = some (w, B') ∧ MS k' K m r s y P A' B' ∧ (∀ c j, ¬ (c = 37 + i ∧ j = 14) → gI A' c j = gI A c j) := by
  have h00 := h
  obtain ⟨e32, n1, n2, n3, n4⟩ := end_sim (N := N) h hi
  obtain ⟨he, hs, ht, hm, hkk, hh, hp, hf, hb⟩ := h
  have c1 : m ≤ 24 := he.1.1
  have c3 : s ≤ 40 := he.1.2.2
  have hy : y ≤ 60 := hs.2.2.2.2.1
  have hT : 0 ≤ sumZ (heI B) s := sumZ_nn (fun q hq => (hh q hq).hn)
  have hTi : heI B i ≤ sumZ (heI B) s := sumZ_part (fun q hq => (hh q hq).hn) hi
  have hi0 := (hh i hi).hn
  have hnn : ∀ j, j < 60 → 0 ≤ (gL B 1 (3263 + 60 * i + j)).toInt := fun j hj => (hh i hi).nn hj
  have hf2 := hf.2
  have hf1 := hf.1
  obtain ⟨e, hee⟩ : ∃ e : Nat, e = (e32.toInt + 1).toNat := ⟨_, rfl⟩
  have he61 : e ≤ 61 := by omega
  have hE : ∀ j, j < 60 → (lN j ≤ e32.toInt64 ↔ j < e) := by
    intro j hj
    rw [Int64.le_iff_toInt_le, lN_toInt' (by omega), toInt64_toInt]
    omega
  obtain ⟨h0, ho, li, ra, u, kn, si, su, un, hfr, h1, h2, h3, h4⟩ := hh i hi
  obtain ⟨v0, v1, v4, v3, v5, v8, v9, v10, v14, r0, r1, r4, r3, r3', r5, r8, r9, r9', r95, r10, r14⟩ := h1
  obtain ⟨B1, p1, p2, p3, p4, p5, p6⟩ := ends_loop (N := N) (i := i) (by omega) hE N 0 0 B (by omega) (by omega)
  obtain ⟨a, haa⟩ : ∃ a : Nat, a = max e hfr := ⟨_, rfl⟩
  obtain ⟨A1, g1, g2, g3⟩ := forget_loop (N := N) (c := 37 + i) hy (x := e32) N a (smL (gL A (37 + i + 40)) a (min y 60 - a)) A (by omega) (by omega)
  have e77 : 37 + i + 40 = 77 + i := by omega
  rw [e77] at g1 g2
  have ehd : ∀ j, j < 60 → gL B 1 (3263 + 60 * i + j) = if hfr ≤ j then gL A (77 + i) j else 0 := fun j hj => (h4 j hj).1
  have ez : ∀ j, j < 60 → y ≤ j → gL A (77 + i) j = 0 := fun j hj => (h4 j hj).2.2.2.1
  -- what goes back to the pot
  have eX3 : smL (hi' B i e) 0 60 = smL (gL A (77 + i)) a (min y 60 - a) := by
    rw [show min y 60 = y by omega]
    apply smL_cut hy
    intro z hz
    unfold hi'
    rw [ehd z hz]
    by_cases q1 : e ≤ z
    · rw [if_pos q1]
      by_cases q2 : hfr ≤ z
      · rw [if_pos q2]
        by_cases q3 : z < y
        · rw [if_pos (by omega)]
        · rw [if_neg (by omega), ez z hz (by omega)]
      · rw [if_neg q2, if_neg (by omega)]
    · rw [if_neg q1, if_neg (by omega)]
  have hlo : ∀ j, j < 60 → 0 ≤ (lo B i e j).toInt := fun j hj => by
    unfold lo
    split
    · decide
    · exact hnn j hj
  have hhi : ∀ j, j < 60 → 0 ≤ (hi' B i e j).toInt := fun j hj => by
    unfold hi'
    split
    · exact hnn j hj
    · decide
  have hsum : heI B i = sumZ (fun j => (lo B i e j).toInt) 60 + sumZ (fun j => (hi' B i e j).toInt) 60 := by
    unfold heI
    apply sumZ_add
    intro j hj
    unfold lo hi'
    have z0 : (0 : Int64).toInt = 0 := rfl
    by_cases q : e ≤ j
    · rw [if_pos q, if_pos q, z0]; omega
    · rw [if_neg q, if_neg q, z0]; omega
  have hlo2 : 0 ≤ sumZ (fun j => (lo B i e j).toInt) 60 := sumZ_nn hlo
  have hhi2 : 0 ≤ sumZ (fun j => (hi' B i e j).toInt) 60 := sumZ_nn hhi
  have elo := smL0 hlo (by omega)
  have ehi := smL0 hhi (by omega)
  obtain ⟨X3, hX3⟩ : ∃ X3, X3 = smL (hi' B i e) 0 60 := ⟨_, rfl⟩
  obtain ⟨V, hV⟩ : ∃ V, V = smL (lo B i e) 0 60 := ⟨_, rfl⟩
  rw [← hX3] at ehi eX3
  rw [← hV] at elo
  rw [← eX3] at g1
  rw [show 60 - 0 = 60 from rfl, ← hV, Int64.zero_add] at p1
  rw [show 60 - 0 = 60 from rfl, ← hX3] at p3
  have ecar : (gL A 1 10 + X3).toInt = (gL A 1 10).toInt + X3.toInt := fb_addL (by omega) (by omega)
  -- the state behind the release
  have hA2r : ∀ j, j < 60 → gL A1 (77 + i) j = gL B 1 (863 + 60 * i + j) - hi' B i e j := by
    intro j hj
    rw [g2, he.d hi hj]
    unfold hi'
    rw [ehd j hj]
    by_cases q1 : e ≤ j
    · rw [if_pos q1]
      by_cases q2 : hfr ≤ j
      · rw [if_pos q2, Int64.sub_self]
        by_cases q3 : j < y
        · rw [if_pos (by omega)]
        · rw [if_neg (by omega), ez j hj (by omega)]
      · rw [if_neg q2, if_neg (by omega), Int64.sub_zero]
    · rw [if_neg q1, if_neg (by omega), Int64.sub_zero]
  have hu := h00.upd (A2 := sI (sL A1 1 10 (gL A 1 10 + X3)) (37 + i) 14 (nI y)) (B2 := B1) (Q := P) (a := V.toInt) hi (fun z hz _ q => q) (fun c j q => by rw [gIn (by omega), gIsL, g3]) (fun c j q q2 => by rw [gLsI, gLn (by omega), g2, if_neg (by omega)]) gIe (fun q q1 q2 q3 => p2 q (by omega) (by omega) q3) p5 (by rw [p6]) (by rw [p3, he.sc10, gLsI, gLe]) (fun j hj => ⟨by rw [gLsI, gLn (by omega), (p4 j (by omega) hj).2, hA2r j hj], (p4 j (by omega) hj).1, by
      rw [gLsI, gLn (by omega), g2]
      split
      · exact Or.inr rfl
      · exact Or.inl rfl⟩) (by rw [gLsI, gLe]; omega) (by rw [gLsI, gLe]; omega) (by omega)
  obtain ⟨A', B', s1, s2, s3, s4, s5, s6, s7, s8, -⟩ := hu.1.pay (N := N) hi (a := V) (by omega) hu.2
  have gi : ∀ c j, ¬ (c = 37 + i ∧ j = 14) → gI A' c j = gI A c j := fun c j q => by rw [s4, gIn (by omega), gIsL, g3]
  -- what the class pays
  have eheld : F_X3_heldAt N (37 + i) (gI (sL A1 1 10 (gL A 1 10 + X3)) 1 7) (sL A1 1 10 (gL A 1 10 + X3)) = some V := by
    rw [gIsL, g3, hs.2.2.2.1, held_A hN (a := hfr) (by rw [gIsL, g3]; exact v14) (by omega) (by omega), hV, e77]
    congr 1
    rw [show min y 60 = y by omega]
    refine (smL_cut hy ?_).symm
    intro z hz
    rw [gLn (by omega), g2]
    unfold lo
    rw [ehd z hz]
    by_cases q1 : e ≤ z
    · rw [if_pos q1]
      by_cases q2 : hfr ≤ z ∧ z < y
      · rw [if_pos q2, if_pos (by omega)]
      · rw [if_neg q2]
    · rw [if_neg q1]
      by_cases q2 : hfr ≤ z
      · rw [if_pos q2]
        by_cases q3 : z < y
        · rw [if_pos (by omega), if_neg (by omega)]
        · rw [if_neg (by omega), ez z hz (by omega)]
      · rw [if_neg q2, if_neg (by omega)]
  have epay : F_X0_payHeld N (37 + i) (sL A1 1 10 (gL A 1 10 + X3)) = some (V, A') := by
    rw [F_X0_payHeld, F_X3_release, eheld, bn1_e, bnd_e, bn2_e, gIsL, g3, hs.2.2.2.1, s1, bn1_e]
  -- what was drawn behind the end
  have he' := s3.1
  have hs' := s3.2.1
  obtain ⟨h0', ho', li', ra', u', kn', si', su', un', hfr', h1', h2', h3', h4'⟩ := s3.2.2.2.2.2.1 i hi
  obtain ⟨w0, w1, w4, w3, w5, w8, w9, w10, w14, t0, t1, t4, t3, t3', t5, t8, t9, t9', t95, t10, t14⟩ := h1'
  have eho : ho' = ho := by
    rw [gi _ _ (by omega), v0, nIe (by omega) (by omega)] at w0
    exact w0.symm
  subst eho
  have hb0 := back_loop (N := N) (i := i) (B := B') (e := e) (kn := kn') (su := su') (ho := ho') (by omega) hE (by omega) (by rw [he'.s0 hi, w0, nIw (by omega)]) (fun z hz => sure_B he' hi w5 w8 h2' t5 t9 t9' (by omega)) N 0 0 (by omega) (by omega)
  rw [show 60 - 0 = 60 from rfl, Int64.zero_add] at hb0
  have eW : smL (bk B' i e kn' su') 0 60 = smL (gL A' (77 + i)) (max e su') (min y 60 - max e su') := by
    rw [show min y 60 = y by omega]
    apply smL_cut hy
    intro z hz
    unfold bk
    rw [he'.d hi hz]
    obtain ⟨-, -, -, k4, k5⟩ := h4' z hz
    by_cases q3 : z < y
    · by_cases q1 : e ≤ z
      · by_cases q2 : su' ≤ z
        · rw [if_pos (by omega), if_pos (by omega)]
        · rw [if_neg (by omega : ¬ (max e su' ≤ z ∧ z < y))]
          by_cases q4 : 1 < kn'
          · rw [if_neg (by omega)]
          · have := t95 (by omega)
            rw [k5 (by omega)]
            split <;> rfl
      · rw [if_neg (by omega), if_neg (by omega)]
    · rw [k4 (by omega), if_neg (by omega : ¬ (max e su' ≤ z ∧ z < y))]
      split <;> rfl
  have hbk : ∀ j, j < 60 → 0 ≤ (bk B' i e kn' su' j).toInt ∧ (bk B' i e kn' su' j).toInt ≤ 6200000000 := fun j hj => by
    unfold bk
    rw [he'.d hi hj]
    split
    · exact ⟨(h4' j hj).2.1, (h4' j hj).2.2.1⟩
    · decide
  have hW2 : 0 ≤ sumZ (fun j => (bk B' i e kn' su' j).toInt) 60 := sumZ_nn (fun j hj => (hbk j hj).1)
  have hW3 : sumZ (fun j => (bk B' i e kn' su' j).toInt) 60 ≤ (60 : Nat) * 6200000000 := sumZ_bd (fun j hj => (hbk j hj).2)
  have eWi := smL0 (fun j hj => (hbk j hj).1) (by omega)
  obtain ⟨W, hW⟩ : ∃ W, W = smL (bk B' i e kn' su') 0 60 := ⟨_, rfl⟩
  rw [← hW] at eW eWi hb0
  refine ⟨W, _, _, ?_, ?_, s3.debt (i := ho') t0 (x := W) (by omega) (by omega) hk hk', fun c j q => gi c j q⟩
  · rw [F_X0_settle, n1, bn1_e, F_X3_forgetHeldAbove, v14, (mx_e n3 n4 hee (by omega)).2, ← haa, bnd_e, hs.2.2.2.1, drew_A hN (by omega) (by omega), bn1_e, e77, ← eX3, g1, bn2_e, bnd_e, epay, bn2_e, w9, (mx_e n3 n4 hee (by omega)).1, hs'.2.2.2.1, drew_A hN (by omega) (by omega), bn1_e, e77, ← eW, w0, gd_ib (by omega) (by omega), bnd_e, ixn (by omega)]
  · rw [n2, show (0 : Int32) = nI 0 from rfl, p1, s2, bn1_e]
    exact hb0

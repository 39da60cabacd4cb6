/-! ===== a new share ===== -/
theorem sumZ_z (n : Nat) : sumZ (fun _ => (0 : Int)) n = 0 := by
  induction n with
  | zero => rfl
  | succ n ih => rw [sumZ, ih]; rfl
set_option maxHeartbeats 8000000 in
theorem BR.growS {k : Nat} {K : KT} {m r s y : Nat} {A B A2 B2 : MM} (h : BR k K m r s y A B) (hs40 : s < 40) {ho li ra u kn su : Nat} {o : Int32} {p : Int64}
    (i0 : ho < m) (i1 : li < m) (i2 : ra < r) (i3 : 1 ≤ u) (i4 : u ≤ 1000) (i5 : kn ≤ 3) (i6 : y ≤ su) (i7 : su ≤ 90) (i8 : kn ≤ 1 → su = y) (i9 : o = -1 ∨ ∃ j, j < m ∧ o = nI j) (p0 : 0 ≤ p.toInt) (p1 : p.toInt ≤ 10000000)
    (a1 : ∀ c j, c ≠ 37 + s → ¬ (c = 1 ∧ j = 6) → gI A2 c j = gI A c j) (a2 : ∀ c j, c ≠ 37 + s → c ≠ 77 + s → ¬ (c = 31 + ra ∧ j = 3) → ¬ (c = 1 ∧ j = 12) → gL A2 c j = gL A c j) (a3 : gI A2 1 6 = nI (s + 1))
    (d0 : gI A2 (37 + s) 0 = nI ho) (d1 : gI A2 (37 + s) 1 = nI li) (d2 : gI A2 (37 + s) 2 = o) (d3 : gI A2 (37 + s) 3 = nI u) (d4 : gI A2 (37 + s) 4 = nI ra) (d5 : gI A2 (37 + s) 5 = nI kn) (d8 : gI A2 (37 + s) 8 = nI y) (d9 : gI A2 (37 + s) 9 = nI su) (d10 : gI A2 (37 + s) 10 = 0) (d12 : gI A2 (37 + s) 12 = -1) (d13 : gI A2 (37 + s) 13 = 0) (d14 : gI A2 (37 + s) 14 = nI y) (d6 : gL A2 (37 + s) 6 = p) (d7 : gL A2 (37 + s) 7 = 0) (d11 : gL A2 (37 + s) 11 = 0) (dr : ∀ j, j < 60 → gL A2 (77 + s) j = 0) (dk : gL A2 (31 + ra) 3 = gL A (31 + ra) 3 + p) (dt : gL A2 1 12 = gL A 1 12 + p)
    (b1 : ∀ q, q < 5672 → (q < 303 + 14 * s ∨ 303 + 14 * s + 14 ≤ q) → (q < 863 + 60 * s ∨ 863 + 60 * s + 60 ≤ q) → (q < 3263 + 60 * s ∨ 3263 + 60 * s + 60 ≤ q) → q ≠ 279 + 4 * ra + 3 → q ≠ 5671 → q ≠ 5670 → gL B2 1 q = gL B 1 q) (b2 : gL B2 2 = gL B 2) (b3 : gI B2 0 = gI B 0) (b4 : gL B2 1 5670 = lN (s + 1))
    (e0 : gL B2 1 (303 + 14 * s + 0) = lN ho) (e1 : gL B2 1 (303 + 14 * s + 1) = lN li) (e2 : gL B2 1 (303 + 14 * s + 2) = o.toInt64) (e3 : gL B2 1 (303 + 14 * s + 3) = lN u) (e4 : gL B2 1 (303 + 14 * s + 4) = lN ra) (e5 : gL B2 1 (303 + 14 * s + 5) = lN kn) (e6 : gL B2 1 (303 + 14 * s + 6) = p) (e7 : gL B2 1 (303 + 14 * s + 7) = 0) (e8 : gL B2 1 (303 + 14 * s + 8) = lN y) (e9 : gL B2 1 (303 + 14 * s + 9) = lN (su - y)) (e10 : gL B2 1 (303 + 14 * s + 10) = 0) (e11 : gL B2 1 (303 + 14 * s + 11) = 0) (e12 : gL B2 1 (303 + 14 * s + 12) = 0) (e13 : gL B2 1 (303 + 14 * s + 13) = 0) (er : ∀ j, j < 60 → gL B2 1 (863 + 60 * s + j) = 0 ∧ gL B2 1 (3263 + 60 * s + j) = 0) (ek : gL B2 1 (279 + 4 * ra + 3) = gL A (31 + ra) 3 + p) (et : gL B2 1 5671 = gL A 1 12 + p) : BR k K m r (s + 1) y A2 B2 := by
  obtain ⟨he, hs, ht, hmm, hkk, hh, hp, hf, hb⟩ := h
  have hc := he.1
  have c1 : m ≤ 24 := hc.1
  have c2 : r ≤ 6 := hc.2.1
  have hy : y ≤ 60 := hs.2.2.2.2.1
  have hc2 : cap m r (s + 1) := ⟨c1, c2, by omega⟩
  have eh : ∀ z, z < s → heI B2 z = heI B z := fun z hz => heI_of (fun j hj => b1 _ (by omega) (by omega) (by omega) (by omega) (by omega) (by omega) (by omega))
  have eh0 : heI B2 s = 0 := by
    unfold heI
    rw [sumZ_congr (g := fun _ => (0 : Int)) (fun j hj => by rw [(er j hj).2]; rfl)]
    exact sumZ_z 60
  refine ⟨⟨hc2, fun c j hv => ?_, fun c j hcj => ?_, by rw [b2]; exact he.2.2.2.1, by rw [b3]; exact he.2.2.2.2⟩, ?_, fun z hz => ?_, fun z hz => ?_, fun z hz => ?_, fun z hz => ?_, fun z hz => ?_, ?_, fun z hz => ?_⟩
  · by_cases x1 : c = 37 + s
    · subst x1
      have hv2 : j < 14 ∧ j ≠ 9 ∧ j ≠ 12 := by unfold val at hv; omega
      unfold rd
      rcases (show j = 0 ∨ j = 1 ∨ j = 2 ∨ j = 3 ∨ j = 4 ∨ j = 5 ∨ j = 6 ∨ j = 7 ∨ j = 8 ∨ j = 10 ∨ j = 11 ∨ j = 13 by omega) with rfl | rfl | rfl | rfl | rfl | rfl | rfl | rfl | rfl | rfl | rfl | rfl
      · rw [n_s0 hs40, e0, if_neg (by rw [t_s0 hs40]; decide), if_neg (by rw [z_s0 hs40]; decide), d0, nIw (by omega)]
      · rw [n_s1 hs40, e1, if_neg (by rw [t_s1 hs40]; decide), if_neg (by rw [z_s1 hs40]; decide), d1, nIw (by omega)]
      · rw [n_s2 hs40, e2, if_neg (by rw [t_s2 hs40]; decide), if_neg (by rw [z_s2 hs40]; decide), d2]
      · rw [n_s3 hs40, e3, if_neg (by rw [t_s3 hs40]; decide), if_neg (by rw [z_s3 hs40]; decide), d3, nIw (by omega)]
      · rw [n_s4 hs40, e4, if_neg (by rw [t_s4 hs40]; decide), if_neg (by rw [z_s4 hs40]; decide), d4, nIw (by omega)]
      · rw [n_s5 hs40, e5, if_neg (by rw [t_s5 hs40]; decide), if_neg (by rw [z_s5 hs40]; decide), d5, nIw (by omega)]
      · rw [n_s6 hs40, e6, if_pos (t_s6 hs40), d6]
      · rw [n_s7 hs40, e7, if_pos (t_s7 hs40), d7]
      · rw [n_s8 hs40, e8, if_neg (by rw [t_s8 hs40]; decide), if_neg (by rw [z_s8 hs40]; decide), d8, nIw (by omega)]
      · rw [n_s10 hs40, e10, if_neg (by rw [t_s10 hs40]; decide), if_neg (by rw [z_s10 hs40]; decide), d10]; rfl
      · rw [n_s11 hs40, e12, if_pos (t_s11 hs40), d11]
      · rw [n_s13 hs40, e13, if_neg (by rw [t_s13 hs40]; decide), if_pos (z_s13 hs40), d13]; rfl
    · by_cases x2 : c = 77 + s
      · subst x2
        have hj : j < 60 := by unfold val at hv; omega
        rw [n_d, (er j hj).1]
        unfold rd
        rw [if_pos t_d, dr j hj]
      · by_cases x3 : c = 1 ∧ j = 6
        · obtain ⟨rfl, rfl⟩ := x3
          show gL B2 1 5670 = (gI A2 1 6).toInt64
          rw [b4, a3, nIw (by omega)]
        · by_cases x4 : c = 31 + ra ∧ j = 3
          · obtain ⟨rfl, rfl⟩ := x4
            rw [n_k3 (by omega), ek]
            unfold rd
            rw [if_pos (t_k3 (by omega)), dk]
          · by_cases x5 : c = 1 ∧ j = 12
            · obtain ⟨rfl, rfl⟩ := x5
              show gL B2 1 5671 = gL A2 1 12
              rw [et, dt]
            · have hv0 : val m r s c j := by unfold val at *; omega
              have q := he.2.1 c j hv0
              have hl := enc_lt hc hv0
              have w := enc_for hc hv0
              have g1 : enc c j ≠ 5670 := fun q9 => x3 (enc_inj hc hv0 v_sc6 q9)
              have g2 : enc c j ≠ 5671 := fun q9 => x5 (enc_inj hc hv0 v_sc12 q9)
              have g3 : enc c j ≠ 279 + 4 * ra + 3 := fun q9 => x4 (enc_inj hc hv0 (v_k3 i2) (by rw [n_k3 (by omega)]; exact q9))
              have g4 : (enc c j < 303 + 14 * s ∨ 303 + 14 * s + 14 ≤ enc c j) ∧ (enc c j < 863 + 60 * s ∨ 863 + 60 * s + 60 ≤ enc c j) ∧ (enc c j < 3263 + 60 * s ∨ 3263 + 60 * s + 60 ≤ enc c j) := by
                unfold val at hv0
                omega
              rw [b1 _ hl g4.1 g4.2.1 g4.2.2 g3 g2 g1, q, rd_of (a1 c j x1 x3) (a2 c j x1 x2 x4 x5)]
  · have q := he.2.2.1 c j hcj
    rw [a1 c j (by omega) (by omega), a2 c j (by omega) (by omega) (by omega) (by omega)]
    exact q
  · unfold R_s at *
    rw [a1 1 4 (by omega) (by omega), a1 1 5 (by omega) (by omega), a1 1 7 (by omega) (by omega), a1 1 9 (by omega) (by omega)]
    exact ⟨hs.1, hs.2.1, a3, hs.2.2.2⟩
  · rw [a1 3 z (by omega) (by omega)]
    exact ht z hz
  · rw [a1 _ 0 (by omega) (by omega), a1 _ 3 (by omega) (by omega), a1 _ 6 (by omega) (by omega)]
    exact hmm z hz
  · have q := hkk z hz
    rw [a1 _ 0 (by omega) (by omega), a1 _ 1 (by omega) (by omega), a1 _ 2 (by omega) (by omega)]
    refine ⟨q.1, q.2.1, q.2.2.1, ?_⟩
    by_cases x : z = ra
    · subst x
      rw [dk, fb_addL (by omega) (by omega)]
      omega
    · rw [a2 _ _ (by omega) (by omega) (by omega) (by omega)]
      omega
  · by_cases x : z = s
    · subst x
      refine ⟨by unfold R_o; rw [d2]; exact i9, ho, li, ra, u, kn, y, su, 0, y, ⟨d0, d1, d4, d3, d5, d8, d9, d10, d14, i0, i1, i2, i3, i4, i5, Nat.le_refl _, i6, i7, i8, Nat.zero_le _, Nat.le_refl _⟩, e9, fun _ => rfl, fun j hj => ?_⟩
      rw [(er j hj).2, dr j hj]
      refine ⟨?_, by decide, by decide, fun _ => rfl, fun _ => rfl⟩
      split <;> rfl
    · obtain ⟨h0, ho, li, ra2, u, kn, si, su, un, hf2, h1, h2, h3, h4⟩ := hh z (by omega)
      refine ⟨?_, ho, li, ra2, u, kn, si, su, un, hf2, ?_, ?_, ?_, fun j hj => ?_⟩
      · unfold R_o at *
        rw [a1 _ _ (by omega) (by omega)]
        exact h0
      · unfold R_v at *
        rw [a1 _ 0 (by omega) (by omega), a1 _ 1 (by omega) (by omega), a1 _ 4 (by omega) (by omega), a1 _ 3 (by omega) (by omega), a1 _ 5 (by omega) (by omega), a1 _ 8 (by omega) (by omega), a1 _ 9 (by omega) (by omega), a1 _ 10 (by omega) (by omega), a1 _ 14 (by omega) (by omega)]
        exact h1
      · rw [b1 _ (by omega) (by omega) (by omega) (by omega) (by omega) (by omega) (by omega)]
        exact h2
      · rintro (q | q)
        · refine h3 (Or.inl ?_)
          obtain ⟨j, j1, j2, j3⟩ := q
          rw [a1 _ _ (by omega) (by omega), a1 _ _ (by omega) (by omega)] at j2
          rw [a1 _ _ (by omega) (by omega)] at j3
          exact ⟨j, j1, j2, j3⟩
        · exact h3 (Or.inr q)
      · rw [b1 _ (by omega) (by omega) (by omega) (by omega) (by omega) (by omega) (by omega), a2 _ _ (by omega) (by omega) (by omega) (by omega)]
        exact h4 j hj
  · by_cases x : z = s
    · subst x
      exact ⟨0, by omega, e11, Or.inr ⟨d12, d11⟩⟩
    · obtain ⟨q, q1, q2, q3⟩ := hp z (by omega)
      refine ⟨q, q1, ?_, ?_⟩
      · rw [b1 _ (by omega) (by omega) (by omega) (by omega) (by omega) (by omega) (by omega)]
        exact q2
      · rw [a1 _ _ (by omega) (by omega), a2 _ _ (by omega) (by omega) (by omega) (by omega)]
        exact q3
  · unfold R_f at *
    rw [a2 _ _ (by omega) (by omega) (by omega) (by omega), sumZ, eh0, sumZ_congr eh]
    omega
  · rw [a2 _ _ (by omega) (by omega) (by omega) (by omega)]
    exact hb z hz
theorem fill_loop {N c : Nat} : ∀ (fu j : Nat) (A : MM), j ≤ 60 → 60 < j + fu → ∃ A1, F_J7_fill_d0a16_6 N c 0 fu (nI j) 60 A = some A1 ∧ (∀ c' q, gL A1 c' q = if c' = c ∧ j ≤ q ∧ q < 60 then 0 else gL A c' q) ∧ gI A1 = gI A := by
  intro fu
  induction fu with
  | zero => intro j A h1 h2; omega
  | succ fu ih =>
    intro j A h1 h2
    rw [F_J7_fill_d0a16_6]
    have e60 : ((60 : Int32) ≤ nI j) = (60 ≤ j) := nIl (a := 60) (by omega) (by omega)
    simp only [e60]
    by_cases hj : 60 ≤ j
    · rw [if_pos hj]
      exact ⟨A, rfl, fun c' q => by rw [if_neg (by omega)], rfl⟩
    · rw [if_neg hj, gd_ib (by omega) (by omega), bnd_e, ixn (by omega), nI_1]
      obtain ⟨A1, q1, q2, q3⟩ := ih (j + 1) (sL A c j 0) (by omega) (by omega)
      refine ⟨A1, q1, fun c' q => ?_, q3⟩
      rw [q2 c' q, gLs]
      by_cases e1 : c' = c ∧ q = j
      · rw [if_neg (by omega), if_pos e1, if_pos (by omega)]
      · rw [if_neg e1]
        by_cases e2 : c' = c ∧ j + 1 ≤ q ∧ q < 60
        · rw [if_pos e2, if_pos (by omega)]
        · rw [if_neg e2, if_neg (by omega)]
section BuyLoops
variable {N s : Nat} {x1 x2 x3 x4 x5 x6 ra : Int32}
theorem buy_l1 (hs : s < 40) : ∀ (fu j : Nat) (B : MM), j ≤ 14 → 14 < j + fu → ∃ B1, F_X6_buy_207 N x1 x2 x3 x4 x5 x6 fu ra (nI s) (nI j) B = F_X6_buy_236 N x1 x2 x3 x4 x5 x6 N ra (nI s) 0 B1 ∧ (∀ q, gL B1 1 q = if 303 + 14 * s + j ≤ q ∧ q < 303 + 14 * s + 14 then 0 else gL B 1 q) ∧ gL B1 2 = gL B 2 ∧ gI B1 = gI B := by
  intro fu
  induction fu with
  | zero => intro j B h1 h2; omega
  | succ fu ih =>
    intro j B h1 h2
    rw [F_X6_buy_207]
    have e14 : ((14 : Int32) ≤ nI j) = (14 ≤ j) := nIl (a := 14) (by omega) (by omega)
    simp only [e14]
    by_cases hj : 14 ≤ j
    · rw [if_pos hj]
      exact ⟨B, rfl, fun q => by rw [if_neg (by omega)], rfl, rfl⟩
    · rw [if_neg hj, partx, gd_ib (by omega) (by omega), bnd_e, ixn (by omega), nI_1]
      obtain ⟨B1, q1, q2, q3, q4⟩ := ih (j + 1) (sL B 1 (303 + 14 * s + j) 0) (by omega) (by omega)
      refine ⟨B1, q1, fun q => ?_, by rw [q3, gL_ne (by decide)], q4⟩
      rw [q2 q, gLs]
      by_cases e1 : q = 303 + 14 * s + j
      · subst e1
        rw [if_neg (by omega), if_pos ⟨rfl, rfl⟩, if_pos (by omega)]
      · rw [if_neg (by omega : ¬ (1 = 1 ∧ q = 303 + 14 * s + j))]
        by_cases e2 : 303 + 14 * s + (j + 1) ≤ q ∧ q < 303 + 14 * s + 14
        · rw [if_pos e2, if_pos (by omega)]
        · rw [if_neg e2, if_neg (by omega)]
theorem buy_l2 (hs : s < 40) : ∀ (fu j : Nat) (B : MM), j ≤ 60 → 60 < j + fu → ∃ B1, F_X6_buy_236 N x1 x2 x3 x4 x5 x6 fu ra (nI s) (nI j) B = F_X6_buy_236 N x1 x2 x3 x4 x5 x6 1 ra (nI s) (nI 60) B1 ∧ (∀ q, gL B1 1 q = if (863 + 60 * s + j ≤ q ∧ q < 863 + 60 * s + 60) ∨ (3263 + 60 * s + j ≤ q ∧ q < 3263 + 60 * s + 60) then 0 else gL B 1 q) ∧ gL B1 2 = gL B 2 ∧ gI B1 = gI B := by
  intro fu
  induction fu with
  | zero => intro j B h1 h2; omega
  | succ fu ih =>
    intro j B h1 h2
    by_cases hj : 60 ≤ j
    · have : j = 60 := by omega
      subst this
      refine ⟨B, ?_, fun q => by rw [if_neg (by omega)], rfl, rfl⟩
      rw [F_X6_buy_236, F_X6_buy_236, if_pos (by decide), if_pos (by decide)]
    · have e60 : ((60 : Int32) ≤ nI j) = (60 ≤ j) := nIl (a := 60) (by omega) (by omega)
      obtain ⟨B1, q1, q2, q3, q4⟩ := ih (j + 1) (sL (sL B 1 (863 + 60 * s + j) 0) 1 (3263 + 60 * s + j) 0) (by omega) (by omega)
      refine ⟨B1, ?_, fun q => ?_, by rw [q3, gL_ne (by decide), gL_ne (by decide)], q4⟩
      · rw [F_X6_buy_236, if_neg (by rw [e60]; exact hj), drx, gd_ib (by omega) (by omega), bnd_e, ixn (by omega), hex, gd_ib (by omega) (by omega), bnd_e, ixn (by omega), nI_1]
        exact q1
      · rw [q2 q]
        by_cases e1 : q = 863 + 60 * s + j ∨ q = 3263 + 60 * s + j
        · rw [if_pos (by omega : (863 + 60 * s + j ≤ q ∧ q < 863 + 60 * s + 60) ∨ (3263 + 60 * s + j ≤ q ∧ q < 3263 + 60 * s + 60))]
          split
          · rfl
          · rw [gLs]
            split
            · rfl
            · rw [gLs]
              split
              · rfl
              · omega
        · rw [gLn (by omega), gLn (by omega)]
          by_cases e2 : (863 + 60 * s + (j + 1) ≤ q ∧ q < 863 + 60 * s + 60) ∨ (3263 + 60 * s + (j + 1) ≤ q ∧ q < 3263 + 60 * s + 60)
          · rw [if_pos e2, if_pos (by omega)]
          · rw [if_neg e2, if_neg (by omega)]
end BuyLoops

/-! ===== what a write leaves as it was ===== -/
section Frames
variable {m r s y c j k i : Nat} {A B : MM}
theorem R_s.fI {v : Int32} (h : R_s m r s y A) (hc : c ≠ 1 ∨ j = 8) : R_s m r s y (sI A c j v) := by
  unfold R_s at *
  simp (disch := omega) only [gIn]
  exact h
theorem R_s.fL {v : Int64} (h : R_s m r s y A) : R_s m r s y (sL A c j v) := h
theorem R_t.fI {v : Int32} (h : R_t A) (hc : c ≠ 3) : R_t (sI A c j v) := fun x hx => by
  simp (disch := omega) only [gIn]
  exact h x hx
theorem R_t.fL {v : Int64} (h : R_t A) : R_t (sL A c j v) := h
theorem R_m.fI {v : Int32} (h : R_m m A) (hm : m ≤ 24) (hc : c < 7 ∨ 31 ≤ c ∨ (j ≠ 0 ∧ j ≠ 3 ∧ j ≠ 6)) : R_m m (sI A c j v) := fun i hi => by
  simp (disch := omega) only [gIn]
  exact h i hi
theorem R_m.fL {v : Int64} (h : R_m m A) : R_m m (sL A c j v) := h
theorem R_k.fI {v : Int32} (h : R_k r s A) (hr : r ≤ 6) (hc : c < 31 ∨ 37 ≤ c ∨ 3 ≤ j) : R_k r s (sI A c j v) := fun i hi => by
  simp (disch := omega) only [gIn, gLsI]
  exact h i hi
theorem R_k.fL {v : Int64} (h : R_k r s A) (hr : r ≤ 6) (hc : c < 31 ∨ 37 ≤ c ∨ j ≠ 3) : R_k r s (sL A c j v) := fun i hi => by
  simp (disch := omega) only [gLn, gIsL]
  exact h i hi
theorem prv_fI {v : Int32} (hm : m ≤ 24) (hc : c ≠ 37 + i ∨ (j ≠ 1 ∧ j ≠ 2)) (hp : c < 7 ∨ 31 ≤ c ∨ j ≠ 4) : prv m (sI A c j v) i ↔ prv m A i := by
  unfold prv
  have e1 : gI (sI A c j v) (37 + i) 1 = gI A (37 + i) 1 := gIn (by omega)
  have e2 : gI (sI A c j v) (37 + i) 2 = gI A (37 + i) 2 := gIn (by omega)
  rw [e1, e2]
  constructor
  · rintro ⟨q, h1, h2, h3⟩
    exact ⟨q, h1, h2, by rw [gIn (by omega)] at h3; exact h3⟩
  · rintro ⟨q, h1, h2, h3⟩
    exact ⟨q, h1, h2, by rw [gIn (by omega)]; exact h3⟩
theorem R_h.fI {v : Int32} (h : R_h m r y A B i) (hm : m ≤ 24) (hc : c ≠ 37 + i ∨ j = 12 ∨ j = 13) (hp : c < 7 ∨ 31 ≤ c ∨ j ≠ 4) : R_h m r y (sI A c j v) B i := by
  obtain ⟨h0, ho, li, ra, u, kn, si, su, un, hf, h1, h2, h3, h4⟩ := h
  refine ⟨?_, ho, li, ra, u, kn, si, su, un, hf, ?_, h2, ?_, fun q hq => ?_⟩
  · unfold R_o at *
    simp (disch := omega) only [gIn]
    exact h0
  · unfold R_v at *
    simp (disch := omega) only [gIn]
    exact h1
  · rw [prv_fI hm (by omega) hp]
    exact h3
  · simp only [gLsI]
    exact h4 q hq
theorem R_h.fL {v : Int64} (h : R_h m r y A B i) (hc : c < 77) : R_h m r y (sL A c j v) B i := by
  obtain ⟨h0, ho, li, ra, u, kn, si, su, un, hf, h1, h2, h3, h4⟩ := h
  refine ⟨h0, ho, li, ra, u, kn, si, su, un, hf, h1, h2, h3, fun q hq => ?_⟩
  simp (disch := omega) only [gLn]
  exact h4 q hq
theorem R_h.fB {v : Int64} (h : R_h m r y A B i) (hi : i < 40) (hj : j ≠ 303 + 14 * i + 9) (hh : j < 3263 ∨ 5663 ≤ j) : R_h m r y A (sL B 1 j v) i := by
  obtain ⟨h0, ho, li, ra, u, kn, si, su, un, hf, h1, h2, h3, h4⟩ := h
  refine ⟨h0, ho, li, ra, u, kn, si, su, un, hf, h1, ?_, h3, fun q hq => ?_⟩
  · rw [gLn (by omega)]
    exact h2
  · rw [gLn (by omega)]
    exact h4 q hq
theorem R_p.fI {v : Int32} (h : R_p m A B i) (hc : c ≠ 37 + i ∨ j ≠ 12) : R_p m (sI A c j v) B i := by
  unfold R_p at *
  simp (disch := omega) only [gIn, gLsI]
  exact h
theorem R_p.fL {v : Int64} (h : R_p m A B i) (hc : c ≠ 37 + i ∨ j ≠ 11) : R_p m (sL A c j v) B i := by
  unfold R_p at *
  simp (disch := omega) only [gLn, gIsL]
  exact h
theorem R_p.fB {v : Int64} (h : R_p m A B i) (hj : j ≠ 303 + 14 * i + 11) : R_p m A (sL B 1 j v) i := by
  unfold R_p at *
  simp (disch := omega) only [gLn]
  exact h
theorem R_f.fI {v : Int32} (h : R_f s y A B) : R_f s y (sI A c j v) B := h
theorem R_f.fL {v : Int64} (h : R_f s y A B) (hc : c ≠ 1 ∨ j ≠ 10) : R_f s y (sL A c j v) B := by
  unfold R_f at *
  simp (disch := omega) only [gLn]
  exact h
theorem heI_fB {v : Int64} (hi : i < 40) (hh : j < 3263 ∨ 5663 ≤ j) : heI (sL B 1 j v) i = heI B i := by
  unfold heI
  exact sumZ_congr (fun q hq => by rw [gLn (by omega)])
theorem R_f.fB {v : Int64} (h : R_f s y A B) (hs : s ≤ 40) (hh : j < 3263 ∨ 5663 ≤ j) : R_f s y A (sL B 1 j v) := by
  unfold R_f at *
  rw [sumZ_congr (f := heI (sL B 1 j v)) (g := heI B) (fun i hi => heI_fB (by omega) hh)]
  exact h
theorem R_b.fI {v : Int32} (h : R_b k m A) : R_b k m (sI A c j v) := h
theorem R_b.fL {v : Int64} (h : R_b k m A) (hm : m ≤ 24) (hc : c < 7 ∨ 31 ≤ c ∨ j ≠ 2) : R_b k m (sL A c j v) := fun i hi => by
  simp (disch := omega) only [gLn]
  exact h i hi
end Frames
/-! ===== the table ===== -/
section Table
variable {K : KT} {m r s y k N : Nat} {A B : MM}
theorem at_A {q : Nat} (hq : q ≤ 110) : F_X4_at N 2 (nI q) A = some ((gI A 3 q).toInt64) := by
  rw [F_X4_at, age_A, ib_nI (by omega) (by omega), if_neg (by decide), gd_t rfl, ixn (by omega)]
theorem toInt64_toInt (x : Int32) : x.toInt64.toInt = x.toInt := Int32.toInt_toInt64 x
theorem later_sim (e : Eqv K m r s A B) (t : R_t A) : ∀ (fu : Nat) (v : Int64) (j : Nat) (x x' : Int32), j ≤ 111 → 111 < j + fu → 0 ≤ v.toInt → v.toInt ≤ j * 100000 → ∃ w, F_X4_sumAbove_7 N 2 x fu v (nI j) A = some w ∧ F_X6_later_7 N x' fu v (nI j) B = some w ∧ 0 ≤ w.toInt ∧ w.toInt ≤ 11100000 := by
  intro fu
  induction fu with
  | zero => intro v j x x' h1 h2; omega
  | succ fu ih =>
    intro v j x x' h1 h2 h3 h4
    rw [F_X4_sumAbove_7, F_X6_later_7]
    have ec : ((110 : Int32) < nI j) = (110 < j) := nIlt (a := 110) (by omega) (by omega)
    by_cases hj : 110 < j
    · rw [if_pos (ec ▸ hj), if_pos (ec ▸ hj)]
      exact ⟨v, rfl, rfl, h3, by omega⟩
    · rw [if_neg (ec ▸ hj), if_neg (ec ▸ hj), at_A (by omega), bn1_e, bnd_e, Int32.zero_add, gd_ib (by omega) (by omega), bnd_e, ixn (by omega), e.tb (by omega), nI_1]
      have q := t j (by omega)
      have e1 := toInt64_toInt (gI A 3 j)
      have e2 : (v + (gI A 3 j).toInt64).toInt = v.toInt + (gI A 3 j).toInt := by rw [fb_addL (by omega) (by omega), e1]
      exact ih _ (j + 1) x x' (by omega) (by omega) (by omega) (by omega)
theorem sum_sim (hN : 6000 ≤ N) (e : Eqv K m r s A B) (t : R_t A) {q : Nat} (hq : q ≤ 110) : ∃ w, F_X4_sumAbove N 2 (nI q) A = some w ∧ F_X6_later N (nI q) B = some w ∧ 0 ≤ w.toInt ∧ w.toInt ≤ 11100000 := by
  rw [F_X4_sumAbove, F_X6_later, bnd_e, bnd_e, nI_1]
  exact later_sim e t N 0 (q + 1) _ _ (by omega) (by omega) (by decide) (by show (0 : Int) ≤ _; omega)
theorem NO2 {P : MM → MM → Prop} (hB : BR k K m r s y A B) (hP : P A B) : ∃ A' B' m' r' s' y', P A' B' ∧ BR (k + 1) K m' r' s' y' A' B' := ⟨A, B, m, r, s, y, hP, hB.up⟩
end Table
theorem bIt {α : Type} {x z : α} : (if bI true = (0 : Int32) then x else z) = z := rfl
theorem bIf {α : Type} {x z : α} : (if bI false = (0 : Int32) then x else z) = x := rfl
theorem i64 {x z : Int64} (h : x.toInt = z.toInt) : x = z := Int64.toInt_inj.mp h
theorem sim_mean {N : Nat} (hN : 6000 ≤ N) : Sim_mean N Rel := by
  intro k n A B hk hR x1
  have hR2 := hR.up
  obtain ⟨hn, K, m, r, s, y, hB, -, -⟩ := hR
  obtain ⟨he, hs, ht, hm, hkk, hh, hp, hf, hb⟩ := hB
  rw [F_X5_mean, F_X6_mean, age_A, age_B]
  cases hx : ib x1 111 with
  | false => exact ⟨_, rfl, rfl, hR2⟩
  | true =>
    obtain ⟨q, hq, rfl⟩ := ib_of hx (by omega)
    obtain ⟨w, h1, h2, h3, h4⟩ := sum_sim hN he ht (q := q) (by omega)
    have hz := ht q (by omega)
    simp (disch := omega) only [bIt, h1, h2, bn1_e, at_A, Int32.zero_add, gd_ib, ixn, he.tb]
    by_cases h0 : (gI A 3 q).toInt64 = 0
    · rw [if_pos h0, h0]
      exact ⟨0, rfl, rfl, hR2⟩
    · have hpos : ¬ (gI A 3 q).toInt64 ≤ 0 := by
        rw [Int64.le_iff_toInt_le, toInt64_toInt, show (0 : Int64).toInt = 0 from rfl]
        intro q9
        exact h0 (i64 (by rw [toInt64_toInt, show (0 : Int64).toInt = 0 from rfl]; omega))
      rw [if_neg h0, gd_t (by simp [nz, h0]), F_X5_parted, if_neg hpos]
      exact ⟨_, rfl, rfl, hR2⟩
theorem sim_foretell {N : Nat} (hN : 6000 ≤ N) : Sim_foretell N Rel := by
  intro k n A B hk hR x1 x2
  have hR2 := hR.up
  obtain ⟨hn, K, m, r, s, y, hB, -, -⟩ := hR
  obtain ⟨he, hs, ht, hm, hkk, hh, hp, hf, hb⟩ := hB
  rw [F_X5_foretell, F_X6_foretell, age_A, age_B]
  cases hx : ib x1 111 with
  | false => exact ⟨_, rfl, rfl, hR2⟩
  | true =>
    obtain ⟨q, hq, rfl⟩ := ib_of hx (by omega)
    simp only [bIt]
    by_cases h0 : (0 : Int32) ≤ x2
    · rw [if_pos h0, if_pos h0]
      simp (disch := omega) only [Int32.zero_add, gd_ib, bnd_e, ixn, he.tb]
      have e1 : ((110 : Int32) - nI q).toInt = 110 - (q : Int) := pk_sub_toInt (a := 110) (b := q) (by omega) (by omega)
      have h00 : 0 ≤ x2.toInt := by
        have := Int32.le_iff_toInt_le.mp h0
        exact this
      by_cases h1 : x2 ≤ (110 : Int32) - nI q
      · have h2 := Int32.le_iff_toInt_le.mp h1
        rw [e1] at h2
        obtain ⟨j, hj, rfl⟩ := ib_of (x := x2) (n := 111) (ibm.mpr (by omega)) (by omega)
        rw [nI_toInt (by omega)] at h2
        rw [if_pos h1, if_pos h1]
        simp (disch := omega) only [nI_add, at_A, bn1_e, gd_ib, ixn, he.tb]
        have hz := ht q (by omega)
        by_cases h5 : (gI A 3 q).toInt64 = 0
        · rw [if_pos h5, h5]
          exact ⟨0, rfl, rfl, hR2⟩
        · have hpos : ¬ (gI A 3 q).toInt64 ≤ 0 := by
            rw [Int64.le_iff_toInt_le, toInt64_toInt, show (0 : Int64).toInt = 0 from rfl]
            intro q9
            exact h5 (i64 (by rw [toInt64_toInt, show (0 : Int64).toInt = 0 from rfl]; omega))
          rw [if_neg h5, gd_t (by simp [nz, h5]), F_X5_parted, if_neg hpos]
          exact ⟨_, rfl, rfl, hR2⟩
      · rw [if_neg h1, if_neg h1]
        refine ⟨0, rfl, ?_, hR2⟩
        split <;> rfl
    · rw [if_neg h0, if_neg h0]
      exact ⟨_, rfl, rfl, hR2⟩
theorem sim_dearer {N : Nat} (hN : 6000 ≤ N) : Sim_dearer N Rel := by
  intro k n A B hk hR x1 x2
  have hR2 := hR.up
  obtain ⟨hn, K, m, r, s, y, hB, -, -⟩ := hR
  obtain ⟨he, hs, ht, hm, hkk, hh, hp, hf, hb⟩ := hB
  have hc := he.1
  have c1 : m ≤ 24 := hc.1
  have c2 : r ≤ 6 := hc.2.1
  have c3 : s ≤ 40 := hc.2.2
  rw [F_X5_dearer, F_X6_dearer, isR_A hs.2.1 (by omega), isR_A hs.2.1 (by omega), isR_B (he.cr hs) (by omega), isR_B (he.cr hs) (by omega)]
  cases hx : ib x1 r with
  | false => exact ⟨_, rfl, rfl, hR2⟩
  | true =>
    simp only [bIt]
    cases hx2 : ib x2 r with
    | false => exact ⟨_, rfl, rfl, hR2⟩
    | true =>
      simp only [bIt]
      obtain ⟨p, hp1, rfl⟩ := ib_of hx (by omega)
      obtain ⟨q, hq1, rfl⟩ := ib_of hx2 (by omega)
      obtain ⟨⟨l1, u1, hl1, hu1, g1, g1'⟩, -⟩ := hkk p hp1
      obtain ⟨⟨l2, u2, hl2, hu2, g2, g2'⟩, -⟩ := hkk q hq1
      obtain ⟨w1, a1, b1, d1, f1⟩ := sum_sim hN he ht hl1
      obtain ⟨w2, a2, b2, d2, f2⟩ := sum_sim hN he ht hl2
      simp (disch := omega) only [gd_ib, ixn, g1, g2, a1, a2, b1, b2, bn1_e, bnd_e, groupCell_0, groupCell_2, he.k0 hp1, he.k0 hq1, he.k2 hp1, he.k2 hq1, nIw, lNi, at_A, Int32.zero_add, he.tb]
      have z0 : (0 : Int64).toInt = 0 := rfl
      by_cases h1 : w1 = 0
      · rw [if_pos h1, if_pos h1, h1]
        by_cases h2 : w2 = 0
        · rw [h2, if_pos rfl]
          exact ⟨_, rfl, rfl, hR2⟩
        · rw [if_neg (fun q => h2 q.symm), F_X5_sign, if_neg]
          · exact ⟨_, rfl, rfl, hR2⟩
          · rw [Int64.le_iff_toInt_le, z0]
            intro q9
            exact h2 (i64 (by rw [z0]; omega))
      · rw [if_neg h1, if_neg h1]
        by_cases h2 : w2 = 0
        · rw [if_pos h2, if_pos h2, h2, if_neg h1, F_X5_sign, if_pos, if_neg]
          · exact ⟨_, rfl, rfl, hR2⟩
          · rw [Int64.le_iff_toInt_le, z0]
            intro q9
            exact h1 (i64 (by rw [z0]; omega))
          · rw [Int64.le_iff_toInt_le, z0]
            omega
        · rw [if_neg h2, if_neg h2, F_X5_sign]
          refine ⟨_, rfl, ?_, hR2⟩
          split
          · split <;> rfl
          · rfl

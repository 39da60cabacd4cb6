/-! ===== a death is learnt ===== -/
theorem smL_cut {f g : Nat → Int64} {a b : Nat} (hb : b ≤ 60) (h : ∀ z, z < 60 → g z = if a ≤ z ∧ z < b then f z else 0) : smL g 0 60 = smL f a (b - a) := by
  by_cases hab : a ≤ b
  · have e1 : smL g 0 60 = smL g 0 (a + ((b - a) + (60 - b))) := by rw [show a + ((b - a) + (60 - b)) = 60 by omega]
    rw [e1, smL_app, smL_app, smL_zero (f := g) (a := 0) (n := a), smL_zero (f := g) (a := 0 + a + (b - a)) (n := 60 - b), Int64.zero_add, Int64.add_zero, Nat.zero_add]
    · apply smL_congr
      intro j hj
      rw [h (a + j) (by omega), if_pos (by omega)]
    · intro j hj
      rw [h _ (by omega), if_neg (by omega)]
    · intro j hj
      rw [h _ (by omega), if_neg (by omega)]
  · rw [show b - a = 0 by omega, smL, smL_zero]
    intro j hj
    rw [h _ (by omega), if_neg (by omega)]
theorem sumZ_add {f g h : Nat → Int} : ∀ {n : Nat}, (∀ i, i < n → h i = f i + g i) → sumZ h n = sumZ f n + sumZ g n
  | 0, _ => rfl
  | n + 1, q => by
    rw [sumZ, sumZ, sumZ, sumZ_add (fun i hi => q i (by omega)), q n (by omega)]
    omega
theorem sumZ_bd {f : Nat → Int} {b : Int} : ∀ {n : Nat}, (∀ i, i < n → f i ≤ b) → sumZ f n ≤ n * b
  | 0, _ => by rw [sumZ]; omega
  | n + 1, q => by
    have h1 := sumZ_bd (f := f) (b := b) (n := n) (fun i hi => q i (by omega))
    have h2 := q n (by omega)
    rw [sumZ, show ((n + 1 : Nat) : Int) = (n : Int) + 1 by omega, Int.add_mul]
    omega
theorem smL0 {f : Nat → Int64} (h : ∀ j, j < 60 → 0 ≤ (f j).toInt) (hb : sumZ (fun j => (f j).toInt) 60 ≤ 1000000000000000) : (smL f 0 60).toInt = sumZ (fun j => (f j).toInt) 60 := by
  have e : sumZ (fun j => (f j).toInt) 60 = sumZ (fun j => (f (0 + j)).toInt) 60 := sumZ_congr (fun j _ => by rw [Nat.zero_add])
  rw [e] at hb ⊢
  exact smL_toInt (fun j hj => by rw [Nat.zero_add]; exact h j hj) hb
section MSteps2
variable {k : Int} {K : KT} {m r s y : Nat} {P : Nat → Prop} {A B : MM}
theorem MS.m6 (h : MS k K m r s y P A B) {i : Nat} (hi : i < m) {v : Int32} (h1 : -110 ≤ v.toInt) (h2 : v.toInt ≤ 60) : MS k K m r s y P (sI A (7 + i) 6 v) (sL B 1 (111 + 7 * i + 6) v.toInt64) := by
  obtain ⟨he, hs, ht, hm, hkk, hh, hp, hf, hb⟩ := h
  have c1 : m ≤ 24 := he.1.1
  have c2 : r ≤ 6 := he.1.2.1
  have c3 : s ≤ 40 := he.1.2.2
  refine ⟨he.I (v_m6 hi) (t_m6 (by omega)) (z_m6 (by omega)) _ (n_m6 (by omega)) rfl, hs.fI (by omega), ht.fI (by omega), fun z hz => ?_, hkk.fI c2 (by omega), fun q hq => ((hh q hq).fI (by omega)).fB (by omega) (by omega) (by omega), fun q hq => ((hp q hq).fI (by omega)).fB (by omega), (R_f.fI hf).fB c3 (by omega), hb.fI⟩
  have q := hm z hz
  rw [gIn (by omega : ¬ (7 + z = 7 + i ∧ 0 = 6)), gIn (by omega : ¬ (7 + z = 7 + i ∧ 3 = 6))]
  refine ⟨q.1, q.2.1, q.2.2.1, ?_⟩
  rw [gIs]
  split
  · exact ⟨h1, h2⟩
  · exact q.2.2.2
theorem MS.debt {k' : Int} (h : MS k K m r s y P A B) {i : Nat} (hi : i < m) {x : Int64} (h1 : 0 ≤ x.toInt) (h2 : x.toInt ≤ 400000000000) (hk : k ≤ 20000000000000000) (hk' : k + 400000000000 ≤ k') : MS k' K m r s y P (sL A (7 + i) 2 (gL A (7 + i) 2 + x)) (sL B 1 (111 + 7 * i + 2) (gL B 1 (111 + 7 * i + 2) + x)) := by
  obtain ⟨he, hs, ht, hm, hkk, hh, hp, hf, hb⟩ := h
  have c1 : m ≤ 24 := he.1.1
  have c2 : r ≤ 6 := he.1.2.1
  have c3 : s ≤ 40 := he.1.2.2
  rw [he.m2 hi]
  refine ⟨he.L (v_m2 hi) (t_m2 (by omega)) _ (n_m2 (by omega)), hs.fL, ht.fL, hm.fL, hkk.fL c2 (by omega), fun q hq => ((hh q hq).fL (by omega)).fB (by omega) (by omega) (by omega), fun q hq => ((hp q hq).fL (by omega)).fB (by omega), (hf.fL (by omega)).fB c3 (by omega), fun z hz => ?_⟩
  have q := hb z hz
  rw [gLs]
  split
  · next e =>
    obtain ⟨e1, -⟩ := e
    have e2 : z = i := by omega
    subst e2
    rw [fb_addL (by omega) (by omega)]
    omega
  · omega
end MSteps2
section Ends
variable {N i : Nat}
/-- what the reference holds at a year up to the end, and what above it -/
def lo (B : MM) (i e : Nat) (z : Nat) : Int64 := if e ≤ z then 0 else gL B 1 (3263 + 60 * i + z)
def hi' (B : MM) (i e : Nat) (z : Nat) : Int64 := if e ≤ z then gL B 1 (3263 + 60 * i + z) else 0
theorem ends_loop (hi : i < 40) {e : Nat} {E : Int64} (hE : ∀ j, j < 60 → (lN j ≤ E ↔ j < e)) : ∀ (fu j : Nat) (v : Int64) (B : MM), j ≤ 60 → 60 < j + fu → ∃ B1, F_X6_ends_79 N (nI i) fu E v (nI j) B = bn1 (F_X6_pays N (nI i) (v + smL (lo B i e) j (60 - j)) B1) (fun M11 => F_X6_ends_193 N (nI i) N E (0 : Int64) (0 : Int32) M11) ∧ (∀ q, (q < 3263 + 60 * i + j ∨ 3263 + 60 * i + 60 ≤ q) → (q < 863 + 60 * i + j ∨ 863 + 60 * i + 60 ≤ q) → q ≠ 5664 → gL B1 1 q = gL B 1 q) ∧ gL B1 1 5664 = gL B 1 5664 + smL (hi' B i e) j (60 - j) ∧ (∀ z, j ≤ z → z < 60 → gL B1 1 (3263 + 60 * i + z) = 0 ∧ gL B1 1 (863 + 60 * i + z) = gL B 1 (863 + 60 * i + z) - hi' B i e z) ∧ gL B1 2 = gL B 2 ∧ gI B1 = gI B := by
  intro fu
  induction fu with
  | zero => intro j v B h1 h2; omega
  | succ fu ih =>
    intro j v B h1 h2
    rw [F_X6_ends_79]
    have e60 : ((60 : Int32) ≤ nI j) = (60 ≤ j) := nIl (a := 60) (by omega) (by omega)
    simp only [e60]
    by_cases hj : 60 ≤ j
    · rw [if_pos hj, show 60 - j = 0 by omega, smL, smL, Int64.add_zero, Int64.add_zero]
      exact ⟨B, rfl, fun q _ _ _ => rfl, rfl, fun z h3 h4 => by omega, rfl, rfl⟩
    · rw [if_neg hj, bnd_e, hex, drx, nIw (by omega)]
      simp (disch := omega) only [gd_ib, bnd_e, ixn, nI_1]
      rw [show 60 - j = (60 - (j + 1)) + 1 by omega, smL_one, smL_one]
      by_cases hc : j < e
      · rw [if_pos ((hE j (by omega)).mpr hc)]
        obtain ⟨B1, q1, q2, q3, q4, q5, q6⟩ := ih (j + 1) (v + gL B 1 (3263 + 60 * i + j)) (sL B 1 (3263 + 60 * i + j) 0) (by omega) (by omega)
        have el : smL (lo (sL B 1 (3263 + 60 * i + j) 0) i e) (j + 1) (60 - (j + 1)) = smL (lo B i e) (j + 1) (60 - (j + 1)) := smL_congr (fun z hz => by unfold lo; rw [gLn (by omega)])
        have eh : smL (hi' (sL B 1 (3263 + 60 * i + j) 0) i e) (j + 1) (60 - (j + 1)) = smL (hi' B i e) (j + 1) (60 - (j + 1)) := smL_congr (fun z hz => by unfold hi'; rw [gLn (by omega)])
        have el0 : lo B i e j = gL B 1 (3263 + 60 * i + j) := by unfold lo; rw [if_neg (by omega)]
        have eh0 : hi' B i e j = 0 := by unfold hi'; rw [if_neg (by omega)]
        refine ⟨B1, ?_, fun q h3 h4 h5 => ?_, ?_, fun z h3 h4 => ?_, ?_, q6⟩
        · rw [q1, el, el0, Int64.add_assoc]
        · rw [q2 q (by omega) (by omega) h5, gLn (by omega)]
        · rw [q3, eh, eh0, Int64.zero_add, gLn (by omega)]
        · by_cases ez : z = j
          · subst ez
            rw [q2 _ (by omega) (by omega) (by omega), gLe, q2 _ (by omega) (by omega) (by omega), gLn (by omega), eh0, Int64.sub_zero]
            exact ⟨rfl, rfl⟩
          · obtain ⟨w1, w2⟩ := q4 z (by omega) h4
            refine ⟨w1, ?_⟩
            rw [w2, gLn (by omega)]
            unfold hi'
            rw [gLn (by omega)]
        · rw [q5, gL_ne (by decide)]
      · rw [if_neg (fun q => hc ((hE j (by omega)).mp q))]
        simp (disch := omega) only [gLn]
        obtain ⟨B1, q1, q2, q3, q4, q5, q6⟩ := ih (j + 1) v (sL (sL (sL B 1 5664 (gL B 1 5664 + gL B 1 (3263 + 60 * i + j))) 1 (863 + 60 * i + j) (gL B 1 (863 + 60 * i + j) - gL B 1 (3263 + 60 * i + j))) 1 (3263 + 60 * i + j) 0) (by omega) (by omega)
        have el : ∀ X Y, smL (lo (sL (sL (sL B 1 5664 X) 1 (863 + 60 * i + j) Y) 1 (3263 + 60 * i + j) 0) i e) (j + 1) (60 - (j + 1)) = smL (lo B i e) (j + 1) (60 - (j + 1)) := fun X Y => smL_congr (fun z hz => by unfold lo; rw [gLn (by omega), gLn (by omega), gLn (by omega)])
        have eh : ∀ X Y, smL (hi' (sL (sL (sL B 1 5664 X) 1 (863 + 60 * i + j) Y) 1 (3263 + 60 * i + j) 0) i e) (j + 1) (60 - (j + 1)) = smL (hi' B i e) (j + 1) (60 - (j + 1)) := fun X Y => smL_congr (fun z hz => by unfold hi'; rw [gLn (by omega), gLn (by omega), gLn (by omega)])
        have el0 : lo B i e j = 0 := by unfold lo; rw [if_pos (by omega)]
        have eh0 : hi' B i e j = gL B 1 (3263 + 60 * i + j) := by unfold hi'; rw [if_pos (by omega)]
        refine ⟨B1, ?_, fun q h3 h4 h5 => ?_, ?_, fun z h3 h4 => ?_, ?_, q6⟩
        · rw [q1, el, el0, Int64.zero_add]
        · rw [q2 q (by omega) (by omega) h5, gLn (by omega), gLn (by omega), gLn (by omega)]
        · rw [q3, eh, eh0, gLn (by omega), gLn (by omega), gLe, Int64.add_assoc]
        · by_cases ez : z = j
          · subst ez
            rw [q2 _ (by omega) (by omega) (by omega), gLe, q2 _ (by omega) (by omega) (by omega), gLn (by omega), gLe, eh0]
            exact ⟨rfl, rfl⟩
          · obtain ⟨w1, w2⟩ := q4 z (by omega) h4
            refine ⟨w1, ?_⟩
            rw [w2, gLn (by omega), gLn (by omega), gLn (by omega)]
            unfold hi'
            rw [gLn (by omega), gLn (by omega), gLn (by omega)]
        · rw [q5, gL_ne (by decide), gL_ne (by decide), gL_ne (by decide)]
/-- what was drawn behind the end, without what is sure -/
def bk (B : MM) (i e kn su : Nat) (z : Nat) : Int64 := if e ≤ z ∧ ¬ (1 < kn ∧ z < su) then gL B 1 (863 + 60 * i + z) else 0
theorem back_loop (hi : i < 40) {B : MM} {e kn su ho : Nat} {E : Int64} (hE : ∀ j, j < 60 → (lN j ≤ E ↔ j < e)) (hho : ho < 24) (h0 : gL B 1 (303 + 14 * i + 0) = lN ho) (hS : ∀ z, z < 60 → F_X6_isSure N (nI i) (lN z) B = some (decide (1 < kn) && decide (z < su))) : ∀ (fu j : Nat) (v : Int64), j ≤ 60 → 60 < j + fu → F_X6_ends_193 N (nI i) fu E v (nI j) B = some (v + smL (bk B i e kn su) j (60 - j), sL B 1 (111 + 7 * ho + 2) (gL B 1 (111 + 7 * ho + 2) + (v + smL (bk B i e kn su) j (60 - j)))) := by
  intro fu
  induction fu with
  | zero => intro j v h1 h2; omega
  | succ fu ih =>
    intro j v h1 h2
    rw [F_X6_ends_193]
    have e60 : ((60 : Int32) ≤ nI j) = (60 ≤ j) := nIl (a := 60) (by omega) (by omega)
    simp only [e60]
    by_cases hj : 60 ≤ j
    · rw [if_pos hj, show 60 - j = 0 by omega, smL, Int64.add_zero]
      simp (disch := omega) only [part_0, gd_ib, ixn, h0, lNi, cellOf_2, bnd_e]
    · rw [if_neg hj, nIw (by omega), nI_1, show 60 - j = (60 - (j + 1)) + 1 by omega, smL_one]
      by_cases hc : j < e
      · have e0 : bk B i e kn su j = 0 := by unfold bk; rw [if_neg (by omega)]
        rw [if_pos ((hE j (by omega)).mpr hc), ih (j + 1) v (by omega) (by omega), e0, Int64.zero_add]
      · rw [if_neg (fun q => hc ((hE j (by omega)).mp q)), hS j (by omega), bn1_e]
        by_cases hq : 1 < kn ∧ j < su
        · have e0 : bk B i e kn su j = 0 := by unfold bk; rw [if_neg (fun q => q.2 hq)]
          rw [decide_eq_true hq.1, decide_eq_true hq.2, Bool.and_true, bIt, ih (j + 1) v (by omega) (by omega), e0, Int64.zero_add]
        · have e0 : bk B i e kn su j = gL B 1 (863 + 60 * i + j) := by unfold bk; rw [if_pos ⟨by omega, hq⟩]
          have eb : (decide (1 < kn) && decide (j < su)) = false := by
            rw [Bool.eq_false_iff]
            intro q
            rw [Bool.and_eq_true, decide_eq_true_eq, decide_eq_true_eq] at q
            exact hq q
          rw [eb, bIf, drx, gd_ib (by omega) (by omega), bnd_e, ixn (by omega), ih (j + 1) _ (by omega) (by omega), e0, Int64.add_assoc]
theorem forget_loop {c y : Nat} (hy : y ≤ 60) {x : Int32} : ∀ (fu j : Nat) (v : Int64) (A : MM), j ≤ 100 → 200 < j + fu → ∃ A1, F_X3_forgetHeldAbove_22 N c x (nI y) fu v (nI j) A = some (v, A1) ∧ (∀ c' q, gL A1 c' q = if c' = c + 40 ∧ j ≤ q ∧ q < y then 0 else gL A c' q) ∧ gI A1 = gI A := by
  intro fu
  induction fu with
  | zero => intro j v A h1 h2; omega
  | succ fu ih =>
    intro j v A h1 h2
    rw [F_X3_forgetHeldAbove_22]
    simp (disch := omega) only [nIl]
    by_cases hj : y ≤ j
    · rw [if_pos hj]
      exact ⟨A, rfl, fun c' q => by rw [if_neg (by omega)], rfl⟩
    · have ew : F_X5_isWithin (nI j) 0 59 = true := wi_toInt.mpr (by rw [nI_toInt (by omega), show (0 : Int32).toInt = 0 from rfl, show (59 : Int32).toInt = 59 from rfl]; omega)
      rw [if_neg hj, F_X3_note, ew, bIt, gd_ib (by omega) (by omega), bnd_e, bn1_e, ixn (by omega), nI_1]
      obtain ⟨A1, q1, q2, q3⟩ := ih (j + 1) v (sL A (c + 40) j 0) (by omega) (by omega)
      refine ⟨A1, q1, fun c' q => ?_, q3⟩
      rw [q2 c' q, gLs]
      by_cases e1 : c' = c + 40 ∧ q = j
      · rw [if_neg (by omega), if_pos e1, if_pos (by omega)]
      · rw [if_neg e1]
        by_cases e2 : c' = c + 40 ∧ j + 1 ≤ q ∧ q < y
        · rw [if_pos e2, if_pos (by omega)]
        · rw [if_neg e2, if_neg (by omega)]
end Ends
/-- the year of the last death of a share's lives -/
theorem end_sim {N : Nat} {k : Int} {K : KT} {m r s y : Nat} {P : Nat → Prop} {A B : MM} (h : MS k K m r s y P A B) {i : Nat} (hi : i < s) : ∃ e : Int32, F_X0_endOf N (37 + i) A = some e ∧ F_X6_ends N (nI i) B = F_X6_ends_79 N (nI i) N e.toInt64 0 0 B ∧ -110 ≤ e.toInt ∧ e.toInt ≤ 60 := by
  obtain ⟨he, hs, ht, hm, hkk, hh, hp, hf, hb⟩ := h
  have c1 : m ≤ 24 := he.1.1
  have c3 : s ≤ 40 := he.1.2.2
  obtain ⟨h0, ho, li, ra, u, kn, si, su, un, hf2, h1, -⟩ := hh i hi
  have v1 : gI A (37 + i) 1 = nI li := h1.2.1
  have r1 : li < m := h1.2.2.2.2.2.2.2.2.2.2.1
  rw [F_X0_endOf, F_X6_ends]
  simp (disch := omega) only [part_1, part_2, gd_ib, bnd_e, ixn, he.s1 hi, he.s2 hi, v1, nIw, lNi, cellOf_6, he.m6 r1]
  have q1 := hm li r1
  rcases h0 with q | ⟨j, hj, q⟩
  · rw [q, isM_A hs.1 (by omega), ib_m1, bIf, if_pos (by decide)]
    exact ⟨_, rfl, rfl, q1.2.2.2⟩
  · have q2 := hm j hj
    rw [q, isM_A hs.1 (by omega), ib_nI hj (by omega), bIt, nIw (by omega), if_neg (by rw [Int64.lt_iff_toInt_lt, lN_toInt' (by omega), show (0 : Int64).toInt = 0 from rfl]; omega)]
    simp (disch := omega) only [gd_ib, ixn, lNi, cellOf_6, he.m6 hj, wle]
    unfold mxI
    by_cases g : gI A (7 + li) 6 < gI A (7 + j) 6
    · rw [if_pos g, if_neg (by rw [Int32.le_iff_toInt_le]; rw [Int32.lt_iff_toInt_lt] at g; omega)]
      exact ⟨_, rfl, rfl, q2.2.2.2⟩
    · rw [if_neg g, if_pos (by rw [Int32.le_iff_toInt_le]; rw [Int32.lt_iff_toInt_lt] at g; omega)]
      exact ⟨_, rfl, rfl, q1.2.2.2⟩
theorem mx_e {x : Int32} {e a : Nat} (h1 : -110 ≤ x.toInt) (h2 : x.toInt ≤ 60) (he : e = (x.toInt + 1).toNat) (ha : a ≤ 100) : mxI (x + 1) (nI a) = nI (max e a) ∧ mxI (nI a) (x + 1) = nI (max e a) := by
  have e1 : (x + 1).toInt = x.toInt + 1 := by
    rw [fb_addI] <;> rw [show (1 : Int32).toInt = 1 from rfl]
    all_goals omega
  have e2 : (nI a).toInt = a := nI_toInt (by omega)
  have e3 : (nI (max e a)).toInt = (max e a : Nat) := nI_toInt (by omega)
  unfold mxI
  constructor
  · rw [← Int32.toInt_inj, e3]
    split
    · next g => rw [Int32.lt_iff_toInt_lt, e1, e2] at g; rw [e2]; omega
    · next g => rw [Int32.lt_iff_toInt_lt, e1, e2] at g; rw [e1]; omega
  · rw [← Int32.toInt_inj, e3]
    split
    · next g => rw [Int32.lt_iff_toInt_lt, e1, e2] at g; rw [e1]; omega
    · next g => rw [Int32.lt_iff_toInt_lt, e1, e2] at g; rw [e2]; omega

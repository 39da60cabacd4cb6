/-! ===== sums of coins, with the machine's wrap ===== -/
def smL (f : Nat → Int64) (a : Nat) : Nat → Int64
  | 0 => 0
  | n + 1 => smL f a n + f (a + n)
/-- the sum of f over a .. b-1 -/
def sum2 (f : Nat → Int64) (a b : Nat) : Int64 := smL f a (b - a)
theorem smL_congr {f g : Nat → Int64} {a : Nat} : ∀ {n : Nat}, (∀ j, j < n → f (a + j) = g (a + j)) → smL f a n = smL g a n
  | 0, _ => rfl
  | n + 1, h => by rw [smL, smL, smL_congr (fun j hj => h j (by omega)), h n (by omega)]
theorem smL_zero {f : Nat → Int64} {a : Nat} : ∀ {n : Nat}, (∀ j, j < n → f (a + j) = 0) → smL f a n = 0
  | 0, _ => rfl
  | n + 1, h => by rw [smL, smL_zero (fun j hj => h j (by omega)), h n (by omega)]; rfl
theorem smL_app {f : Nat → Int64} {a p : Nat} : ∀ {q : Nat}, smL f a (p + q) = smL f a p + smL f (a + p) q
  | 0 => by rw [Nat.add_zero, smL, Int64.add_zero]
  | q + 1 => by rw [show p + (q + 1) = (p + q) + 1 by omega, smL, smL, smL_app, Int64.add_assoc, show a + (p + q) = a + p + q by omega]
theorem smL_one {f : Nat → Int64} {a n : Nat} : smL f a (n + 1) = f a + smL f (a + 1) n := by
  rw [show n + 1 = 1 + n by omega, smL_app, smL, smL, Nat.add_zero, Int64.zero_add]
section Held
variable {K : KT} {m r s y N i c : Nat} {A B : MM}
theorem drew_loop {b : Nat} (hb : b ≤ 100) (x x' : Int32) (hx : x' = nI b) : ∀ (fu j : Nat) (v : Int64), j ≤ 100 → 200 < j + fu → F_X3_drewIn_9 N c x x' fu v (nI j) A = some (v + smL (gL A (c + 40)) j (min b 60 - j)) := by
  intro fu
  induction fu with
  | zero => intro j v h1 h2; omega
  | succ fu ih =>
    intro j v h1 h2
    subst hx
    rw [F_X3_drewIn_9]
    have e60 : ((60 : Int32) ≤ nI j) = (60 ≤ j) := nIl (a := 60) (by omega) (by omega)
    simp (disch := omega) only [nIl, e60]
    by_cases h3 : b ≤ j
    · rw [if_pos h3, show min b 60 - j = 0 by omega, smL, Int64.add_zero]
    · rw [if_neg h3]
      by_cases h4 : 60 ≤ j
      · rw [if_pos h4, show min b 60 - j = 0 by omega, smL, Int64.add_zero]
      · rw [if_neg h4, gd_ib (by omega) (by omega), bnd_e, ixn (by omega), nI_1, ih (j + 1) _ (by omega) (by omega)]
        rw [show min b 60 - j = (min b 60 - (j + 1)) + 1 by omega, smL_one, Int64.add_assoc]
theorem drew_A (hN : 6000 ≤ N) {a b : Nat} (ha : a ≤ 100) (hb : b ≤ 100) : F_X3_drewIn N c (nI a) (nI b) A = some (smL (gL A (c + 40)) a (min b 60 - a)) := by
  rw [F_X3_drewIn, bnd_e]
  have e : mxI (nI a) 0 = nI a := by
    unfold mxI
    rw [if_neg]
    rw [Int32.lt_iff_toInt_lt, nI_toInt (by omega), show (0 : Int32).toInt = 0 from rfl]
    omega
  rw [e, drew_loop hb _ _ rfl N a 0 ha (by omega), Int64.zero_add]
theorem held_A (hN : 6000 ≤ N) {a b : Nat} (h14 : gI A c 14 = nI a) (ha : a ≤ 100) (hb : b ≤ 100) : F_X3_heldAt N c (nI b) A = some (smL (gL A (c + 40)) a (min b 60 - a)) := by
  rw [F_X3_heldAt, h14, drew_A hN ha hb, bn1_e]
theorem held_loop (hi : i < 40) : ∀ (fu j : Nat) (v : Int64), j ≤ 60 → 60 < j + fu → F_X6_heldBy_5 N (nI i) fu v (nI j) B = some (v + smL (fun z => gL B 1 (3263 + 60 * i + z)) j (60 - j)) := by
  intro fu
  induction fu with
  | zero => intro j v h1 h2; omega
  | succ fu ih =>
    intro j v h1 h2
    rw [F_X6_heldBy_5]
    have e60 : ((60 : Int32) ≤ nI j) = (60 ≤ j) := nIl (a := 60) (by omega) (by omega)
    simp only [e60]
    by_cases h4 : 60 ≤ j
    · rw [if_pos h4, show 60 - j = 0 by omega, smL, Int64.add_zero]
    · rw [if_neg h4, hex, gd_ib (by omega) (by omega), bnd_e, ixn (by omega), nI_1, ih (j + 1) _ (by omega) (by omega)]
      rw [show 60 - j = (60 - (j + 1)) + 1 by omega, smL_one, Int64.add_assoc]
theorem held_B (hN : 6000 ≤ N) (hi : i < 40) : F_X6_heldBy N (nI i) B = some (smL (fun z => gL B 1 (3263 + 60 * i + z)) 0 60) := by
  rw [F_X6_heldBy, show (0 : Int32) = nI 0 from rfl, held_loop hi N 0 0 (by omega) (by omega), Int64.zero_add]
/-- what the reference holds in all is the class's tail -/
theorem held_eq {hf : Nat} (hh : ∀ j, j < 60 → gL B 1 (3263 + 60 * i + j) = (if hf ≤ j then gL A (77 + i) j else 0)) (hz : ∀ j, j < 60 → y ≤ j → gL A (77 + i) j = 0) (hy : y ≤ 60) (hfy : hf ≤ y) : smL (fun z => gL B 1 (3263 + 60 * i + z)) 0 60 = smL (gL A (77 + i)) hf (min y 60 - hf) := by
  have e1 : smL (fun z => gL B 1 (3263 + 60 * i + z)) 0 60 = smL (fun z => gL B 1 (3263 + 60 * i + z)) 0 (hf + ((y - hf) + (60 - y))) := by rw [show hf + ((y - hf) + (60 - y)) = 60 by omega]
  rw [e1, smL_app, smL_app, smL_zero (f := fun z => gL B 1 (3263 + 60 * i + z)) (a := 0) (n := hf), smL_zero (a := 0 + hf + (y - hf)) (n := 60 - y), Int64.zero_add, Int64.add_zero, show min y 60 - hf = y - hf by omega, Nat.zero_add]
  · apply smL_congr
    intro j hj
    show gL B 1 (3263 + 60 * i + (hf + j)) = _
    rw [hh (hf + j) (by omega), if_pos (by omega)]
  · intro j hj
    show gL B 1 (3263 + 60 * i + (0 + hf + (y - hf) + j)) = 0
    rw [show 0 + hf + (y - hf) + j = y + j by omega, hh (y + j) (by omega), if_pos (by omega)]
    exact hz (y + j) (by omega) (by omega)
  · intro j hj
    show gL B 1 (3263 + 60 * i + (0 + j)) = 0
    rw [Nat.zero_add, hh j (by omega), if_neg (by omega)]
end Held
/-! ===== readers ===== -/
theorem sim_drew {N : Nat} (hN : 6000 ≤ N) : Sim_drew N Rel := by
  intro k n A B hk hR x1 x2
  have hR2 := hR.up
  obtain ⟨hn, K, m, r, s, y, hB, -, -⟩ := hR
  obtain ⟨he, hs, ht, hm, hkk, hh, hp, hf, hb⟩ := hB
  have c3 : s ≤ 40 := he.1.2.2
  have hy : y ≤ 60 := hs.2.2.2.2.1
  rw [F_X5_drew, F_X6_drew, isS_A hs.2.2.1 (by omega), isS_B (he.cs hs) (by omega), he.cy hs, hs.2.2.2.1]
  have e1 : F_X5_isWithin x2 0 (nI y - 1) = ib x2 y := by
    rw [Bool.eq_iff_iff, wi_toInt, ibm, show (0 : Int32).toInt = 0 from rfl, show nI y - 1 = nI y - nI 1 from rfl, pk_sub_toInt (by omega) (by omega)]
    omega
  have e2 : F_X6_in x2.toInt64 0 (lN y - 1) = ib x2 y := by
    rw [Bool.eq_iff_iff, in_toInt, ibm, toInt64_toInt, lN1 (by omega), show (0 : Int64).toInt = 0 from rfl]
    omega
  rw [e1, e2]
  cases hx : ib x1 s with
  | false => exact ⟨_, rfl, rfl, hR2⟩
  | true =>
    obtain ⟨i, hi, rfl⟩ := ib_of hx (by omega)
    simp only [bIt]
    cases hx2 : ib x2 y with
    | false => exact ⟨_, rfl, rfl, hR2⟩
    | true =>
      obtain ⟨j, hj, rfl⟩ := ib_of hx2 (by omega)
      simp (disch := omega) only [bIt, gd_ib, ixn, nI_1, drx]
      rw [drew_A hN (by omega) (by omega), bn1_e, he.d hi (by omega), show min (j + 1) 60 - j = 0 + 1 by omega, smL, smL, Int64.zero_add]
      exact ⟨_, rfl, by rw [show 37 + i + 40 = 77 + i by omega]; rfl, hR2⟩
theorem held_sim {N : Nat} (hN : 6000 ≤ N) {K : KT} {m r s y i : Nat} {A B : MM} (he : Eqv K m r s A B) (hs : R_s m r s y A) (hi : i < s) (hh : R_h m r y A B i) : ∃ v, F_X3_heldAt N (37 + i) (gI A 1 7) A = some v ∧ F_X6_heldBy N (nI i) B = some v := by
  have c3 : s ≤ 40 := he.1.2.2
  have hy : y ≤ 60 := hs.2.2.2.2.1
  obtain ⟨h0, ho, li, ra, u, kn, si, su, un, hf, h1, h2, h3, h4⟩ := hh
  have h14 : gI A (37 + i) 14 = nI hf := h1.2.2.2.2.2.2.2.2.1
  have hfy : hf ≤ y := h1.2.2.2.2.2.2.2.2.2.2.2.2.2.2.2.2.2.2.2.2
  refine ⟨_, by rw [hs.2.2.2.1]; exact held_A hN h14 (by omega) (by omega), ?_⟩
  rw [held_B hN (by omega), held_eq (fun j hj => (h4 j hj).1) (fun j hj => (h4 j hj).2.2.2.1) hy hfy, show 37 + i + 40 = 77 + i by omega]
theorem how_sim {N : Nat} (hN : 6000 ≤ N) {K : KT} {m r s y i : Nat} {A B : MM} (he : Eqv K m r s A B) (hs : R_s m r s y A) (hi : i < s) (hh : R_h m r y A B i) : ∃ h, F_X0_howItIs N (37 + i) A = some h ∧ F_X6_stands N (nI i) B = some h ∧ (h = 0 ∨ h = 1 ∨ h = 2 ∨ h = 3) := by
  obtain ⟨h0, ho, li, ra, u, kn, si, su, un, hf, h1, h2, h3, h4⟩ := hh
  have hy : y ≤ 60 := hs.2.2.2.2.1
  obtain ⟨h, q1, q2, -, q4⟩ := stands_sim hN he hs hi h1 h0 (by omega) h1.2.2.2.2.2.2.2.2.2.2.2.2.2.2.2.1 h2
  exact ⟨h, q1, q2, q4⟩

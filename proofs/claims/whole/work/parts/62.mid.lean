/-! ===== the relation in the middle of a call: P i says that share i must have nothing held ===== -/
def R_g (m r y : Nat) (A B : MM) (i : Nat) (P : Prop) : Prop := R_o m A i ∧ ∃ ho li ra u kn si su un hf, R_v m r y A i ho li ra u kn si su un hf ∧ gL B 1 (303 + 14 * i + 9) = lN (su - si) ∧ ((P ∨ y < su) → hf = y) ∧ ∀ j, j < 60 → gL B 1 (3263 + 60 * i + j) = (if hf ≤ j then gL A (77 + i) j else 0) ∧ 0 ≤ (gL A (77 + i) j).toInt ∧ (gL A (77 + i) j).toInt ≤ 6200000000 ∧ (y ≤ j → gL A (77 + i) j = 0) ∧ (j < si → gL A (77 + i) j = 0)
def R_d (k : Int) (m : Nat) (A : MM) : Prop := ∀ i, i < m → 0 ≤ (gL A (7 + i) 2).toInt ∧ (gL A (7 + i) 2).toInt ≤ k
theorem R_d.fI {k : Int} {m c j : Nat} {A : MM} {v : Int32} (h : R_d k m A) : R_d k m (sI A c j v) := h
theorem R_d.fL {k : Int} {m c j : Nat} {A : MM} {v : Int64} (h : R_d k m A) (hm : m ≤ 24) (hc : c < 7 ∨ 31 ≤ c ∨ j ≠ 2) : R_d k m (sL A c j v) := fun i hi => by
  simp (disch := omega) only [gLn]
  exact h i hi
/-- the debts are at most k -/
def MS (k : Int) (K : KT) (m r s y : Nat) (P : Nat → Prop) (A B : MM) : Prop := Eqv K m r s A B ∧ R_s m r s y A ∧ R_t A ∧ R_m m A ∧ R_k r s A ∧ (∀ i, i < s → R_g m r y A B i (P i)) ∧ (∀ i, i < s → R_p m A B i) ∧ R_f s y A B ∧ R_d k m A
theorem BR_MS {k : Nat} {K : KT} {m r s y : Nat} {A B : MM} : BR k K m r s y A B ↔ MS (k * 20000000000000) K m r s y (fun i => prv m A i) A B := Iff.rfl
theorem R_g.mono {m r y : Nat} {A B : MM} {i : Nat} {P Q : Prop} (h : R_g m r y A B i P) (hq : Q → P) : R_g m r y A B i Q := by
  obtain ⟨h0, ho, li, ra, u, kn, si, su, un, hf, h1, h2, h3, h4⟩ := h
  exact ⟨h0, ho, li, ra, u, kn, si, su, un, hf, h1, h2, fun q => h3 (q.imp hq id), h4⟩
theorem MS.mono {k : Int} {K : KT} {m r s y : Nat} {P Q : Nat → Prop} {A B : MM} (h : MS k K m r s y P A B) (hq : ∀ i, i < s → Q i → P i) : MS k K m r s y Q A B := by
  obtain ⟨h1, h2, h3, h4, h5, h6, h7, h8, h9⟩ := h
  exact ⟨h1, h2, h3, h4, h5, fun i hi => (h6 i hi).mono (hq i hi), h7, h8, h9⟩
/-- what a share holds isn't negative -/
theorem R_g.nn {m r y : Nat} {A B : MM} {i : Nat} {P : Prop} (h : R_g m r y A B i P) {j : Nat} (hj : j < 60) : 0 ≤ (gL B 1 (3263 + 60 * i + j)).toInt := by
  obtain ⟨h0, ho, li, ra, u, kn, si, su, un, hf, h1, h2, h3, h4⟩ := h
  rw [(h4 j hj).1]
  split
  · exact (h4 j hj).2.1
  · decide
theorem R_g.hn {m r y : Nat} {A B : MM} {i : Nat} {P : Prop} (h : R_g m r y A B i P) : 0 ≤ heI B i := sumZ_nn (fun _ hj => h.nn hj)
theorem smL_toInt {f : Nat → Int64} {a : Nat} : ∀ {n : Nat}, (∀ j, j < n → 0 ≤ (f (a + j)).toInt) → sumZ (fun j => (f (a + j)).toInt) n ≤ 1000000000000000 → (smL f a n).toInt = sumZ (fun j => (f (a + j)).toInt) n
  | 0, _, _ => rfl
  | n + 1, h, hb => by
    rw [sumZ] at hb
    have h1 := h n (by omega)
    have h2 : 0 ≤ sumZ (fun j => (f (a + j)).toInt) n := sumZ_nn (fun j hj => h j (by omega))
    have ih := smL_toInt (f := f) (a := a) (n := n) (fun j hj => h j (by omega)) (by omega)
    rw [smL, sumZ, fb_addL, ih] <;> rw [ih] <;> omega
theorem hel_toInt {B : MM} {i : Nat} (h : ∀ j, j < 60 → 0 ≤ (gL B 1 (3263 + 60 * i + j)).toInt) (hb : heI B i ≤ 1000000000000000) : (smL (fun z => gL B 1 (3263 + 60 * i + z)) 0 60).toInt = heI B i := by
  have e : heI B i = sumZ (fun j => ((fun z => gL B 1 (3263 + 60 * i + z)) (0 + j)).toInt) 60 := by
    unfold heI
    exact sumZ_congr (fun j _ => by rw [Nat.zero_add])
  rw [e] at hb ⊢
  exact smL_toInt (fun j hj => by rw [Nat.zero_add]; exact h j hj) hb
set_option maxHeartbeats 4000000 in
/-- an amount is paid out to share i -/
theorem MS.pay {k : Int} {K : KT} {m r s y N : Nat} {P : Nat → Prop} {A B : MM} (h : MS k K m r s y P A B) {i : Nat} (hi : i < s) {a : Int64} (ha : 0 ≤ a.toInt) (hsl : (gL A 1 10).toInt + sumZ (heI B) s + a.toInt ≤ 100000000 * y) : ∃ (A' B' : MM), F_X0_payOut N (37 + i) a A = some A' ∧ F_X6_pays N (nI i) a B = some B' ∧ MS k K m r s y P A' B' ∧ gI A' = gI A ∧ gI B' = gI B ∧ (∀ c', c' ≠ 1 → gL B' c' = gL B c') ∧ (∀ z j, 31 ≤ z → z < 37 ∨ 77 ≤ z → gL A' z j = gL A z j) ∧ (∀ j, 863 ≤ j → j < 5663 → gL B' 1 j = gL B 1 j) ∧ (gL A 1 10).toInt ≤ (gL A' 1 10).toInt ∧ (gL A' 1 10).toInt ≤ (gL A 1 10).toInt + a.toInt := by
  obtain ⟨he, hs, ht, hm, hkk, hh, hp, hf, hb⟩ := h
  have c1 : m ≤ 24 := he.1.1
  have c2 : r ≤ 6 := he.1.2.1
  have c3 : s ≤ 40 := he.1.2.2
  have hy : y ≤ 60 := hs.2.2.2.2.1
  have hT : 0 ≤ sumZ (heI B) s := sumZ_nn (fun q hq => (hh q hq).hn)
  have hcar := hf.1
  obtain ⟨h0, ho, li, ra, u, kn, si, su, un, hf2, h1, -⟩ := hh i hi
  have hho : ho < m := h1.2.2.2.2.2.2.2.2.2.1
  obtain ⟨A', B', t, q, hq, g1, g2, g3, g4, g5, g6, g7, g8, g9, g10, g11, g12, g13, g14⟩ := pays_sim (N := N) he hs hi h1.1 hho (hp i hi) ha (by omega) (hb ho hho).1
  have ecar : (gL A' 1 10).toInt = (gL A 1 10).toInt + t.toInt := by rw [g9, fb_addL (by omega) (by omega)]
  have eheI : ∀ z, z < s → heI B' z = heI B z := fun z hz => heI_of (fun j hj => g7 _ (by omega) (by omega) (by omega))
  have gi : ∀ c j, gI A' c j = gI A c j := fun c j => by rw [g4]
  refine ⟨A', B', g1, g2, ⟨g3, ?_, ?_, ?_, ?_, fun z hz => ?_, fun z hz => ?_, ?_, fun z hz => ?_⟩, g4, g5, g8, fun z j h1 h2 => g6 z j (by omega) (by omega) (by omega) (by omega), fun j h1 h2 => g7 j (by omega) (by omega) (by omega), by omega, by omega⟩
  · unfold R_s at *
    simp only [gi]
    exact hs
  · intro z hz
    rw [gi]
    exact ht z hz
  · intro z hz
    rw [gi, gi, gi]
    exact hm z hz
  · intro z hz
    rw [gi, gi, gi, g6 _ _ (by omega) (by omega) (by omega) (by omega)]
    exact hkk z hz
  · obtain ⟨h0, ho, li, ra, u, kn, si, su, un, hf2, h1, h2, h3, h4⟩ := hh z hz
    refine ⟨?_, ho, li, ra, u, kn, si, su, un, hf2, ?_, ?_, h3, fun j hj => ?_⟩
    · unfold R_o at *
      rw [gi]
      exact h0
    · unfold R_v at *
      simp only [gi]
      exact h1
    · rw [g7 _ (by omega) (by omega) (by omega)]
      exact h2
    · rw [g7 _ (by omega) (by omega) (by omega), g6 _ _ (by omega) (by omega) (by omega) (by omega)]
      exact h4 j hj
  · by_cases e : z = i
    · subst e; exact g14
    · obtain ⟨q2, q3, q4, q5⟩ := hp z hz
      refine ⟨q2, q3, ?_, ?_⟩
      · rw [g7 _ (by omega) (by omega) (by omega)]
        exact q4
      · rw [gi, g6 _ _ (by omega) (by omega) (by omega) (by omega)]
        exact q5
  · unfold R_f
    rw [sumZ_congr eheI, ecar]
    constructor <;> omega
  · by_cases e : z = ho
    · subst e
      have q2 := hb z hz
      have q9 := fb_rngL (gL A (7 + z) 2)
      rw [g10, fb_subL (by omega) (by omega)]
      constructor <;> omega
    · rw [g6 _ _ (by omega) (by omega) (by omega) (by omega)]
      exact hb z hz

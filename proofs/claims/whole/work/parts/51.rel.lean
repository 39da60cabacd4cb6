theorem fb_rng (x : Int32) : -2147483648 ≤ x.toInt ∧ x.toInt < 2147483648 := by
  have h1 := Int32.le_toInt x
  have h2 := Int32.toInt_lt x
  omega
theorem fb_bmod {z : Int} (h1 : -2147483648 ≤ z) (h2 : z < 2147483648) : z.bmod (2 ^ 32) = z := by
  rw [Int.bmod_eq_of_le (by omega) (by omega)]
theorem fb_addI {x y : Int32} (h1 : -2147483648 ≤ x.toInt + y.toInt) (h2 : x.toInt + y.toInt < 2147483648) : (x + y).toInt = x.toInt + y.toInt := by
  rw [Int32.toInt_add, fb_bmod h1 h2]
theorem fb_subI {x y : Int32} (h1 : -2147483648 ≤ x.toInt - y.toInt) (h2 : x.toInt - y.toInt < 2147483648) : (x - y).toInt = x.toInt - y.toInt := by
  rw [Int32.toInt_sub, fb_bmod h1 h2]
theorem fb_rngL (x : Int64) : -9223372036854775808 ≤ x.toInt ∧ x.toInt < 9223372036854775808 := by
  have h1 := Int64.le_toInt x
  have h2 := Int64.toInt_lt x
  omega
theorem fb_bmodL {z : Int} (h1 : -9223372036854775808 ≤ z) (h2 : z < 9223372036854775808) : z.bmod (2 ^ 64) = z := by
  rw [Int.bmod_eq_of_le (by omega) (by omega)]
theorem fb_addL {x y : Int64} (h1 : -9223372036854775808 ≤ x.toInt + y.toInt) (h2 : x.toInt + y.toInt < 9223372036854775808) : (x + y).toInt = x.toInt + y.toInt := by
  rw [Int64.toInt_add, fb_bmodL h1 h2]
theorem fb_subL {x y : Int64} (h1 : -9223372036854775808 ≤ x.toInt - y.toInt) (h2 : x.toInt - y.toInt < 9223372036854775808) : (x - y).toInt = x.toInt - y.toInt := by
  rw [Int64.toInt_sub, fb_bmodL h1 h2]
theorem fb_mulL {x y : Int64} (h1 : -9223372036854775808 ≤ x.toInt * y.toInt) (h2 : x.toInt * y.toInt < 9223372036854775808) : (x * y).toInt = x.toInt * y.toInt := by
  rw [Int64.toInt_mul, fb_bmodL h1 h2]
/-! ===== the relation of the two books ===== -/
theorem gIn {M : MM} {c k c' k' : Nat} {v : Int32} (h : ¬ (c' = c ∧ k' = k)) : gI (sI M c k v) c' k' = gI M c' k' := by rw [gIs, if_neg h]
theorem gLn {M : MM} {c k c' k' : Nat} {v : Int64} (h : ¬ (c' = c ∧ k' = k)) : gL (sL M c k v) c' k' = gL M c' k' := by rw [gLs, if_neg h]
theorem gIe {M : MM} {c k : Nat} {v : Int32} : gI (sI M c k v) c k = v := by rw [gIs, if_pos ⟨rfl, rfl⟩]
theorem gLe {M : MM} {c k : Nat} {v : Int64} : gL (sL M c k v) c k = v := by rw [gLs, if_pos ⟨rfl, rfl⟩]
def sumZ (f : Nat → Int) : Nat → Int
  | 0 => 0
  | n + 1 => sumZ f n + f n
theorem sumZ_congr {f g : Nat → Int} : ∀ {n : Nat}, (∀ i, i < n → f i = g i) → sumZ f n = sumZ g n
  | 0, _ => rfl
  | n + 1, h => by rw [sumZ, sumZ, sumZ_congr (fun i hi => h i (by omega)), h n (by omega)]
theorem sumZ_nn {f : Nat → Int} : ∀ {n : Nat}, (∀ i, i < n → 0 ≤ f i) → 0 ≤ sumZ f n
  | 0, _ => Int.le_refl 0
  | n + 1, h => by
    have h1 := sumZ_nn (f := f) (n := n) (fun i hi => h i (by omega))
    have h2 := h n (by omega)
    rw [sumZ]; omega
theorem sumZ_le {f g : Nat → Int} : ∀ {n : Nat}, (∀ i, i < n → f i ≤ g i) → sumZ f n ≤ sumZ g n
  | 0, _ => Int.le_refl 0
  | n + 1, h => by
    have h1 := sumZ_le (f := f) (g := g) (n := n) (fun i hi => h i (by omega))
    have h2 := h n (by omega)
    rw [sumZ, sumZ]; omega
theorem sumZ_part {f : Nat → Int} {j : Nat} : ∀ {n : Nat}, (∀ i, i < n → 0 ≤ f i) → j < n → f j ≤ sumZ f n
  | 0, _, h => absurd h (Nat.not_lt_zero j)
  | n + 1, h, hj => by
    rw [sumZ]
    by_cases e : j = n
    · have h1 := sumZ_nn (f := f) (n := n) (fun i hi => h i (by omega))
      rw [e]; omega
    · have h1 := sumZ_part (f := f) (j := j) (n := n) (fun i hi => h i (by omega)) (by omega)
      have h2 := h n (by omega)
      omega
/-- one place changes -/
theorem sumZ_upd {f g : Nat → Int} {j : Nat} : ∀ {n : Nat}, j < n → (∀ i, i < n → i ≠ j → g i = f i) → sumZ g n = sumZ f n - f j + g j
  | 0, h, _ => absurd h (Nat.not_lt_zero j)
  | n + 1, hj, h => by
    rw [sumZ, sumZ]
    by_cases e : j = n
    · subst e
      rw [sumZ_congr (f := g) (g := f) (fun i hi => h i (by omega) (by omega))]
      omega
    · rw [sumZ_upd (f := f) (g := g) (j := j) (n := n) (by omega) (fun i hi hne => h i (by omega) hne), h n (by omega) (fun q => e q.symm)]
      omega
def heI (B : MM) (i : Nat) : Int := sumZ (fun y => (gL B 1 (3263 + 60 * i + y)).toInt) 60
def R_s (m r s y : Nat) (A : MM) : Prop := gI A 1 4 = nI m ∧ gI A 1 5 = nI r ∧ gI A 1 6 = nI s ∧ gI A 1 7 = nI y ∧ y ≤ 60 ∧ 0 ≤ (gI A 1 9).toInt ∧ (gI A 1 9).toInt ≤ 1000
def R_t (A : MM) : Prop := ∀ x, x ≤ 110 → 0 ≤ (gI A 3 x).toInt ∧ (gI A 3 x).toInt ≤ 100000
def R_m (m : Nat) (A : MM) : Prop := ∀ i, i < m → -110 ≤ (gI A (7 + i) 0).toInt ∧ (gI A (7 + i) 0).toInt ≤ 60 ∧ (gI A (7 + i) 3 = -1 ∨ ∃ j, j < m ∧ gI A (7 + i) 3 = nI j) ∧ -110 ≤ (gI A (7 + i) 6).toInt ∧ (gI A (7 + i) 6).toInt ≤ 60
def R_k (r s : Nat) (A : MM) : Prop := ∀ i, i < r → (∃ lo hi, lo ≤ 110 ∧ hi ≤ 110 ∧ gI A (31 + i) 0 = nI lo ∧ gI A (31 + i) 1 = nI hi) ∧ 1 ≤ (gI A (31 + i) 2).toInt ∧ (gI A (31 + i) 2).toInt ≤ 10000 ∧ 0 ≤ (gL A (31 + i) 3).toInt ∧ (gL A (31 + i) 3).toInt ≤ s * 10000000
/-- a share: holder, life, class, units, kind, since, sure until, unproved, held from -/
def R_v (m r y : Nat) (A : MM) (i ho li ra u kn si su un hf : Nat) : Prop := gI A (37 + i) 0 = nI ho ∧ gI A (37 + i) 1 = nI li ∧ gI A (37 + i) 4 = nI ra ∧ gI A (37 + i) 3 = nI u ∧ gI A (37 + i) 5 = nI kn ∧ gI A (37 + i) 8 = nI si ∧ gI A (37 + i) 9 = nI su ∧ gI A (37 + i) 10 = nI un ∧ gI A (37 + i) 14 = nI hf ∧ ho < m ∧ li < m ∧ ra < r ∧ 1 ≤ u ∧ u ≤ 1000 ∧ kn ≤ 3 ∧ si ≤ y ∧ si ≤ su ∧ su ≤ 90 ∧ (kn ≤ 1 → su = si) ∧ un ≤ y ∧ hf ≤ y
def R_o (m : Nat) (A : MM) (i : Nat) : Prop := gI A (37 + i) 2 = -1 ∨ ∃ j, j < m ∧ gI A (37 + i) 2 = nI j
/-- a life of it is proved -/
def prv (m : Nat) (A : MM) (i : Nat) : Prop := ∃ j, j < m ∧ (gI A (37 + i) 1 = nI j ∨ gI A (37 + i) 2 = nI j) ∧ gI A (7 + j) 4 ≠ 0
def R_h (m r y : Nat) (A B : MM) (i : Nat) : Prop := R_o m A i ∧ ∃ ho li ra u kn si su un hf, R_v m r y A i ho li ra u kn si su un hf ∧ gL B 1 (303 + 14 * i + 9) = lN (su - si) ∧ ((prv m A i ∨ y < su) → hf = y) ∧ ∀ j, j < 60 → gL B 1 (3263 + 60 * i + j) = (if hf ≤ j then gL A (77 + i) j else 0) ∧ 0 ≤ (gL A (77 + i) j).toInt ∧ (gL A (77 + i) j).toInt ≤ 6200000000 ∧ (y ≤ j → gL A (77 + i) j = 0) ∧ (j < si → gL A (77 + i) j = 0)
def R_p (m : Nat) (A B : MM) (i : Nat) : Prop := ∃ q, q < m ∧ gL B 1 (303 + 14 * i + 11) = lN q ∧ (gI A (37 + i) 12 = nI q ∨ (gI A (37 + i) 12 = -1 ∧ gL A (37 + i) 11 = 0))
def R_f (s y : Nat) (A B : MM) : Prop := 0 ≤ (gL A 1 10).toInt ∧ (gL A 1 10).toInt + sumZ (heI B) s ≤ 100000000 * y
def R_b (k m : Nat) (A : MM) : Prop := ∀ i, i < m → 0 ≤ (gL A (7 + i) 2).toInt ∧ (gL A (7 + i) 2).toInt ≤ k * 20000000000000
def BR (k : Nat) (K : KT) (m r s y : Nat) (A B : MM) : Prop := Eqv K m r s A B ∧ R_s m r s y A ∧ R_t A ∧ R_m m A ∧ R_k r s A ∧ (∀ i, i < s → R_h m r y A B i) ∧ (∀ i, i < s → R_p m A B i) ∧ R_f s y A B ∧ R_b k m A
def shm (A : MM) : MM := (fun c j => A.1 (c + 116) j, fun c j => A.2 (c + 116) j)
def wB (w : Nat → Int64) : MM := (fun _ _ => 0, fun c j => if c = 1 then w j else 0)
def Kok (k : Nat) (K : KT) : Prop := ∃ K2 m r s y, BR k K2 m r s y (shm K.1) (wB K.2.1)
def Rel (k n : Nat) (A B : MM) : Prop := (n = 117 ∨ n = 233) ∧ ∃ K m r s y, BR k K m r s y A B ∧ (n = 117 → K.2.2 2 = 0) ∧ (n = 233 → K.2.2 2 = 1 ∧ Kok k K)
theorem R_b.up {k m : Nat} {A : MM} (h : R_b k m A) : R_b (k + 1) m A := fun i hi => by
  have q := h i hi
  constructor <;> omega
theorem BR.up {k : Nat} {K : KT} {m r s y : Nat} {A B : MM} (h : BR k K m r s y A B) : BR (k + 1) K m r s y A B := by
  obtain ⟨h1, h2, h3, h4, h5, h6, h7, h8, h9⟩ := h
  exact ⟨h1, h2, h3, h4, h5, h6, h7, h8, h9.up⟩
theorem Kok.up {k : Nat} {K : KT} (h : Kok k K) : Kok (k + 1) K := by
  obtain ⟨K2, m, r, s, y, h⟩ := h
  exact ⟨K2, m, r, s, y, h.up⟩
theorem Rel.up {k n : Nat} {A B : MM} (h : Rel k n A B) : Rel (k + 1) n A B := by
  obtain ⟨hn, K, m, r, s, y, h1, h2, h3⟩ := h
  exact ⟨hn, K, m, r, s, y, h1.up, h2, fun q => ⟨(h3 q).1, (h3 q).2.up⟩⟩
/-- a call that leaves what is kept -/
theorem Rel.to {k n : Nat} {A B : MM} (h : Rel k n A B) {P : MM → MM → Prop} (hs : ∀ K m r s y, BR k K m r s y A B → ∃ A' B' m' r' s' y', P A' B' ∧ BR (k + 1) K m' r' s' y' A' B') : ∃ A' B', P A' B' ∧ Rel (k + 1) n A' B' := by
  obtain ⟨hn, K, m, r, s, y, h1, h2, h3⟩ := h
  obtain ⟨A', B', m', r', s', y', hP, h4⟩ := hs K m r s y h1
  exact ⟨A', B', hP, hn, K, m', r', s', y', h4, h2, fun q => ⟨(h3 q).1, (h3 q).2.up⟩⟩
/-! ===== tests of arguments ===== -/
theorem tw {c d : Prop} [Decidable c] [Decidable d] : ((if c then false else if d then false else true) = true) ↔ ¬ c ∧ ¬ d := by
  by_cases h1 : c <;> by_cases h2 : d <;> simp [h1, h2]
theorem isM_A {A : MM} {m : Nat} {x : Int32} (h : gI A 1 4 = nI m) (hm : m ≤ 40) : F_X0_isMember x A = ib x m := by
  rw [F_X0_isMember, h, Bool.eq_iff_iff, ibm, tw, Int32.lt_iff_toInt_lt, Int32.le_iff_toInt_le, nI_toInt (by omega), show (0 : Int32).toInt = 0 from rfl]
  omega
theorem isR_A {A : MM} {m : Nat} {x : Int32} (h : gI A 1 5 = nI m) (hm : m ≤ 40) : F_X0_isRank x A = ib x m := by
  rw [F_X0_isRank, h, Bool.eq_iff_iff, ibm, tw, Int32.lt_iff_toInt_lt, Int32.le_iff_toInt_le, nI_toInt (by omega), show (0 : Int32).toInt = 0 from rfl]
  omega
theorem isS_A {A : MM} {m : Nat} {x : Int32} (h : gI A 1 6 = nI m) (hm : m ≤ 40) : F_X0_isShare x A = ib x m := by
  rw [F_X0_isShare, h, Bool.eq_iff_iff, ibm, tw, Int32.lt_iff_toInt_lt, Int32.le_iff_toInt_le, nI_toInt (by omega), show (0 : Int32).toInt = 0 from rfl]
  omega
theorem in_toInt {a b c : Int64} : F_X6_in a b c = true ↔ b.toInt ≤ a.toInt ∧ a.toInt ≤ c.toInt := by
  rw [F_X6_in, tw, Int64.lt_iff_toInt_lt, Int64.lt_iff_toInt_lt]
  omega
theorem wi_toInt {a b c : Int32} : F_X5_isWithin a b c = true ↔ b.toInt ≤ a.toInt ∧ a.toInt ≤ c.toInt := by
  rw [F_X5_isWithin, tw, Int32.lt_iff_toInt_lt, Int32.lt_iff_toInt_lt]
  omega
theorem in_w {x a b : Int32} {a' b' : Int64} (ha : a' = a.toInt64) (hb : b' = b.toInt64) : F_X6_in x.toInt64 a' b' = F_X5_isWithin x a b := by
  rw [Bool.eq_iff_iff, in_toInt, wi_toInt, ha, hb, Int32.toInt_toInt64, Int32.toInt_toInt64, Int32.toInt_toInt64]
theorem lN1 {m : Nat} (hm : m ≤ 6000) : (lN m - 1).toInt = (m : Int) - 1 := by
  have e : (lN m).toInt = m := pk_lT (by omega)
  have e1 : (1 : Int64).toInt = 1 := rfl
  rw [fb_subL (by omega) (by omega), e, e1]
theorem isM_B {B : MM} {m : Nat} {x : Int32} (h : gL B 1 5668 = lN m) (hm : m ≤ 40) : F_X6_isMember x B = ib x m := by
  rw [F_X6_isMember, h, Bool.eq_iff_iff, in_toInt, ibm, Int32.toInt_toInt64, lN1 (by omega), show (0 : Int64).toInt = 0 from rfl]
  omega
theorem isR_B {B : MM} {m : Nat} {x : Int32} (h : gL B 1 5669 = lN m) (hm : m ≤ 40) : F_X6_isClass x B = ib x m := by
  rw [F_X6_isClass, h, Bool.eq_iff_iff, in_toInt, ibm, Int32.toInt_toInt64, lN1 (by omega), show (0 : Int64).toInt = 0 from rfl]
  omega
theorem isS_B {B : MM} {m : Nat} {x : Int32} (h : gL B 1 5670 = lN m) (hm : m ≤ 40) : F_X6_isShare x B = ib x m := by
  rw [F_X6_isShare, h, Bool.eq_iff_iff, in_toInt, ibm, Int32.toInt_toInt64, lN1 (by omega), show (0 : Int64).toInt = 0 from rfl]
  omega
theorem age_A {x : Int32} : F_X5_isAge x = ib x 111 := by
  rw [F_X5_isAge, Bool.eq_iff_iff, wi_toInt, ibm, show (0 : Int32).toInt = 0 from rfl, show (110 : Int32).toInt = 110 from rfl]
  omega
theorem age_B {x : Int32} : F_X6_in x.toInt64 0 110 = ib x 111 := by
  rw [Bool.eq_iff_iff, in_toInt, ibm, Int32.toInt_toInt64, show (0 : Int64).toInt = 0 from rfl, show (110 : Int64).toInt = 110 from rfl]
  omega
section CntRows
variable {K : KT} {m r s y : Nat} {A B : MM}
theorem Eqv.cm (h : Eqv K m r s A B) (g : R_s m r s y A) : gL B 1 5668 = lN m := by rw [h.sc4, g.1, nIw (by have := h.1.1; omega)]
theorem Eqv.cr (h : Eqv K m r s A B) (g : R_s m r s y A) : gL B 1 5669 = lN r := by rw [h.sc5, g.2.1, nIw (by have := h.1.2.1; omega)]
theorem Eqv.cs (h : Eqv K m r s A B) (g : R_s m r s y A) : gL B 1 5670 = lN s := by rw [h.sc6, g.2.2.1, nIw (by have := h.1.2.2; omega)]
theorem Eqv.cy (h : Eqv K m r s A B) (g : R_s m r s y A) : gL B 1 5663 = lN y := by rw [h.sc7, g.2.2.2.1, nIw (by have := g.2.2.2.2.1; omega)]
end CntRows

/-! ===== the relation in the middle of close: each share at a year of its own, the sums at most b ===== -/
def CM (b k : Int) (K : KT) (m r s y : Nat) (Y : Nat → Nat) (P : Nat → Prop) (A B : MM) : Prop := Eqv K m r s A B ∧ R_s m r s y A ∧ R_t A ∧ R_m m A ∧ R_k r s A ∧ (∀ i, i < s → R_g m r (Y i) A B i (P i)) ∧ (∀ i, i < s → R_p m A B i) ∧ (0 ≤ (gL A 1 10).toInt ∧ (gL A 1 10).toInt + sumZ (heI B) s ≤ b) ∧ R_d k m A
set_option maxHeartbeats 4000000 in
theorem CM.pay {b b' k : Int} {K : KT} {m r s y N : Nat} {Y : Nat → Nat} {P : Nat → Prop} {A B : MM} (h : CM b k K m r s y Y P A B) {i : Nat} (hi : i < s) {a : Int64} (ha : 0 ≤ a.toInt) (hb' : b' ≤ 10000000000) (hsl : (gL A 1 10).toInt + sumZ (heI B) s + a.toInt ≤ b') : ∃ (A' B' : MM), F_X0_payOut N (37 + i) a A = some A' ∧ F_X6_pays N (nI i) a B = some B' ∧ CM b' k K m r s y Y P A' B' ∧ gI A' = gI A ∧ gI B' = gI B ∧ (∀ c', c' ≠ 1 → gL B' c' = gL B c') ∧ (∀ z j, 31 ≤ z → z < 37 ∨ 77 ≤ z → gL A' z j = gL A z j) := by
  obtain ⟨he, hs, ht, hm, hkk, hh, hp, hf, hb⟩ := h
  have c1 : m ≤ 24 := he.1.1
  have c2 : r ≤ 6 := he.1.2.1
  have c3 : s ≤ 40 := he.1.2.2
  have hy : y ≤ 60 := hs.2.2.2.2.1
  have hT : 0 ≤ sumZ (heI B) s := sumZ_nn (fun q hq => (hh q hq).hn)
  have hcar := hf.1
  obtain ⟨h0, ho, li, ra, u, kn, si, su, un, hf2, h1, -⟩ := hh i hi
  have hho : ho < m := h1.2.2.2.2.2.2.2.2.2.1
  obtain ⟨A', B', t, q, hq, g1, g2, g3, g4, g5, g6, g7, g8, g9, g10, g11, g12, g13, g14⟩ := pays_sim (N := N) he hs hi h1.1 hho (hp i hi) ha (by omega) (hb ho hho).1
  have ecar : (gL A' 1 10).toInt = (gL A 1 10).toInt + t.toInt := by rw [g9, fb_addL (by omega) (by omega)]
  have eheI : ∀ z, z < s → heI B' z = heI B z := fun z hz => heI_of (fun j hj => g7 _ (by omega) (by omega) (by omega))
  have gi : ∀ c j, gI A' c j = gI A c j := fun c j => by rw [g4]
  refine ⟨A', B', g1, g2, ⟨g3, ?_, ?_, ?_, ?_, fun z hz => ?_, fun z hz => ?_, ?_, fun z hz => ?_⟩, g4, g5, g8, fun z j h1 h2 => g6 z j (by omega) (by omega) (by omega) (by omega)⟩
  · unfold R_s at *
    simp only [gi]
    exact hs
  · intro z hz
    rw [gi]
    exact ht z hz
  · intro z hz
    rw [gi, gi, gi]
    exact hm z hz
  · intro z hz
    rw [gi, gi, gi, g6 _ _ (by omega) (by omega) (by omega) (by omega)]
    exact hkk z hz
  · obtain ⟨h0, ho, li, ra, u, kn, si, su, un, hf2, h1, h2, h3, h4⟩ := hh z hz
    refine ⟨?_, ho, li, ra, u, kn, si, su, un, hf2, ?_, ?_, h3, fun j hj => ?_⟩
    · unfold R_o at *
      rw [gi]
      exact h0
    · unfold R_v at *
      simp only [gi]
      exact h1
    · rw [g7 _ (by omega) (by omega) (by omega)]
      exact h2
    · rw [g7 _ (by omega) (by omega) (by omega), g6 _ _ (by omega) (by omega) (by omega) (by omega)]
      exact h4 j hj
  · by_cases e : z = i
    · subst e; exact g14
    · obtain ⟨q2, q3, q4, q5⟩ := hp z hz
      refine ⟨q2, q3, ?_, ?_⟩
      · rw [g7 _ (by omega) (by omega) (by omega)]
        exact q4
      · rw [gi, g6 _ _ (by omega) (by omega) (by omega) (by omega)]
        exact q5
  · rw [sumZ_congr eheI, ecar]
    constructor <;> omega
  · by_cases e : z = ho
    · subst e
      have q2 := hb z hz
      have q9 := fb_rngL (gL A (7 + z) 2)
      rw [g10, fb_subL (by omega) (by omega)]
      constructor <;> omega
    · rw [g6 _ _ (by omega) (by omega) (by omega) (by omega)]
      exact hb z hz
set_option maxHeartbeats 4000000 in
/-- share j alone changes -/
theorem CM.set {b b2 k : Int} {K : KT} {m r s y : Nat} {Y Y2 : Nat → Nat} {P P2 : Nat → Prop} {A B A2 B2 : MM} (h : CM b k K m r s y Y P A B) {j : Nat} (hj : j < s) (he2 : Eqv K m r s A2 B2) (a1 : ∀ c z, ¬ (c = 37 + j ∧ (z = 10 ∨ z = 14)) → gI A2 c z = gI A c z) (a2 : ∀ c z, c ≠ 77 + j → gL A2 c z = gL A c z) (b1 : ∀ q, (q < 863 + 60 * j ∨ 863 + 60 * j + 60 ≤ q) → (q < 3263 + 60 * j ∨ 3263 + 60 * j + 60 ≤ q) → q ≠ 303 + 14 * j + 10 → gL B2 1 q = gL B 1 q) (hg : R_g m r (Y2 j) A2 B2 j (P2 j)) (hY : ∀ i, i < s → i ≠ j → Y2 i = Y i ∧ (P2 i → P i)) (hb2 : (gL A 1 10).toInt + sumZ (heI B2) s ≤ b2) : CM b2 k K m r s y Y2 P2 A2 B2 := by
  obtain ⟨he, hs, ht, hm, hkk, hh, hp, hf, hb⟩ := h
  have c1 : m ≤ 24 := he.1.1
  have c2 : r ≤ 6 := he.1.2.1
  have c3 : s ≤ 40 := he.1.2.2
  refine ⟨he2, ?_, fun z hz => ?_, fun z hz => ?_, fun z hz => ?_, fun z hz => ?_, fun z hz => ?_, ?_, fun z hz => ?_⟩
  · unfold R_s at *
    rw [a1 1 4 (by omega), a1 1 5 (by omega), a1 1 6 (by omega), a1 1 7 (by omega), a1 1 9 (by omega)]
    exact hs
  · rw [a1 3 z (by omega)]
    exact ht z hz
  · rw [a1 _ 0 (by omega), a1 _ 3 (by omega), a1 _ 6 (by omega)]
    exact hm z hz
  · rw [a1 _ _ (by omega), a1 _ _ (by omega), a1 _ _ (by omega), a2 _ _ (by omega)]
    exact hkk z hz
  · by_cases e : z = j
    · subst e; exact hg
    · obtain ⟨e1, e2⟩ := hY z hz e
      rw [e1]
      obtain ⟨h0, ho, li, ra, u, kn, si, su, un, hf2, h1, h2, h3, h4⟩ := hh z hz
      refine ⟨?_, ho, li, ra, u, kn, si, su, un, hf2, ?_, ?_, fun q => h3 (q.imp e2 id), fun w hw => ?_⟩
      · unfold R_o at *
        rw [a1 _ _ (by omega)]
        exact h0
      · unfold R_v at *
        rw [a1 _ 0 (by omega), a1 _ 1 (by omega), a1 _ 4 (by omega), a1 _ 3 (by omega), a1 _ 5 (by omega), a1 _ 8 (by omega), a1 _ 9 (by omega), a1 _ 10 (by omega), a1 _ 14 (by omega)]
        exact h1
      · rw [b1 _ (by omega) (by omega) (by omega)]
        exact h2
      · rw [b1 _ (by omega) (by omega) (by omega), a2 _ _ (by omega)]
        exact h4 w hw
  · obtain ⟨q, q1, q2, q3⟩ := hp z hz
    refine ⟨q, q1, ?_, ?_⟩
    · rw [b1 _ (by omega) (by omega) (by omega)]
      exact q2
    · rw [a1 _ _ (by omega), a2 _ _ (by omega)]
      exact q3
  · rw [a2 _ _ (by omega)]
    exact ⟨hf.1, hb2⟩
  · rw [a2 _ _ (by omega)]
    exact hb z hz
theorem heI_fr {B B2 : MM} {j s : Nat} (hs : s ≤ 40) (h : ∀ q, 3263 ≤ q → q < 5663 → (q < 3263 + 60 * j ∨ 3263 + 60 * j + 60 ≤ q) → gL B2 1 q = gL B 1 q) : ∀ z, z < s → z ≠ j → heI B2 z = heI B z := fun z hz hne => heI_of (fun w hw => h _ (by omega) (by omega) (by omega))
section CSteps
variable {b k : Int} {K : KT} {m r s y : Nat} {Y : Nat → Nat} {P : Nat → Prop} {A B : MM}
/-- how long share j hasn't been proved -/
theorem CM.un (h : CM b k K m r s y Y P A B) {j un : Nat} (hj : j < s) (hu : un ≤ Y j) (hY : Y j ≤ 100) {w : Int64} (hw : w = lN un) : CM b k K m r s y Y P (sI A (37 + j) 10 (nI un)) (sL B 1 (303 + 14 * j + 10) w) := by
  have c3 : s ≤ 40 := h.1.1.2.2
  refine h.set (Y2 := Y) (P2 := P) hj (h.1.I (v_s10 hj) (t_s10 (by omega)) (z_s10 (by omega)) _ (n_s10 (by omega)) (by rw [hw, nIw (by omega)])) (fun c z q => by rw [gIn (by omega)]) (fun c z q => rfl) (fun q q1 q2 q3 => by rw [gLn (by omega)]) (((h.2.2.2.2.2.1 j hj).un hu).fB (by omega) (by omega) (by omega)) (fun i _ _ => ⟨rfl, id⟩) ?_
  rw [sumZ_congr (f := heI (sL B 1 (303 + 14 * j + 10) w)) (g := heI B) (fun i hi => heI_fB (by omega) (by omega))]
  exact h.2.2.2.2.2.2.2.1.2
theorem CM.cb {b' : Int} (h : CM b k K m r s y Y P A B) (hb : (gL A 1 10).toInt + sumZ (heI B) s ≤ b') : CM b' k K m r s y Y P A B := by
  obtain ⟨h1, h2, h3, h4, h5, h6, h7, h8, h9⟩ := h
  exact ⟨h1, h2, h3, h4, h5, h6, h7, ⟨h8.1, hb⟩, h9⟩
/-- a year later, nothing drawn -/
theorem R_g.next {Q : Prop} {i : Nat} (h : R_g m r y A B i Q) (hn : ¬ y < ix (gI A (37 + i) 9)) : R_g m r (y + 1) A B i False := by
  obtain ⟨h0, ho, li, ra, u, kn, si, su, un, hf, h1, h2, h3, h4⟩ := h
  obtain ⟨v0, v1, v4, v3, v5, v8, v9, v10, v14, r0, r1, r4, r3, r3', r5, r8, r9, r9', r95, r10, r14⟩ := h1
  rw [v9, ixn (by omega)] at hn
  refine ⟨h0, ho, li, ra, u, kn, si, su, un, hf, ⟨v0, v1, v4, v3, v5, v8, v9, v10, v14, r0, r1, r4, r3, r3', r5, by omega, r9, r9', r95, by omega, by omega⟩, h2, fun q => ?_, fun j hj => ?_⟩
  · rcases q with q | q
    · exact q.elim
    · omega
  · obtain ⟨q1, q2, q3, q4, q5⟩ := h4 j hj
    exact ⟨q1, q2, q3, fun q => q4 (by omega), q5⟩
theorem CM.next (h : CM b k K m r s y Y P A B) {j : Nat} (hj : j < s) (hYj : Y j = y) (hn : ¬ y < ix (gI A (37 + j) 9)) {Y2 : Nat → Nat} {P2 : Nat → Prop} (hY2 : Y2 j = y + 1) (hP2 : ¬ P2 j) (hY : ∀ i, i < s → i ≠ j → Y2 i = Y i ∧ (P2 i → P i)) : CM b k K m r s y Y2 P2 A B := by
  have hg := h.2.2.2.2.2.1 j hj
  rw [hYj] at hg
  refine h.set hj h.1 (fun _ _ _ => rfl) (fun _ _ _ => rfl) (fun _ _ _ _ => rfl) (by rw [hY2]; exact (hg.next hn).mono (fun q => hP2 q)) hY h.2.2.2.2.2.2.2.1.2
/-- share j is LIVE and draws: at once -/
theorem CM.live (h : CM b k K m r s y Y P A B) {j d : Nat} (hj : j < s) (hYj : Y j = y) (hy : y < 60) (hd : d ≤ 6200000000) (hl : P j ∨ y < ix (gI A (37 + j) 9)) {Y2 : Nat → Nat} {P2 : Nat → Prop} (hY2 : Y2 j = y + 1) (hY : ∀ i, i < s → i ≠ j → Y2 i = Y i ∧ (P2 i → P i)) : CM b k K m r s y Y2 P2 (sI (sL A (77 + j) y (lN d)) (37 + j) 14 (nI (y + 1))) (sL B 1 (863 + 60 * j + y) (lN d)) := by
  have c3 : s ≤ 40 := h.1.1.2.2
  have hg := h.2.2.2.2.2.1 j hj
  have e1 := h.1.L (v_d hj hy) t_d (lN d) n_d
  have e2 := e1.aI (c := 37 + j) (k := 14) (by unfold val; omega) (by omega) (nI (y + 1))
  refine h.set hj e2 (fun c z q => by rw [gIn (by omega), gIsL]) (fun c z q => by rw [gLsI, gLn (by omega)]) (fun q q1 q2 q3 => by rw [gLn (by omega)]) ?_ hY ?_
  · rw [hY2]
    rw [hYj] at hg
    obtain ⟨h0, ho, li, ra, u, kn, si, su, un, hf, h1, h2, h3, h4⟩ := hg
    obtain ⟨v0, v1, v4, v3, v5, v8, v9, v10, v14, r0, r1, r4, r3, r3', r5, r8, r9, r9', r95, r10, r14⟩ := h1
    rw [v9, ixn (by omega)] at hl
    have hfy := h3 hl
    refine ⟨?_, ho, li, ra, u, kn, si, su, un, y + 1, ?_, ?_, fun _ => rfl, fun z hz => ?_⟩
    · unfold R_o at *
      rw [gIn (by omega), gIsL]
      exact h0
    · unfold R_v
      simp (disch := omega) only [gIn, gIsL, gIe]
      exact ⟨v0, v1, v4, v3, v5, v8, v9, v10, trivial, r0, r1, r4, r3, r3', r5, by omega, r9, r9', r95, by omega, Nat.le_refl _⟩
    · rw [gLn (by omega)]
      exact h2
    · obtain ⟨q1, q2, q3, q4, q5⟩ := h4 z hz
      rw [gLn (by omega), gLsI, q1, hfy]
      by_cases e : z = y
      · subst e
        rw [gLe, if_pos (Nat.le_refl _), if_neg (by omega), q4 (by omega), pk_lT (by omega)]
        exact ⟨rfl, by omega, by omega, fun q => by omega, fun q => by omega⟩
      · rw [gLn (by omega)]
        refine ⟨?_, q2, q3, fun q => q4 (by omega), q5⟩
        by_cases e2 : y ≤ z
        · rw [if_pos e2, if_pos (by omega)]
        · rw [if_neg e2, if_neg (by omega)]
  · rw [sumZ_congr (f := heI (sL B 1 (863 + 60 * j + y) (lN d))) (g := heI B) (fun i hi => heI_fB (by omega) (by omega))]
    exact h.2.2.2.2.2.2.2.1.2
/-- share j WAITS: what it draws is held -/
theorem CM.wait {b' : Int} (h : CM b k K m r s y Y P A B) {j d : Nat} (hj : j < s) (hYj : Y j = y) (hy : y < 60) (hd : d ≤ 6200000000) (hn : ¬ y < ix (gI A (37 + j) 9)) {Y2 : Nat → Nat} {P2 : Nat → Prop} (hY2 : Y2 j = y + 1) (hP2 : ¬ P2 j) (hY : ∀ i, i < s → i ≠ j → Y2 i = Y i ∧ (P2 i → P i)) (hb' : (gL A 1 10).toInt + sumZ (heI B) s + d ≤ b') : CM b' k K m r s y Y2 P2 (sL A (77 + j) y (lN d)) (sL (sL B 1 (863 + 60 * j + y) (lN d)) 1 (3263 + 60 * j + y) (lN d)) ∧ (gL A 1 10).toInt + sumZ (heI (sL (sL B 1 (863 + 60 * j + y) (lN d)) 1 (3263 + 60 * j + y) (lN d))) s = (gL A 1 10).toInt + sumZ (heI B) s + d := by
  have hc := h.1.1
  have c3 : s ≤ 40 := h.1.1.2.2
  have hg := h.2.2.2.2.2.1 j hj
  have e1 := h.1.L (v_d hj hy) t_d (lN d) n_d
  have e2 := e1.b (j := 3263 + 60 * j + y) (fun c z hv => enc_he hc hv (show j < 40 by omega) hy) (lN d)
  obtain ⟨B2, hB2⟩ : ∃ B2, B2 = sL (sL B 1 (863 + 60 * j + y) (lN d)) 1 (3263 + 60 * j + y) (lN d) := ⟨_, rfl⟩
  rw [← hB2] at e2 ⊢
  rw [hYj] at hg
  obtain ⟨h0, ho, li, ra, u, kn, si, su, un, hf, h1, h2, h3, h4⟩ := hg
  obtain ⟨v0, v1, v4, v3, v5, v8, v9, v10, v14, r0, r1, r4, r3, r3', r5, r8, r9, r9', r95, r10, r14⟩ := h1
  rw [v9, ixn (by omega)] at hn
  have hz0 : gL B 1 (3263 + 60 * j + y) = 0 := by
    rw [(h4 y hy).1, if_pos (by omega)]
    exact (h4 y hy).2.2.2.1 (Nat.le_refl _)
  have ehj : heI B2 j = heI B j + d := by
    unfold heI
    rw [sumZ_upd (f := fun w => (gL B 1 (3263 + 60 * j + w)).toInt) (g := fun w => (gL B2 1 (3263 + 60 * j + w)).toInt) hy (fun w hw hne => by rw [hB2, gLn (by omega), gLn (by omega)])]
    rw [hz0, hB2, gLe, pk_lT (by omega), show (0 : Int64).toInt = 0 from rfl]
    omega
  have eS : sumZ (heI B2) s = sumZ (heI B) s - heI B j + heI B2 j := sumZ_upd hj (heI_fr c3 (fun q q1 q2 q3 => by rw [hB2, gLn (by omega), gLn (by omega)]))
  refine ⟨h.set hj e2 (fun c z q => rfl) (fun c z q => by rw [gLn (by omega)]) (fun q q1 q2 q3 => by rw [hB2, gLn (by omega), gLn (by omega)]) ?_ hY (by omega), by omega⟩
  rw [hY2]
  refine ⟨h0, ho, li, ra, u, kn, si, su, un, hf, ⟨v0, v1, v4, v3, v5, v8, v9, v10, v14, r0, r1, r4, r3, r3', r5, by omega, r9, r9', r95, by omega, by omega⟩, ?_, fun q => ?_, fun z hz => ?_⟩
  · rw [hB2, gLn (by omega), gLn (by omega)]
    exact h2
  · rcases q with q | q
    · exact absurd q hP2
    · omega
  · obtain ⟨q1, q2, q3, q4, q5⟩ := h4 z hz
    by_cases e : z = y
    · subst e
      rw [hB2, gLe, gLe, if_pos (by omega), pk_lT (by omega)]
      exact ⟨rfl, by omega, by omega, fun q => by omega, fun q => by omega⟩
    · rw [hB2, gLn (by omega), gLn (by omega), gLn (by omega)]
      exact ⟨q1, q2, q3, fun q => q4 (by omega), q5⟩
end CSteps
section HowFr
variable {m r s y N i : Nat} {A A' : MM}
theorem how_fr (hs : R_s m r s y A) (hs' : R_s m r s y A') (c1 : m ≤ 24) (h37 : ∀ z, gI A' (37 + i) z = gI A (37 + i) z) (hlo : ∀ c z, c < 37 → gI A' c z = gI A c z) {li : Nat} (h1 : gI A (37 + i) 1 = nI li) (hl : li < m) (ho : R_o m A i) : F_X0_howItIs N (37 + i) A' = F_X0_howItIs N (37 + i) A := by
  have ho' : R_o m A' i := by unfold R_o at *; rw [h37]; exact ho
  have p1 : pB A' li = pB A li := by unfold pB; rw [hlo _ _ (by omega)]
  have d1 : dB A' li = dB A li := by unfold dB; rw [hlo _ _ (by omega)]
  rw [F_X0_howItIs, F_X0_howItIs, h37, h37, h37, h37, h1, prov_A hs' c1 hl, prov_A hs c1 hl, p1, allD_A hs' c1 (by rw [h37]; exact h1) hl ho', allD_A hs c1 h1 hl ho, hs'.2.2.2.1, hs.2.2.2.1, hlo 1 8 (by omega)]
  rcases ho with q | ⟨j, hj, q⟩
  · have a : aD A' i li = aD A i li := by
      unfold aD
      rw [h37, d1, q]
      rfl
    rw [a, q, prov_N hs' c1, prov_N hs c1]
  · have p2 : pB A' j = pB A j := by unfold pB; rw [hlo _ _ (by omega)]
    have d2 : dB A' j = dB A j := by unfold dB; rw [hlo _ _ (by omega)]
    have a : aD A' i li = aD A i li := by
      unfold aD
      rw [h37, d1, q, ixn (by omega), d2]
    rw [a, q, prov_A hs' c1 hj, prov_A hs c1 hj, p2]
end HowFr

def M0 : MM := (fun c k => if kd c = 7 then t0 k else if kd c = 0 ∧ k = 8 then 2 else 0, fun _ _ => 0)
def entB (E : EE) (f : Nat → Nat) (c : Nat) : va_E := entC E (fun c => f (c - 1)) 0 M0 (c + 1)
def posB (c : Nat) : Nat := if c < 36 then c else if c < 76 then 36 + 2 * (c - 36) else 37 + 2 * (c - 76)
theorem posB_inj {c d : Nat} (h1 : c < 116) (h2 : d < 116) (h : posB c = posB d) : c = d := by
  unfold posB at h
  split at h <;> split at h <;> (try split at h) <;> (try split at h) <;> omega
theorem M0_I {c k : Nat} (h1 : kd c ≠ 7) (h2 : kd c ≠ 0) : gI M0 c k = 0 := by simp [gI, M0, h1, h2]
theorem M0_L {c k : Nat} : gL M0 c k = 0 := rfl
theorem fB1 {ad : Nat → Nat} {c : Nat} (h : kd c = 1) : fsX1 ad M0 c = z1 := by
  simp [fsX1, z1, M0_I (c := c) (by omega) (by omega), M0_L, bo]
theorem fB2 {ad : Nat → Nat} {c : Nat} (h : kd c = 2) : fsX2 ad M0 c = z2 := by
  simp [fsX2, z2, M0_I (c := c) (by omega) (by omega), M0_L]
theorem fB3 {ad : Nat → Nat} {c : Nat} (h : kd c = 3) : fsX3 ad M0 c = z3d (ad (c + 40)) := by
  simp [fsX3, z3d, M0_I (c := c) (by omega) (by omega), M0_L, bo]
theorem fB0 {ad : Nat → Nat} {c : Nat} (h : kd c = 0) : fsX0 ad M0 c = [.ref (ad (c + 1)), .ref (ad (c + 3)), .ref (ad (c + 4)), .ref (ad (c + 5)), .int 0, .int 0, .int 0, .int 0, .int 2, .int 0, .long 0, .long 0, .long 0] := by
  simp [fsX0, gI, gL, M0, h]
theorem fB7 {c : Nat} (h : kd c = 7) : gI M0 c = t0 := by funext k; simp [gI, M0, h]
theorem fB8 {c : Nat} : gL M0 c = fun _ => 0 := rfl
def xbk (tb ma ra sa : Nat) : va_E := .inr (0, [.ref tb, .ref ma, .ref ra, .ref sa, .int 0, .int 0, .int 0, .int 0, .int 2, .int 0, .long 0, .long 0, .long 0])
def wsB (E : EE) (h0 tb al ma ra sa : Nat) (g : Nat → Int32) (fm fr fs : Nat → Option Nat) (L : va_W) : va_W :=
  (h0, xbk tb ma ra sa) :: (tb, .inr (4, [.ref al])) :: (al, .inl (E.2 0, 111, .inl g)) :: (ma, .inl (E.2 2, 24, .inr (.inr (.inr (.inr fm))))) :: (ra, .inl (E.2 3, 6, .inr (.inr (.inr (.inr fr))))) :: (sa, .inl (E.2 4, 40, .inr (.inr (.inr (.inr fs))))) :: L
def okM (L : va_W) (fm : Nat → Option Nat) (j : Nat) : Prop := ∀ i, i < j → ∃ x, L[i]? = some (x, .inr (1, z1)) ∧ fm i = some x
def okR (L : va_W) (fr : Nat → Option Nat) (j : Nat) : Prop := ∀ i, i < j → ∃ x, L[24 + i]? = some (x, .inr (2, z2)) ∧ fr i = some x
def okS (E : EE) (L : va_W) (fs : Nat → Option Nat) (j : Nat) : Prop := ∀ i, i < j → ∃ x d, L[30 + 2 * i]? = some (x, .inr (3, z3d d)) ∧ L[30 + 2 * i + 1]? = some (d, .inl (E.2 1, 60, .inr (.inl (fun _ => 0)))) ∧ fs i = some x
theorem at6 {α : Type} {x0 x1 x2 x3 x4 x5 : α} {L : List α} (i : Nat) : (x0 :: x1 :: x2 :: x3 :: x4 :: x5 :: L)[6 + i]? = L[i]? := by
  rw [show 6 + i = i + 1 + 1 + 1 + 1 + 1 + 1 by omega]
  simp only [List.getElem?_cons_succ]
theorem app_l {α : Type} {L L2 : List α} {i : Nat} {x : α} (h : L[i]? = some x) : (L ++ L2)[i]? = some x := by
  rw [List.getElem?_append_left (List.getElem?_eq_some_iff.mp h).1]; exact h
theorem app_e {α : Type} {L : List α} {x : α} {j : Nat} (h : L.length = j) : (L ++ [x])[j]? = some x := by subst h; simp
def postB (E : EE) (h0 sz : Nat) : Array Value → State → Outcome → State → Prop := va_Qv (fun (f : Nat → Nat) => f 0 = h0 ∧ ad_I f 116 ∧ ∀ c, 0 < c → c < 116 → sz ≤ f c) (fun f t => va_P E.1 vwCl (mw (entB E f) f 116) t.heap) (va_A [(h0, .inr (0, z0))] sz)
set_option maxHeartbeats 4000000 in
set_option maxRecDepth 100000 in
theorem finB {E : EE} {h0 tb al ma ra sa sz : Nat} {g : Nat → Int32} {fm fr fs : Nat → Option Nat} {L : va_W} {H : Heap} (hP : va_P E.1 vwCl (wsB E h0 tb al ma ra sa g fm fr fs L) H) (hD : va_D (va_A [(h0, .inr (0, z0))] sz) (wsB E h0 tb al ma ra sa g fm fr fs L)) (hg : ∀ i, i < 111 → g i = t0 i) (h1 : okM L fm 24) (h2 : okR L fr 6) (h3 : okS E L fs 40) : ∃ f : Nat → Nat, (f 0 = h0 ∧ ad_I f 116 ∧ ∀ c, 0 < c → c < 116 → sz ≤ f c) ∧ va_P E.1 vwCl (mw (entB E f) f 116) H := by
  obtain ⟨f, hf⟩ : ∃ f : Nat → Nat, ∀ c, f c = (((wsB E h0 tb al ma ra sa g fm fr fs L)[posB c]?).map Prod.fst).getD 0 := ⟨_, fun _ => rfl⟩
  have f0 : f 0 = h0 := hf 0
  have f1 : f 1 = tb := hf 1
  have f2 : f 2 = al := hf 2
  have f3 : f 3 = ma := hf 3
  have f4 : f 4 = ra := hf 4
  have f5 : f 5 = sa := hf 5
  have gm : ∀ i, i < 24 → ∃ x, f (6 + i) = x ∧ (wsB E h0 tb al ma ra sa g fm fr fs L)[6 + i]? = some (x, .inr (1, z1)) ∧ fm i = some x := by
    intro i hi
    obtain ⟨x, a1, a2⟩ := h1 i hi
    have a3 : (wsB E h0 tb al ma ra sa g fm fr fs L)[6 + i]? = some (x, .inr (1, z1)) := (at6 i).trans a1
    refine ⟨x, ?_, a3, a2⟩
    rw [hf, show posB (6 + i) = 6 + i by unfold posB; rw [if_pos (by omega)], a3]; rfl
  have gr : ∀ i, i < 6 → ∃ x, f (30 + i) = x ∧ (wsB E h0 tb al ma ra sa g fm fr fs L)[30 + i]? = some (x, .inr (2, z2)) ∧ fr i = some x := by
    intro i hi
    obtain ⟨x, a1, a2⟩ := h2 i hi
    have a3 : (wsB E h0 tb al ma ra sa g fm fr fs L)[30 + i]? = some (x, .inr (2, z2)) := by
      rw [show 30 + i = 6 + (24 + i) by omega]; exact (at6 (24 + i)).trans a1
    refine ⟨x, ?_, a3, a2⟩
    rw [hf, show posB (30 + i) = 30 + i by unfold posB; rw [if_pos (by omega)], a3]; rfl
  have gs : ∀ i, i < 40 → ∃ x d, f (36 + i) = x ∧ f (76 + i) = d ∧ (wsB E h0 tb al ma ra sa g fm fr fs L)[36 + 2 * i]? = some (x, .inr (3, z3d d)) ∧ (wsB E h0 tb al ma ra sa g fm fr fs L)[37 + 2 * i]? = some (d, .inl (E.2 1, 60, .inr (.inl (fun _ => 0)))) ∧ fs i = some x := by
    intro i hi
    obtain ⟨x, d, a1, a2, a4⟩ := h3 i hi
    have a3 : (wsB E h0 tb al ma ra sa g fm fr fs L)[36 + 2 * i]? = some (x, .inr (3, z3d d)) := by
      rw [show 36 + 2 * i = 6 + (30 + 2 * i) by omega]; exact (at6 (30 + 2 * i)).trans a1
    have a5 : (wsB E h0 tb al ma ra sa g fm fr fs L)[37 + 2 * i]? = some (d, .inl (E.2 1, 60, .inr (.inl (fun _ => 0)))) := by
      rw [show 37 + 2 * i = 6 + (30 + 2 * i + 1) by omega]; exact (at6 (30 + 2 * i + 1)).trans a2
    refine ⟨x, d, ?_, ?_, a3, a5, a4⟩
    · rw [hf, show posB (36 + i) = 36 + 2 * i by unfold posB; rw [if_neg (by omega), if_pos (by omega)]; omega, a3]; rfl
    · rw [hf, show posB (76 + i) = 37 + 2 * i by unfold posB; rw [if_neg (by omega), if_neg (by omega)]; omega, a5]; rfl
  -- every code stands at its place
  have hat : ∀ c, c < 116 → ∃ e, (wsB E h0 tb al ma ra sa g fm fr fs L)[posB c]? = some (f c, e) ∧ va_at E.1 vwCl (f c, entB E f c) H := by
    intro c hc
    rcases (show c = 0 ∨ c = 1 ∨ c = 2 ∨ c = 3 ∨ c = 4 ∨ c = 5 ∨ (∃ i, i < 24 ∧ c = 6 + i) ∨ (∃ i, i < 6 ∧ c = 30 + i) ∨ (∃ i, i < 40 ∧ c = 36 + i) ∨ (∃ i, i < 40 ∧ c = 76 + i) from by
      by_cases q1 : c < 6
      · omega
      · by_cases q2 : c < 30
        · exact Or.inr (Or.inr (Or.inr (Or.inr (Or.inr (Or.inr (Or.inl ⟨c - 6, by omega, by omega⟩))))))
        · by_cases q3 : c < 36
          · exact Or.inr (Or.inr (Or.inr (Or.inr (Or.inr (Or.inr (Or.inr (Or.inl ⟨c - 30, by omega, by omega⟩)))))))
          · by_cases q4 : c < 76
            · exact Or.inr (Or.inr (Or.inr (Or.inr (Or.inr (Or.inr (Or.inr (Or.inr (Or.inl ⟨c - 36, by omega, by omega⟩))))))))
            · exact Or.inr (Or.inr (Or.inr (Or.inr (Or.inr (Or.inr (Or.inr (Or.inr (Or.inr ⟨c - 76, by omega, by omega⟩))))))))) with rfl | rfl | rfl | rfl | rfl | rfl | ⟨i, hi, rfl⟩ | ⟨i, hi, rfl⟩ | ⟨i, hi, rfl⟩ | ⟨i, hi, rfl⟩
    · have q := hP 0 _ rfl
      have k0 : kd (0 + 1) = 0 := rfl
      refine ⟨xbk tb ma ra sa, by rw [f0]; rfl, ?_⟩
      unfold entB
      rw [e0 k0, fB0 k0, f0]
      show va_at E.1 vwCl (h0, .inr (0, [.ref (f 1), .ref (f 3), .ref (f 4), .ref (f 5), .int 0, .int 0, .int 0, .int 0, .int 2, .int 0, .long 0, .long 0, .long 0])) H
      rw [f1, f3, f4, f5]
      exact q
    · have q := hP 1 _ rfl
      have k0 : kd (1 + 1) = 4 := rfl
      refine ⟨.inr (4, [.ref al]), by rw [f1]; rfl, ?_⟩
      unfold entB
      rw [e4 k0, f1]
      show va_at E.1 vwCl (tb, .inr (4, [.ref (f 2)])) H
      rw [f2]
      exact q
    · have q := hP 2 _ rfl
      have k0 : kd (2 + 1) = 7 := rfl
      refine ⟨.inl (E.2 0, 111, .inl g), by rw [f2]; rfl, ?_⟩
      unfold entB
      rw [e7 k0, f2, fB7 k0]
      show H[al]? = some (vp_cell _ _)
      rw [← cell_i hg]
      exact q
    · have q := hP 3 _ rfl
      have k0 : kd (3 + 1) = 9 := rfl
      refine ⟨.inl (E.2 2, 24, .inr (.inr (.inr (.inr fm)))), by rw [f3]; rfl, ?_⟩
      unfold entB
      rw [e9 k0, f3]
      show H[ma]? = some (vp_cell _ _)
      rw [cell_q (g := fm) (fun i hi => by
        obtain ⟨x, b1, -, b3⟩ := gm i hi
        show some (f (3 + 1 + 3 + i - 1)) = _
        rw [show 3 + 1 + 3 + i - 1 = 6 + i by omega, b1, b3])]
      exact q
    · have q := hP 4 _ rfl
      have k0 : kd (4 + 1) = 10 := rfl
      refine ⟨.inl (E.2 3, 6, .inr (.inr (.inr (.inr fr)))), by rw [f4]; rfl, ?_⟩
      unfold entB
      rw [e10 k0, f4]
      show H[ra]? = some (vp_cell _ _)
      rw [cell_q (g := fr) (fun i hi => by
        obtain ⟨x, b1, -, b3⟩ := gr i hi
        show some (f (4 + 1 + 26 + i - 1)) = _
        rw [show 4 + 1 + 26 + i - 1 = 30 + i by omega, b1, b3])]
      exact q
    · have q := hP 5 _ rfl
      have k0 : kd (5 + 1) = 11 := rfl
      refine ⟨.inl (E.2 4, 40, .inr (.inr (.inr (.inr fs)))), by rw [f5]; rfl, ?_⟩
      unfold entB
      rw [e11 k0, f5]
      show H[sa]? = some (vp_cell _ _)
      rw [cell_q (g := fs) (fun i hi => by
        obtain ⟨x, d, b1, -, -, -, b3⟩ := gs i hi
        show some (f (5 + 1 + 31 + i - 1)) = _
        rw [show 5 + 1 + 31 + i - 1 = 36 + i by omega, b1, b3])]
      exact q
    · obtain ⟨x, b1, b2, -⟩ := gm i hi
      have k0 : kd (6 + i + 1) = 1 := kd_1.mpr (by omega)
      refine ⟨.inr (1, z1), by rw [show posB (6 + i) = 6 + i by unfold posB; rw [if_pos (by omega)], b2, b1], ?_⟩
      unfold entB
      rw [e1 k0, fB1 k0, b1]
      exact hP _ _ b2
    · obtain ⟨x, b1, b2, -⟩ := gr i hi
      have k0 : kd (30 + i + 1) = 2 := kd_2.mpr (by omega)
      refine ⟨.inr (2, z2), by rw [show posB (30 + i) = 30 + i by unfold posB; rw [if_pos (by omega)], b2, b1], ?_⟩
      unfold entB
      rw [e2 k0, fB2 k0, b1]
      exact hP _ _ b2
    · obtain ⟨x, d, b1, b5, b2, -, -⟩ := gs i hi
      have k0 : kd (36 + i + 1) = 3 := kd_3.mpr (by omega)
      refine ⟨.inr (3, z3d d), by rw [show posB (36 + i) = 36 + 2 * i by unfold posB; rw [if_neg (by omega), if_pos (by omega)]; omega, b2, b1], ?_⟩
      unfold entB
      rw [e3 k0, fB3 k0, b1]
      show va_at E.1 vwCl (x, .inr (3, z3d (f (36 + i + 1 + 40 - 1)))) H
      rw [show 36 + i + 1 + 40 - 1 = 76 + i by omega, b5]
      exact hP _ _ b2
    · obtain ⟨x, d, -, b1, -, b2, -⟩ := gs i hi
      have k0 : kd (76 + i + 1) = 8 := kd_8.mpr (by omega)
      refine ⟨_, by rw [show posB (76 + i) = 37 + 2 * i by unfold posB; rw [if_neg (by omega), if_neg (by omega)]; omega, b2, b1], ?_⟩
      unfold entB
      rw [e8 k0, fB8, b1]
      exact hP _ _ b2
  refine ⟨f, ⟨f0, fun c d hc hd he => ?_, fun c h0c hc => ?_⟩, fun k q hk => ?_⟩
  · obtain ⟨x1, b1, -⟩ := hat c hc
    obtain ⟨x2, b2, -⟩ := hat d hd
    exact posB_inj hc hd (hD.1 _ _ _ _ b1 b2 he)
  · obtain ⟨x1, b1, -⟩ := hat c hc
    rcases hD.2 _ _ b1 with ⟨j, e2, hj⟩ | h
    · have h2 : f c = h0 := congrArg Prod.fst (sing_at hj).2
      have h3 := hD.1 _ 0 _ _ b1 rfl h2
      have h4 : posB c = posB 0 := h3
      have := posB_inj hc (by omega) h4
      omega
    · exact h
  · obtain ⟨hk1, rfl⟩ := mw_get hk
    obtain ⟨-, -, h⟩ := hat k hk1
    exact h
set_option maxHeartbeats 4000000 in
set_option maxRecDepth 100000 in
theorem L_X0_S (l : Launch) (E : EE) {p : Program} {e : Env} {s : State} {m : MethodId} {below : List Frame} {meth : Method} {c : Code} {h0 tb al ma ra sa : Nat} {g : Nat → Int32} (S : CallFix p m c cX0_init 2 s ([.ref h0] : List Value).toArray bg_B "SurvivorPurse$Book") (hr : meth.sig.returnType = none) (hlk : meth.locks = false) (hK : va_K E.1 vwCl (tysE E) s) (hN : NW s) (hg : ∀ i, i < 111 → g i = t0 i) : ∀ (fu j : Nat) (fm fr fs : Nat → Option Nat) (L : va_W), j ≤ 40 → 40 < j + fu → L.length = 30 + 2 * j → okM L fm 24 → okR L fr 6 → okS E L fs j → ∀ (H : Heap) (locs : List Loc) (ls : Array Slot), va_P E.1 vwCl (wsB E h0 tb al ma ra sa g fm fr fs L) H → va_D (va_A [(h0, .inr (0, z0))] s.heap.size) (wsB E h0 tb al ma ra sa g fm fr fs L) → va_S (va_A [(h0, .inr (0, z0))] s.heap.size) s.heap H locs → lv_has ls 2 [(0, .ref h0), (1, .int (nI j))] → W p l e { frames := 2, cells := 115, slots := 3426, locals := 40 } s m ([.ref h0] : List Value).toArray below meth c H locs (35 + 2 * j) (386 + 76 * j) (MQ below (postB E h0 s.heap.size) ([.ref h0] : List Value).toArray s 115 3426 (va_A [(h0, .inr (0, z0))] s.heap.size)) (F0 m 103 ls []) := by
  intro fu
  induction fu with
  | zero => intro j fm fr fs L h1 h2; omega
  | succ fu ih =>
    intro j fm fr fs L hj hfu hL h1 h2 h3 H locs ls hP hD hS hl
    have hA : ∀ a, s.heap.size ≤ a → (va_A [(h0, .inr (0, z0))] s.heap.size) a := fun a h => Or.inr h
    refine lv_iload_n S.1 S.2.1 dX0_init_103 rfl (lv_at hl 1 rfl) ?_
    refine lv_bipush (v := 40) S.1 S.2.1 dX0_init_104 (by decide) ?_
    refine lv_icmp_ge (tgt := 128) S.1 S.2.1 dX0_init_106 (by decide) (fun h => ?_) (fun h => ?_)
    · have hj2 : j = 40 := by
        have := (nI_leI (a := 40) (b := j) (by omega) (by omega)).mp h
        omega
      subst hj2
      obtain ⟨f, hf, hPf⟩ := finB hP hD hg h1 h2 h3
      exact W.vret S.1 S.2.1 hr (fun t ht hW => ⟨⟨f, rfl, hf, by subst ht; exact hPf⟩, hS.F ht⟩) hS.2.2 dX0_init_128
    · have hj2 : j < 40 := by
        rcases Nat.lt_or_ge j 40 with q1 | q1
        · exact q1
        · exact absurd (show nI 40 ≤ nI j from nI_le q1 (by omega)) h
      have ec : (nI j).toNatClampNeg = j := nI_clamp (by omega)
      refine lv_aload_n S.1 S.2.1 dX0_init_109 rfl (lv_at hl 0 rfl) ?_
      refine va_get (D := E.1) (ci := 0) (v := .ref sa) (C := RX0) (T := TX0) (N := 13) S.1 S.2.1 S.2.2.2.2 w_lay_X0 S.2.2.2.1 hK hP 0 rfl rfl 3 (by decide) (S.2.2.2.2 _ w_fl_X0_32) (fun _ h9 => h9) rfl dX0_init_110 ?_
      refine lv_iload_n S.1 S.2.1 dX0_init_113 rfl (lv_at hl 1 rfl) ?_
      refine va_new (ci := 3) (fs := z3) (C := RX3) (T := TX3) (N := 16) S.1 S.2.1 S.2.2.2.2 w_lay_X3 tyX3 tyX3_ok S.2.2.2.1 (S.2.2.2.2 _ w_cl_X0_30) (S.2.2.2.2 _ w_ni_X3) (S.2.2.2.2 _ w_in_X3) hK hP hD hS hA rfl (by decide) (show 35 + 2 * j + 1 ≤ 115 by omega) (show 386 + 76 * j + 16 ≤ 3426 by omega) dX0_init_114 (fun q H hP hD hS => ?_)
      refine lv_dup S.1 S.2.1 dX0_init_117 rfl ?_
      have hq : (wsB E h0 tb al ma ra sa g fm fr fs L ++ [(q, .inr (3, z3))])[6 + L.length]? = some (q, .inr (3, z3)) := (at6 L.length).trans (app_e rfl)
      have hPq : va_P E.1 vwCl [(q, .inr (3, z3))] H := fun k x hx => by rw [(sing_at hx).2]; exact hP _ _ hq
      have hfA : ∀ a, va_A [(q, .inr (3, z3))] H.size a → (va_A [(h0, .inr (0, z0))] s.heap.size) a := by
        rintro a (⟨j2, e2, h9⟩ | h9)
        · have := congrArg Prod.fst (sing_at h9).2
          rw [show a = q from this]
          exact hD.2 _ _ hq
        · exact Or.inr (Nat.le_trans hS.1 h9)
      have hsH : s.heap.size ≤ H.size := hS.1
      refine va_callv (va_runIN (As := []) (rest := [.ref q, .int (nI j), .ref sa]) S (K_X3_init l E q H.size) ⟨va_cnB 0 S.2.2.2.2 (bg_ok w_co_yX3_init) rfl rfl rfl (hN _ w_ml_X0_42) (S.2.2.2.2 _ w_in_X3) hd_X3_init ⟨Nat.le_of_ble_eq_true rfl, Nat.le_of_ble_eq_true rfl⟩, rfl, S.2.2.2.2 _ w_im_yX3_init⟩ ⟨fun a U g2 mk q9 => by obtain ⟨q0, q1, qP, qK⟩ := q9; exact ⟨q0, q1, qP, va_K.moved (u := U) (U := U.calling g2 mk a) (Vm.Alike.refl U.vm) qK⟩, fun U hU hW => ⟨rfl, by rw [hU], by rw [hU]; exact hPq, va_K.moved hW.alike hK⟩⟩ rfl rfl hl.1 rfl (lv_room (Nat.le_of_ble_eq_true rfl)) dX0_init_118 ⟨show 35 + 2 * j + 1 + 1 ≤ 115 by omega, show 386 + 76 * j + 16 + 60 ≤ 3426 by omega⟩) hS (fun a _ h9 => hfA a h9) hfA (fun d t H1 locs ht hvm hw hB hz1 hk1 hS => ?_)
      subst ht
      have hPw := P_kept1 hP hD hk1
      have hltq : ∀ (k : Nat) (x : Nat × va_E), (wsB E h0 tb al ma ra sa g fm fr fs L ++ [(q, Sum.inr (3, z3d d))])[k]? = some x → x.1 < H.size := by
        intro k x hx
        by_cases hk9 : k < (wsB E h0 tb al ma ra sa g fm fr fs L).length
        · rw [List.getElem?_append_left hk9] at hx
          exact P_lt hP k x (app_l hx)
        · rw [List.getElem?_append_right (by omega)] at hx
          rw [(sing_at hx).2]
          exact P_lt hPq 0 (q, Sum.inr (3, z3)) rfl
      have hD2 : va_D (va_A [(h0, .inr (0, z0))] s.heap.size) (wsB E h0 tb al ma ra sa g fm fr fs L ++ [(q, Sum.inr (3, z3d d))] ++ [(d, .inl (E.2 1, 60, .inr (.inl (fun _ => 0))))]) := D_push (D_chg hD) hltq hw (Or.inr (Nat.le_trans hsH hw))
      have hP2 : va_P E.1 vwCl (wsB E h0 tb al ma ra sa g fm fr fs L ++ [(q, Sum.inr (3, z3d d))] ++ [(d, .inl (E.2 1, 60, .inr (.inl (fun _ => 0))))]) t.heap := by
        rw [List.append_assoc]
        exact hPw.app hB
      have hq2 : (wsB E h0 tb al ma ra sa g fm fr fs L ++ [(q, Sum.inr (3, z3d d))] ++ [(d, .inl (E.2 1, 60, .inr (.inl (fun _ => 0))))])[6 + L.length]? = some (q, .inr (3, z3d d)) := app_l ((at6 L.length).trans (app_e rfl))
      refine va_astq S.1 S.2.1 hK hP2 hD2 hS 5 4 (6 + L.length) 3 rfl rfl hq2 rfl (vp_in_nI hj2 (by omega)) dX0_init_121 (fun H locs hP hD hS => ?_)
      rw [ec] at hP hD
      have hP : va_P E.1 vwCl (wsB E h0 tb al ma ra sa g fm fr (va_up fs j (some q)) (L ++ [(q, Sum.inr (3, z3d d))] ++ [(d, .inl (E.2 1, 60, .inr (.inl (fun _ => 0))))])) H := hP
      have hD : va_D (va_A [(h0, .inr (0, z0))] s.heap.size) (wsB E h0 tb al ma ra sa g fm fr (va_up fs j (some q)) (L ++ [(q, Sum.inr (3, z3d d))] ++ [(d, .inl (E.2 1, 60, .inr (.inl (fun _ => 0))))])) := hD
      refine lv_iinc (v := nI (j + 1)) (lv' := [(1, .int (nI (j + 1))), (0, .ref h0)]) S.1 S.2.1 dX0_init_122 hl (k := 1) rfl (nI_1 j) (by decide) rfl (fun ls hl => ?_)
      refine lv_goto (tgt := 103) S.1 S.2.1 dX0_init_125 (by decide) ?_
      refine W.widen (k := 35 + 2 * (j + 1)) (n := 386 + 76 * (j + 1)) (by omega) (by omega) ?_
      refine ih (j + 1) fm fr (va_up fs j (some q)) _ (by omega) (by omega) (by simp [hL]; omega) (fun i hi => ?_) (fun i hi => ?_) (fun i hi => ?_) H locs ls hP hD hS (lv_sub hl [1, 0] rfl)
      · obtain ⟨x, b1, b2⟩ := h1 i hi
        exact ⟨x, app_l (app_l b1), b2⟩
      · obtain ⟨x, b1, b2⟩ := h2 i hi
        exact ⟨x, app_l (app_l b1), b2⟩
      · by_cases hij : i = j
        · subst hij
          exact ⟨q, d, app_l (app_e hL), app_e (by simp [hL]), va_up_self _ _ _⟩
        · obtain ⟨x, d2, b1, b2, b3⟩ := h3 i (by omega)
          exact ⟨x, d2, app_l (app_l b1), app_l (app_l b2), by rw [va_up_ne _ _ hij]; exact b3⟩
set_option maxHeartbeats 4000000 in
set_option maxRecDepth 100000 in
theorem L_X0_R (l : Launch) (E : EE) {p : Program} {e : Env} {s : State} {m : MethodId} {below : List Frame} {meth : Method} {c : Code} {h0 tb al ma ra sa : Nat} {g : Nat → Int32} (S : CallFix p m c cX0_init 2 s ([.ref h0] : List Value).toArray bg_B "SurvivorPurse$Book") (hr : meth.sig.returnType = none) (hlk : meth.locks = false) (hK : va_K E.1 vwCl (tysE E) s) (hN : NW s) (hg : ∀ i, i < 111 → g i = t0 i) : ∀ (fu j : Nat) (fm fr fs : Nat → Option Nat) (L : va_W), j ≤ 6 → 6 < j + fu → L.length = 24 + j → okM L fm 24 → okR L fr j → ∀ (H : Heap) (locs : List Loc) (ls : Array Slot), va_P E.1 vwCl (wsB E h0 tb al ma ra sa g fm fr fs L) H → va_D (va_A [(h0, .inr (0, z0))] s.heap.size) (wsB E h0 tb al ma ra sa g fm fr fs L) → va_S (va_A [(h0, .inr (0, z0))] s.heap.size) s.heap H locs → lv_has ls 2 [(0, .ref h0), (1, .int (nI j))] → W p l e { frames := 2, cells := 115, slots := 3426, locals := 40 } s m ([.ref h0] : List Value).toArray below meth c H locs (29 + j) (350 + 6 * j) (MQ below (postB E h0 s.heap.size) ([.ref h0] : List Value).toArray s 115 3426 (va_A [(h0, .inr (0, z0))] s.heap.size)) (F0 m 76 ls []) := by
  intro fu
  induction fu with
  | zero => intro j fm fr fs L h1 h2; omega
  | succ fu ih =>
    intro j fm fr fs L hj hfu hL h1 h2 H locs ls hP hD hS hl
    have hA : ∀ a, s.heap.size ≤ a → (va_A [(h0, .inr (0, z0))] s.heap.size) a := fun a h => Or.inr h
    refine lv_iload_n S.1 S.2.1 dX0_init_76 rfl (lv_at hl 1 rfl) ?_
    refine lv_bipush (v := 6) S.1 S.2.1 dX0_init_77 (by decide) ?_
    refine lv_icmp_ge (tgt := 101) S.1 S.2.1 dX0_init_79 (by decide) (fun h => ?_) (fun h => ?_)
    · have hj2 : j = 6 := by
        have := (nI_leI (a := 6) (b := j) (by omega) (by omega)).mp h
        omega
      subst hj2
      refine lv_iconst (v := 0) S.1 S.2.1 dX0_init_101 (by decide) ?_
      refine lv_istore_n (lv' := [(1, .int 0), (0, .ref h0)]) S.1 S.2.1 dX0_init_102 rfl hl (by decide) rfl (fun ls hl => ?_)
      exact L_X0_S l E S hr hlk hK hN hg 41 0 fm fr fs L (by omega) (by omega) (by omega) h1 h2 (fun i h => absurd h (Nat.not_lt_zero i)) H locs ls hP hD hS (lv_sub hl [1, 0] rfl)
    · have hj2 : j < 6 := by
        rcases Nat.lt_or_ge j 6 with q1 | q1
        · exact q1
        · exact absurd (show nI 6 ≤ nI j from nI_le q1 (by omega)) h
      have ec : (nI j).toNatClampNeg = j := nI_clamp (by omega)
      refine lv_aload_n S.1 S.2.1 dX0_init_82 rfl (lv_at hl 0 rfl) ?_
      refine va_get (D := E.1) (ci := 0) (v := .ref ra) (C := RX0) (T := TX0) (N := 13) S.1 S.2.1 S.2.2.2.2 w_lay_X0 S.2.2.2.1 hK hP 0 rfl rfl 2 (by decide) (S.2.2.2.2 _ w_fl_X0_26) (fun _ h9 => h9) rfl dX0_init_83 ?_
      refine lv_iload_n S.1 S.2.1 dX0_init_86 rfl (lv_at hl 1 rfl) ?_
      refine va_new (ci := 2) (fs := z2) (C := RX2) (T := TX2) (N := 6) S.1 S.2.1 S.2.2.2.2 w_lay_X2 tyX2 tyX2_ok S.2.2.2.1 (S.2.2.2.2 _ w_cl_X0_24) (S.2.2.2.2 _ w_ni_X2) (S.2.2.2.2 _ w_in_X2) hK hP hD hS hA rfl (by decide) (show 29 + j + 1 ≤ 115 by omega) (show 350 + 6 * j + 6 ≤ 3426 by omega) dX0_init_87 (fun q H hP hD hS => ?_)
      refine lv_dup S.1 S.2.1 dX0_init_90 rfl ?_
      refine va_callv (va_runIN (As := []) (rest := [.ref q, .int (nI j), .ref ra]) S (K_X2_init l q) ⟨va_cnB 0 S.2.2.2.2 (bg_ok w_co_yX2_init) rfl rfl rfl (hN _ w_ml_X0_41) (S.2.2.2.2 _ w_in_X2) hd_X2_init ⟨Nat.le_of_ble_eq_true rfl, Nat.le_of_ble_eq_true rfl⟩, rfl, S.2.2.2.2 _ w_im_yX2_init⟩ ⟨fun a U g2 mk q9 => ⟨q9.1, trivial⟩, fun U hU hW => ⟨rfl, trivial⟩⟩ rfl rfl hl.1 rfl (lv_room (Nat.le_of_ble_eq_true rfl)) dX0_init_91 ⟨show 29 + j + 1 + 0 ≤ 115 by omega, show 350 + 6 * j + 6 + 0 ≤ 3426 by omega⟩) hS (fun a _ h9 => h9.elim) (fun a h9 => h9.elim) (fun u t H1 locs ht hvm hw hB hz1 hk1 hS => ?_)
      have hP := hP.kept (fun k x hx => hk1 x.1 (hP k x hx).lt (fun h9 => h9))
      have hq2 : (wsB E h0 tb al ma ra sa g fm fr fs L ++ [(q, Sum.inr (2, z2))])[6 + L.length]? = some (q, .inr (2, z2)) := (at6 L.length).trans (app_e rfl)
      refine va_astq S.1 S.2.1 hK hP hD hS 4 3 (6 + L.length) 2 rfl rfl hq2 rfl (vp_in_nI hj2 (by omega)) dX0_init_94 (fun H locs hP hD hS => ?_)
      rw [ec] at hP hD
      have hP : va_P E.1 vwCl (wsB E h0 tb al ma ra sa g fm (va_up fr j (some q)) fs (L ++ [(q, Sum.inr (2, z2))])) H := hP
      have hD : va_D (va_A [(h0, .inr (0, z0))] s.heap.size) (wsB E h0 tb al ma ra sa g fm (va_up fr j (some q)) fs (L ++ [(q, Sum.inr (2, z2))])) := hD
      refine lv_iinc (v := nI (j + 1)) (lv' := [(1, .int (nI (j + 1))), (0, .ref h0)]) S.1 S.2.1 dX0_init_95 hl (k := 1) rfl (nI_1 j) (by decide) rfl (fun ls hl => ?_)
      refine lv_goto (tgt := 76) S.1 S.2.1 dX0_init_98 (by decide) ?_
      refine W.widen (k := 29 + (j + 1)) (n := 350 + 6 * (j + 1)) (by omega) (by omega) ?_
      refine ih (j + 1) fm (va_up fr j (some q)) fs _ (by omega) (by omega) (by simp [hL]; omega) (fun i hi => ?_) (fun i hi => ?_) H locs ls hP hD hS (lv_sub hl [1, 0] rfl)
      · obtain ⟨x, b1, b2⟩ := h1 i hi
        exact ⟨x, app_l b1, b2⟩
      · by_cases hij : i = j
        · subst hij
          exact ⟨q, app_e hL, va_up_self _ _ _⟩
        · obtain ⟨x, b1, b2⟩ := h2 i (by omega)
          exact ⟨x, app_l b1, by rw [va_up_ne _ _ hij]; exact b2⟩
set_option maxHeartbeats 4000000 in
set_option maxRecDepth 100000 in
theorem L_X0_M (l : Launch) (E : EE) {p : Program} {e : Env} {s : State} {m : MethodId} {below : List Frame} {meth : Method} {c : Code} {h0 tb al ma ra sa : Nat} {g : Nat → Int32} (S : CallFix p m c cX0_init 2 s ([.ref h0] : List Value).toArray bg_B "SurvivorPurse$Book") (hr : meth.sig.returnType = none) (hlk : meth.locks = false) (hK : va_K E.1 vwCl (tysE E) s) (hN : NW s) (hg : ∀ i, i < 111 → g i = t0 i) : ∀ (fu j : Nat) (fm fr fs : Nat → Option Nat) (L : va_W), j ≤ 24 → 24 < j + fu → L.length = 0 + j → okM L fm j → ∀ (H : Heap) (locs : List Loc) (ls : Array Slot), va_P E.1 vwCl (wsB E h0 tb al ma ra sa g fm fr fs L) H → va_D (va_A [(h0, .inr (0, z0))] s.heap.size) (wsB E h0 tb al ma ra sa g fm fr fs L) → va_S (va_A [(h0, .inr (0, z0))] s.heap.size) s.heap H locs → lv_has ls 2 [(0, .ref h0), (1, .int (nI j))] → W p l e { frames := 2, cells := 115, slots := 3426, locals := 40 } s m ([.ref h0] : List Value).toArray below meth c H locs (5 + j) (182 + 7 * j) (MQ below (postB E h0 s.heap.size) ([.ref h0] : List Value).toArray s 115 3426 (va_A [(h0, .inr (0, z0))] s.heap.size)) (F0 m 49 ls []) := by
  intro fu
  induction fu with
  | zero => intro j fm fr fs L h1 h2; omega
  | succ fu ih =>
    intro j fm fr fs L hj hfu hL h1 H locs ls hP hD hS hl
    have hA : ∀ a, s.heap.size ≤ a → (va_A [(h0, .inr (0, z0))] s.heap.size) a := fun a h => Or.inr h
    refine lv_iload_n S.1 S.2.1 dX0_init_49 rfl (lv_at hl 1 rfl) ?_
    refine lv_bipush (v := 24) S.1 S.2.1 dX0_init_50 (by decide) ?_
    refine lv_icmp_ge (tgt := 74) S.1 S.2.1 dX0_init_52 (by decide) (fun h => ?_) (fun h => ?_)
    · have hj2 : j = 24 := by
        have := (nI_leI (a := 24) (b := j) (by omega) (by omega)).mp h
        omega
      subst hj2
      refine lv_iconst (v := 0) S.1 S.2.1 dX0_init_74 (by decide) ?_
      refine lv_istore_n (lv' := [(1, .int 0), (0, .ref h0)]) S.1 S.2.1 dX0_init_75 rfl hl (by decide) rfl (fun ls hl => ?_)
      exact L_X0_R l E S hr hlk hK hN hg 7 0 fm fr fs L (by omega) (by omega) (by omega) h1 (fun i h => absurd h (Nat.not_lt_zero i)) H locs ls hP hD hS (lv_sub hl [1, 0] rfl)
    · have hj2 : j < 24 := by
        rcases Nat.lt_or_ge j 24 with q1 | q1
        · exact q1
        · exact absurd (show nI 24 ≤ nI j from nI_le q1 (by omega)) h
      have ec : (nI j).toNatClampNeg = j := nI_clamp (by omega)
      refine lv_aload_n S.1 S.2.1 dX0_init_55 rfl (lv_at hl 0 rfl) ?_
      refine va_get (D := E.1) (ci := 0) (v := .ref ma) (C := RX0) (T := TX0) (N := 13) S.1 S.2.1 S.2.2.2.2 w_lay_X0 S.2.2.2.1 hK hP 0 rfl rfl 1 (by decide) (S.2.2.2.2 _ w_fl_X0_20) (fun _ h9 => h9) rfl dX0_init_56 ?_
      refine lv_iload_n S.1 S.2.1 dX0_init_59 rfl (lv_at hl 1 rfl) ?_
      refine va_new (ci := 1) (fs := z1) (C := RX1) (T := TX1) (N := 7) S.1 S.2.1 S.2.2.2.2 w_lay_X1 tyX1 tyX1_ok S.2.2.2.1 (S.2.2.2.2 _ w_cl_X0_18) (S.2.2.2.2 _ w_ni_X1) (S.2.2.2.2 _ w_in_X1) hK hP hD hS hA rfl (by decide) (show 5 + j + 1 ≤ 115 by omega) (show 182 + 7 * j + 7 ≤ 3426 by omega) dX0_init_60 (fun q H hP hD hS => ?_)
      refine lv_dup S.1 S.2.1 dX0_init_63 rfl ?_
      refine va_callv (va_runIN (As := []) (rest := [.ref q, .int (nI j), .ref ma]) S (K_X1_init l q) ⟨va_cnB 0 S.2.2.2.2 (bg_ok w_co_yX1_init) rfl rfl rfl (hN _ w_ml_X0_40) (S.2.2.2.2 _ w_in_X1) hd_X1_init ⟨Nat.le_of_ble_eq_true rfl, Nat.le_of_ble_eq_true rfl⟩, rfl, S.2.2.2.2 _ w_im_yX1_init⟩ ⟨fun a U g2 mk q9 => ⟨q9.1, trivial⟩, fun U hU hW => ⟨rfl, trivial⟩⟩ rfl rfl hl.1 rfl (lv_room (Nat.le_of_ble_eq_true rfl)) dX0_init_64 ⟨show 5 + j + 1 + 0 ≤ 115 by omega, show 182 + 7 * j + 7 + 0 ≤ 3426 by omega⟩) hS (fun a _ h9 => h9.elim) (fun a h9 => h9.elim) (fun u t H1 locs ht hvm hw hB hz1 hk1 hS => ?_)
      have hP := hP.kept (fun k x hx => hk1 x.1 (hP k x hx).lt (fun h9 => h9))
      have hq2 : (wsB E h0 tb al ma ra sa g fm fr fs L ++ [(q, Sum.inr (1, z1))])[6 + L.length]? = some (q, .inr (1, z1)) := (at6 L.length).trans (app_e rfl)
      refine va_astq S.1 S.2.1 hK hP hD hS 3 2 (6 + L.length) 1 rfl rfl hq2 rfl (vp_in_nI hj2 (by omega)) dX0_init_67 (fun H locs hP hD hS => ?_)
      rw [ec] at hP hD
      have hP : va_P E.1 vwCl (wsB E h0 tb al ma ra sa g (va_up fm j (some q)) fr fs (L ++ [(q, Sum.inr (1, z1))])) H := hP
      have hD : va_D (va_A [(h0, .inr (0, z0))] s.heap.size) (wsB E h0 tb al ma ra sa g (va_up fm j (some q)) fr fs (L ++ [(q, Sum.inr (1, z1))])) := hD
      refine lv_iinc (v := nI (j + 1)) (lv' := [(1, .int (nI (j + 1))), (0, .ref h0)]) S.1 S.2.1 dX0_init_68 hl (k := 1) rfl (nI_1 j) (by decide) rfl (fun ls hl => ?_)
      refine lv_goto (tgt := 49) S.1 S.2.1 dX0_init_71 (by decide) ?_
      refine W.widen (k := 5 + (j + 1)) (n := 182 + 7 * (j + 1)) (by omega) (by omega) ?_
      refine ih (j + 1) (va_up fm j (some q)) fr fs _ (by omega) (by omega) (by simp [hL]) (fun i hi => ?_) H locs ls hP hD hS (lv_sub hl [1, 0] rfl)
      by_cases hij : i = j
      · subst hij
        exact ⟨q, app_e (by omega), va_up_self _ _ _⟩
      · obtain ⟨x, b1, b2⟩ := h1 i (by omega)
        exact ⟨x, app_l b1, by rw [va_up_ne _ _ hij]; exact b2⟩

def z6 : List Value := [.null, .null, .int 0, .null, .null, .null, .null]
def w0 (k : Nat) : Int64 := if k ≤ 110 then 100000 - 900 * (nI k).toInt64 else if k = 5666 then 2 else 0
def B0 : MM := (fun _ _ => 0, fun c k => if c = 1 then w0 k else 0)
theorem hd_X6_init : yX6_init.cls ≠ "java/lang/invoke/MethodHandle" ∧ yX6_init.cls ≠ "java/lang/invoke/VarHandle" ∧ (parseMethodDescriptor yX6_init.desc).map (fun d => d.parameters.length) = some 0 := by decide +kernel
theorem cell_l {cA : ClassId} {n : Nat} {f g : Nat → Int64} (h : ∀ i, i < n → f i = g i) : vp_cell cA (n, .inr (.inl f)) = vp_cell cA (n, .inr (.inl g)) := by
  rw [vp_cell_l, vp_cell_l]
  unfold arrV
  congr 1
  apply Array.ext
  · simp
  · intro i h1 h2
    simp at h1
    simp [h i h1]
def ws6 (E : EE) (h0 q1 q2 q3 q4 q5 q6 : Nat) (g : Nat → Int64) : va_W := [(h0, .inr (6, [.ref q1, .ref q2, .int 0, .ref q3, .ref q4, .ref q5, .ref q6])), (q1, .inl (E.2 1, 5672, .inr (.inl g))), (q2, .inl (E.2 1, 5672, .inr (.inl (fun _ => 0)))), (q3, .inl (E.2 1, 7, .inr (.inl (fun _ => 0)))), (q4, .inl (E.2 1, 6, .inr (.inl (fun _ => 0)))), (q5, .inl (E.2 1, 40, .inr (.inl (fun _ => 0)))), (q6, .inl (E.2 0, 40, .inl (fun _ => 0)))]
def post6 (E : EE) (h0 sz : Nat) : Array Value → State → Outcome → State → Prop := va_Qv (fun (am : Nat → Nat) => am 0 = h0 ∧ ad_I am 7 ∧ ∀ c, 0 < c → c < 7 → sz ≤ am c) (fun am t => va_P E.1 vwCl (mw (entM E am B0) am 7) t.heap) (va_A [(h0, .inr (6, z6))] sz)
theorem fin6 {E : EE} {h0 q1 q2 q3 q4 q5 q6 sz : Nat} {g : Nat → Int64} {H : Heap} (hP : va_P E.1 vwCl (ws6 E h0 q1 q2 q3 q4 q5 q6 g) H) (hD : va_D (va_A [(h0, .inr (6, z6))] sz) (ws6 E h0 q1 q2 q3 q4 q5 q6 g)) (hg : ∀ i, i < 5672 → g i = w0 i) : ∃ am : Nat → Nat, (am 0 = h0 ∧ ad_I am 7 ∧ ∀ c, 0 < c → c < 7 → sz ≤ am c) ∧ va_P E.1 vwCl (mw (entM E am B0) am 7) H := by
  obtain ⟨am, ham⟩ : ∃ am : Nat → Nat, ∀ c, am c = (((ws6 E h0 q1 q2 q3 q4 q5 q6 g)[c]?).map Prod.fst).getD 0 := ⟨_, fun _ => rfl⟩
  have a0 : am 0 = h0 := ham 0
  have a1 : am 1 = q1 := ham 1
  have a2 : am 2 = q2 := ham 2
  have a3 : am 3 = q3 := ham 3
  have a4 : am 4 = q4 := ham 4
  have a5 : am 5 = q5 := ham 5
  have a6 : am 6 = q6 := ham 6
  have hat : ∀ c, c < 7 → ∃ e, (ws6 E h0 q1 q2 q3 q4 q5 q6 g)[c]? = some (am c, e) ∧ va_at E.1 vwCl (am c, entM E am B0 c) H := by
    intro c hc
    rcases (show c = 0 ∨ c = 1 ∨ c = 2 ∨ c = 3 ∨ c = 4 ∨ c = 5 ∨ c = 6 by omega) with rfl | rfl | rfl | rfl | rfl | rfl | rfl
    · refine ⟨_, by rw [a0]; rfl, ?_⟩
      rw [m0, a0]
      show va_at E.1 vwCl (h0, Sum.inr (6, [.ref (am 1), .ref (am 2), .int 0, .ref (am 3), .ref (am 4), .ref (am 5), .ref (am 6)])) H
      rw [a1, a2, a3, a4, a5, a6]
      exact hP 0 _ rfl
    · refine ⟨_, by rw [a1]; rfl, ?_⟩
      rw [m1, a1]
      have h : H[q1]? = some (vp_cell _ _) := hP 1 _ rfl
      show H[q1]? = some (vp_cell _ _)
      rw [h, cell_l hg]
      rfl
    · refine ⟨_, by rw [a2]; rfl, ?_⟩
      rw [m2, a2]
      exact hP 2 _ rfl
    · refine ⟨_, by rw [a3]; rfl, ?_⟩
      rw [m3, a3]
      exact hP 3 _ rfl
    · refine ⟨_, by rw [a4]; rfl, ?_⟩
      rw [m4, a4]
      exact hP 4 _ rfl
    · refine ⟨_, by rw [a5]; rfl, ?_⟩
      rw [m5, a5]
      exact hP 5 _ rfl
    · refine ⟨_, by rw [a6]; rfl, ?_⟩
      rw [m6, a6]
      exact hP 6 _ rfl
  refine ⟨am, ⟨a0, fun c d hc hd he => ?_, fun c h0c hc => ?_⟩, fun k q hk => ?_⟩
  · obtain ⟨x1, b1, -⟩ := hat c hc
    obtain ⟨x2, b2, -⟩ := hat d hd
    exact hD.1 _ _ _ _ b1 b2 he
  · obtain ⟨x1, b1, -⟩ := hat c hc
    rcases hD.2 _ _ b1 with ⟨j, e2, hj⟩ | h
    · have h2 : am c = h0 := congrArg Prod.fst (sing_at hj).2
      have h3 := hD.1 _ 0 _ _ b1 rfl h2
      omega
    · exact h
  · obtain ⟨hk1, rfl⟩ := mw_get hk
    obtain ⟨-, -, h⟩ := hat k hk1
    exact h
set_option maxHeartbeats 4000000 in
set_option maxRecDepth 100000 in
theorem L_X6_init (l : Launch) (E : EE) {p : Program} {e : Env} {s : State} {m : MethodId} {below : List Frame} {meth : Method} {c : Code} {h0 q1 q2 q3 q4 q5 q6 : Nat} (S : CallFix p m c cX6_init 2 s ([.ref h0] : List Value).toArray bg_B "SurvivorPurseModel") (hr : meth.sig.returnType = none) (hlk : meth.locks = false) (hK : va_K E.1 vwCl (tysE E) s) : ∀ (fu j : Nat) (g : Nat → Int64), j ≤ 111 → 111 < j + fu → (∀ i, i < 5672 → g i = if i < j then w0 i else 0) → ∀ (H : Heap) (locs : List Loc) (ls : Array Slot), va_P E.1 vwCl (ws6 E h0 q1 q2 q3 q4 q5 q6 g) H → va_D (va_A [(h0, .inr (6, z6))] s.heap.size) (ws6 E h0 q1 q2 q3 q4 q5 q6 g) → va_S (va_A [(h0, .inr (6, z6))] s.heap.size) s.heap H locs → lv_has ls 2 [(0, .ref h0), (1, .int (nI j))] → W p l e { frames := 1, cells := 6, slots := 11437, locals := 12 } s m ([.ref h0] : List Value).toArray below meth c H locs 6 11437 (MQ below (post6 E h0 s.heap.size) ([.ref h0] : List Value).toArray s 6 11437 (va_A [(h0, .inr (6, z6))] s.heap.size)) (F0 m 56 ls []) := by
  intro fu
  induction fu with
  | zero => intro j g h1 h2; omega
  | succ fu ih =>
    intro j g hj hfu hg H locs ls hP hD hS hl
    refine lv_iload_n S.1 S.2.1 dX6_init_56 rfl (lv_at hl 1 rfl) ?_
    refine lv_bipush (v := 110) S.1 S.2.1 dX6_init_57 (by decide) ?_
    refine lv_icmp_gt (tgt := 86) S.1 S.2.1 dX6_init_59 (by decide) (fun h => ?_) (fun h => ?_)
    · have hj2 : j = 111 := by
        have h2 : nI 110 < nI j := h
        have := (nI_ltI (by omega) (by omega)).mp h2
        omega
      subst hj2
      refine lv_aload_n S.1 S.2.1 dX6_init_86 rfl (lv_at hl 0 rfl) ?_
      refine va_get (D := E.1) (ci := 6) (v := .ref q1) (C := RX6) (T := TX6) (N := 7) S.1 S.2.1 S.2.2.2.2 w_lay_X6 S.2.2.2.1 hK hP 0 rfl rfl 0 (by decide) (S.2.2.2.2 _ w_fl_X6_7) (fun _ h9 => h9) rfl dX6_init_87 ?_
      refine lv_sipush (v := 5666) S.1 S.2.1 dX6_init_90 (by decide) ?_
      refine lv_ldc2 (own := "SurvivorPurseModel") (v := (2 : Int64)) S.1 S.2.1 S.2.2.2.1 (S.2.2.2.2 _ w_kl_X6_33) dX6_init_93 ?_
      refine va_last S.1 S.2.1 hK hP hD hS 1 1 rfl rfl (show vp_in (nI 5666) 5672 from vp_in_nI (by omega) (by omega)) dX6_init_96 (fun H locs hP hD hS => ?_)
      have ec : (5666 : Int32).toNatClampNeg = 5666 := by decide
      rw [ec] at hP hD
      obtain ⟨am, h1, h2⟩ := fin6 (g := vp_updL g 5666 2) hP hD (fun i hi => by
        by_cases h5 : i = 5666
        · subst h5; rw [pk_uLs]; rfl
        · rw [pk_uLn h5, hg i hi]
          by_cases h6 : i < 111
          · rw [if_pos h6]
          · rw [if_neg h6]
            unfold w0
            rw [if_neg (by omega), if_neg h5])
      exact W.vret S.1 S.2.1 hr (fun t ht hW => ⟨⟨am, rfl, h1, by subst ht; exact h2⟩, hS.F ht⟩) hS.2.2 dX6_init_97
    · have hj2 : j ≤ 110 := by
        rcases Nat.lt_or_ge 110 j with q1 | q1
        · exact absurd (show nI 110 < nI j from nI_lt q1 (by omega)) h
        · exact q1
      refine lv_aload_n S.1 S.2.1 dX6_init_62 rfl (lv_at hl 0 rfl) ?_
      refine va_get (D := E.1) (ci := 6) (v := .ref q1) (C := RX6) (T := TX6) (N := 7) S.1 S.2.1 S.2.2.2.2 w_lay_X6 S.2.2.2.1 hK hP 0 rfl rfl 0 (by decide) (S.2.2.2.2 _ w_fl_X6_7) (fun _ h9 => h9) rfl dX6_init_63 ?_
      refine lv_iconst (v := 0) S.1 S.2.1 dX6_init_66 (by decide) ?_
      refine lv_iload_n S.1 S.2.1 dX6_init_67 rfl (lv_at hl 1 rfl) ?_
      refine lv_iadd S.1 S.2.1 dX6_init_68 ?_
      refine lv_rei (x := nI j) (by rw [Int32.zero_add]) ?_
      refine lv_ldc2 (own := "SurvivorPurseModel") (v := (100000 : Int64)) S.1 S.2.1 S.2.2.2.1 (S.2.2.2.2 _ w_kl_X6_29) dX6_init_69 ?_
      refine lv_ldc2 (own := "SurvivorPurseModel") (v := (900 : Int64)) S.1 S.2.1 S.2.2.2.1 (S.2.2.2.2 _ w_kl_X6_31) dX6_init_72 ?_
      refine lv_iload_n S.1 S.2.1 dX6_init_75 rfl (lv_at hl 1 rfl) ?_
      refine lv_i2l (v := (nI j).toInt64) S.1 S.2.1 dX6_init_76 rfl ?_
      refine lv_lmul S.1 S.2.1 dX6_init_77 ?_
      refine lv_lsub S.1 S.2.1 dX6_init_78 ?_
      refine va_last S.1 S.2.1 hK hP hD hS 1 1 rfl rfl (vp_in_nI (by omega) (by omega)) dX6_init_79 (fun H locs hP hD hS => ?_)
      have ec : (nI j).toNatClampNeg = j := nI_clamp (by omega)
      rw [ec] at hP hD
      refine lv_iinc (v := nI (j + 1)) (lv' := [(1, .int (nI (j + 1))), (0, .ref h0)]) S.1 S.2.1 dX6_init_80 hl (k := 1) rfl (nI_1 j) (by decide) rfl (fun ls hl => ?_)
      refine lv_goto (tgt := 56) S.1 S.2.1 dX6_init_83 (by decide) ?_
      refine ih (j + 1) (vp_updL g j (100000 - 900 * (nI j).toInt64)) (by omega) (by omega) (fun i hi => ?_) H locs ls hP hD hS (lv_sub hl [1, 0] rfl)
      by_cases hij : i = j
      · subst hij
        rw [pk_uLs, if_pos (by omega)]
        unfold w0
        rw [if_pos hj2]
      · rw [pk_uLn hij, hg i hi]
        by_cases h6 : i < j
        · rw [if_pos h6, if_pos (by omega)]
        · rw [if_neg h6, if_neg (by omega)]
set_option maxHeartbeats 4000000 in
set_option maxRecDepth 100000 in
theorem K_X6_init (l : Launch) (E : EE) (h0 sz : Nat) : Met l yX6_init (.code yX6_init cX6_init 2 none :: bg_B) { frames := 1, cells := 6, slots := 11437, locals := 12 } (va_Pc [.ref h0] (fun U => U.heap.size = sz ∧ va_P E.1 vwCl [(h0, .inr (6, z6))] U.heap ∧ va_K E.1 vwCl (tysE E) U)) (post6 E h0 sz) 6 11437 (va_A [(h0, .inr (6, z6))] sz) := by
  refine Met.ofW (cc := cX6_init) (maxL := 2) (ret := none) (by decide) rfl ?_
  intro p e s m args below meth c s₁ B hml hv
  obtain ⟨rfl, hsz, hP, hK⟩ := hv
  subst hsz
  have hts0 := atoms_spec (ws := .code yX6_init cX6_init 2 none :: bg_B) B.pre
  have S : CallFix p m c cX6_init 2 s ([.ref h0] : List Value).toArray bg_B "SurvivorPurseModel" := ⟨B.exec, B.bytes, hml, findClass_of_methodNamed B.named, fun w h => hts0 w (List.mem_cons_of_mem _ h)⟩
  have hr := B.returns
  have hlk := B.notSynchronized
  have hin : meth.name = "<init>" := (name_of_methodNamed B.named B.method).1
  have hl := lv_entry ([.ref h0]) (n := 2) (Nat.le_of_ble_eq_true rfl)
  rw [lg_entry_eq]
  generalize (lg_sl ([.ref h0]) ++ List.replicate (2 - (lg_sl ([.ref h0])).length) Slot.unset).toArray = ls at hl ⊢
  have hl : lv_has ls 2 [(0, .ref h0)] := hl
  refine lv_aload_n S.1 S.2.1 dX6_init_0 rfl (lv_at hl 0 rfl) ?_
  refine W.objInit S.1 S.2.1 S.2.2.2.1 (S.2.2.2.2 _ w_ml_X6_1) (S.2.2.2.2 _ w_im_objectInit) (S.2.2.2.2 _ w_obj) rfl (by rw [hml]; exact hl.1) rfl dX6_init_1 (Nat.le_of_ble_eq_true rfl) (Nat.le_of_ble_eq_true rfl) ?_
  refine W.eq (g2 := F0 m 4 ls []) rfl ?_
  have hD : va_D (va_A [(h0, .inr (6, z6))] s.heap.size) [(h0, .inr (6, z6))] := ⟨fun i j p q h1 h2 _ => by rw [(sing_at h1).1, (sing_at h2).1], fun k q h => va_A.in h⟩
  have hS : va_S (va_A [(h0, .inr (6, z6))] s.heap.size) s.heap s.heap [] := va_S.rf
  have hA : ∀ a, s.heap.size ≤ a → va_A [(h0, .inr (6, z6))] s.heap.size a := fun a h => Or.inr h
  refine lv_aload_n S.1 S.2.1 dX6_init_4 rfl (lv_at hl 0 rfl) ?_
  refine lv_sipush (v := 5672) S.1 S.2.1 dX6_init_5 (by decide) ?_
  refine va_newa (atype := .long) (N' := 5672) (ty := .long) S.1 S.2.1 (S.2.2.2.2 _ w_ac_J) rfl hK hP hD hS hA (fun cA => new_l cA 5672) (by decide) (by decide) (by decide) (Nat.le_of_ble_eq_true rfl) (Nat.le_of_ble_eq_true rfl) dX6_init_8 (fun q1 cA H hK2 hP hD hS => ?_)
  have ec := cJ_eq hK hK2
  subst ec
  refine va_putF (D := E.1) (ci := 6) (v := .ref q1) (C := RX6) (T := TX6) (N := 7) S.1 S.2.1 S.2.2.2.2 w_lay_X6 tyX6 tyX6_ok nmX6 S.2.2.2.1 hK hP hD hS 0 rfl rfl 0 (by decide) (S.2.2.2.2 _ w_fl_X6_7) (fun _ h9 => h9) rfl hin rfl (tyX6_ok 0 (by decide)) rfl rfl (Nat.le_of_ble_eq_true rfl) dX6_init_10 (fun H locs hP hD hS => ?_)
  refine lv_aload_n S.1 S.2.1 dX6_init_13 rfl (lv_at hl 0 rfl) ?_
  refine lv_sipush (v := 5672) S.1 S.2.1 dX6_init_14 (by decide) ?_
  refine va_newa (atype := .long) (N' := 5672) (ty := .long) S.1 S.2.1 (S.2.2.2.2 _ w_ac_J) rfl hK hP hD hS hA (fun cA => new_l cA 5672) (by decide) (by decide) (by decide) (Nat.le_of_ble_eq_true rfl) (Nat.le_of_ble_eq_true rfl) dX6_init_17 (fun q2 cA H hK2 hP hD hS => ?_)
  have ec := cJ_eq hK hK2
  subst ec
  refine va_putF (D := E.1) (ci := 6) (v := .ref q2) (C := RX6) (T := TX6) (N := 7) S.1 S.2.1 S.2.2.2.2 w_lay_X6 tyX6 tyX6_ok nmX6 S.2.2.2.1 hK hP hD hS 0 rfl rfl 1 (by decide) (S.2.2.2.2 _ w_fl_X6_13) (fun _ h9 => h9) rfl hin rfl (tyX6_ok 1 (by decide)) rfl rfl (Nat.le_of_ble_eq_true rfl) dX6_init_19 (fun H locs hP hD hS => ?_)
  refine lv_aload_n S.1 S.2.1 dX6_init_22 rfl (lv_at hl 0 rfl) ?_
  refine lv_bipush (v := 7) S.1 S.2.1 dX6_init_23 (by decide) ?_
  refine va_newa (atype := .long) (N' := 7) (ty := .long) S.1 S.2.1 (S.2.2.2.2 _ w_ac_J) rfl hK hP hD hS hA (fun cA => new_l cA 7) (by decide) (by decide) (by decide) (Nat.le_of_ble_eq_true rfl) (Nat.le_of_ble_eq_true rfl) dX6_init_25 (fun q3 cA H hK2 hP hD hS => ?_)
  have ec := cJ_eq hK hK2
  subst ec
  refine va_putF (D := E.1) (ci := 6) (v := .ref q3) (C := RX6) (T := TX6) (N := 7) S.1 S.2.1 S.2.2.2.2 w_lay_X6 tyX6 tyX6_ok nmX6 S.2.2.2.1 hK hP hD hS 0 rfl rfl 3 (by decide) (S.2.2.2.2 _ w_fl_X6_16) (fun _ h9 => h9) rfl hin rfl (tyX6_ok 3 (by decide)) rfl rfl (Nat.le_of_ble_eq_true rfl) dX6_init_27 (fun H locs hP hD hS => ?_)
  refine lv_aload_n S.1 S.2.1 dX6_init_30 rfl (lv_at hl 0 rfl) ?_
  refine lv_bipush (v := 6) S.1 S.2.1 dX6_init_31 (by decide) ?_
  refine va_newa (atype := .long) (N' := 6) (ty := .long) S.1 S.2.1 (S.2.2.2.2 _ w_ac_J) rfl hK hP hD hS hA (fun cA => new_l cA 6) (by decide) (by decide) (by decide) (Nat.le_of_ble_eq_true rfl) (Nat.le_of_ble_eq_true rfl) dX6_init_33 (fun q4 cA H hK2 hP hD hS => ?_)
  have ec := cJ_eq hK hK2
  subst ec
  refine va_putF (D := E.1) (ci := 6) (v := .ref q4) (C := RX6) (T := TX6) (N := 7) S.1 S.2.1 S.2.2.2.2 w_lay_X6 tyX6 tyX6_ok nmX6 S.2.2.2.1 hK hP hD hS 0 rfl rfl 4 (by decide) (S.2.2.2.2 _ w_fl_X6_19) (fun _ h9 => h9) rfl hin rfl (tyX6_ok 4 (by decide)) rfl rfl (Nat.le_of_ble_eq_true rfl) dX6_init_35 (fun H locs hP hD hS => ?_)
  refine lv_aload_n S.1 S.2.1 dX6_init_38 rfl (lv_at hl 0 rfl) ?_
  refine lv_bipush (v := 40) S.1 S.2.1 dX6_init_39 (by decide) ?_
  refine va_newa (atype := .long) (N' := 40) (ty := .long) S.1 S.2.1 (S.2.2.2.2 _ w_ac_J) rfl hK hP hD hS hA (fun cA => new_l cA 40) (by decide) (by decide) (by decide) (Nat.le_of_ble_eq_true rfl) (Nat.le_of_ble_eq_true rfl) dX6_init_41 (fun q5 cA H hK2 hP hD hS => ?_)
  have ec := cJ_eq hK hK2
  subst ec
  refine va_putF (D := E.1) (ci := 6) (v := .ref q5) (C := RX6) (T := TX6) (N := 7) S.1 S.2.1 S.2.2.2.2 w_lay_X6 tyX6 tyX6_ok nmX6 S.2.2.2.1 hK hP hD hS 0 rfl rfl 5 (by decide) (S.2.2.2.2 _ w_fl_X6_22) (fun _ h9 => h9) rfl hin rfl (tyX6_ok 5 (by decide)) rfl rfl (Nat.le_of_ble_eq_true rfl) dX6_init_43 (fun H locs hP hD hS => ?_)
  refine lv_aload_n S.1 S.2.1 dX6_init_46 rfl (lv_at hl 0 rfl) ?_
  refine lv_bipush (v := 40) S.1 S.2.1 dX6_init_47 (by decide) ?_
  refine va_newa (atype := .int) (N' := 40) (ty := .int) S.1 S.2.1 (S.2.2.2.2 _ w_ac_I) rfl hK hP hD hS hA (fun cA => new_i cA 40) (by decide) (by decide) (by decide) (Nat.le_of_ble_eq_true rfl) (Nat.le_of_ble_eq_true rfl) dX6_init_49 (fun q6 cA H hK2 hP hD hS => ?_)
  have ec := cI_eq hK hK2
  subst ec
  refine va_putF (D := E.1) (ci := 6) (v := .ref q6) (C := RX6) (T := TX6) (N := 7) S.1 S.2.1 S.2.2.2.2 w_lay_X6 tyX6 tyX6_ok nmX6 S.2.2.2.1 hK hP hD hS 0 rfl rfl 6 (by decide) (S.2.2.2.2 _ w_fl_X6_25) (fun _ h9 => h9) rfl hin rfl (tyX6_ok 6 (by decide)) rfl rfl (Nat.le_of_ble_eq_true rfl) dX6_init_51 (fun H locs hP hD hS => ?_)
  have hP : va_P E.1 vwCl (ws6 E h0 q1 q2 q3 q4 q5 q6 (fun _ => 0)) H := hP
  have hD : va_D (va_A [(h0, .inr (6, z6))] s.heap.size) (ws6 E h0 q1 q2 q3 q4 q5 q6 (fun _ => 0)) := hD
  refine lv_iconst (v := 0) S.1 S.2.1 dX6_init_54 (by decide) ?_
  refine lv_istore_n (lv' := [(1, .int 0), (0, .ref h0)]) S.1 S.2.1 dX6_init_55 rfl hl (by decide) rfl (fun ls hl => ?_)
  refine W.widen (k := 6) (n := 11437) (by decide) (by decide) ?_
  exact L_X6_init l E S hr hlk hK 112 0 (fun _ => 0) (by omega) (by omega) (fun i h => by rw [if_neg (by omega)]) H locs ls hP hD hS (lv_sub hl [1, 0] rfl)

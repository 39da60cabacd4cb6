theorem AA_jn {ad ad2 : Nat → Nat} {sz q : Nat} (h1 : ∀ c, c < 117 → ad2 c = ad c) (h2 : ∀ c, 117 ≤ c → c < 233 → sz ≤ ad2 c) : AA ad2 233 sz q ↔ AA ad 117 sz q := by
  constructor
  · rintro (⟨c, hc, rfl⟩ | h)
    · by_cases h : c < 117
      · exact Or.inl ⟨c, h, h1 c h⟩
      · exact Or.inr (h2 c (by omega) hc)
    · exact Or.inr h
  · rintro (⟨c, hc, rfl⟩ | h)
    · exact Or.inl ⟨c, by omega, (h1 c hc).symm⟩
    · exact Or.inr h
theorem ok_b117 : ok 0 233 117 := ⟨rfl, by decide⟩
theorem cwK {p : Program} {R : Room} {s : State} {m : MethodId} {args : Array Value} {c : Code} {cc : ByteArray} {nL : Nat} (S : CallFix p m c cc nL s args bg_B "SurvivorPurse") (hR : 2 + 1 ≤ R.frames ∧ 8 + (3 + 11) + 81 ≤ R.locals) : CallW R s args "SurvivorPurse" "SurvivorPurse$Book" 266 yX0_copyFrom cX0_copyFrom 3 none (.code yX0_copyFrom cX0_copyFrom 3 none :: bg_B) { frames := 2, cells := 0, slots := 0, locals := 81 } 0 0 1 :=
  cV 1 S w_co_yX0_copyFrom w_in_X0 w_ml_X5_266 w_im_yX0_copyFrom w_se_yX0_copyFrom hd_X0_copyFrom hR
set_option maxHeartbeats 4000000 in
set_option maxRecDepth 100000 in
theorem K_back1 (l : Launch) (E : EE) (ad : Nat → Nat) (hI : ad_I ad 117) (sz : Nat) (M : MM) : CtL l yX5_back cX5_back 1 3 103 E (entC E ad 117 M) (entC E ad 117 M) ad 117 sz [.ref (ad 0)] (-1000000000000000) := by
  unfold CtL
  refine body_of (by decide) "SurvivorPurse" rfl (Nat.le_of_ble_eq_true rfl) ?_
  intro p e s m below meth c hsz S hr hlk hP hK hN ls hl
  subst hsz
  have hS : va_S (AA ad 117 s.heap.size) s.heap s.heap [] := va_S.rf
  have hl : lv_has ls 1 [(0, .ref (ad 0))] := hl
  refine lv_aload_n S.1 S.2.1 dX5_back_0 rfl (lv_at hl 0 rfl) ?_
  refine x_get (v := .null) S hK hP w_lay_X5 (ci := 5) rfl 0 (by decide) (e5 rfl) 1 (by decide) w_fl_X5_16 rfl rfl dX5_back_1 ?_
  refine lv_ifnonnullN S.1 S.2.1 dX5_back_4 ?_
  refine lv_ldc2 (own := "SurvivorPurse") (v := (-1000000000000000 : Int64)) S.1 S.2.1 S.2.2.2.1 (S.2.2.2.2 _ w_kl_X5_34) dX5_back_7 ?_
  exact r_l S hr hlk hP hS dX5_back_10
set_option maxHeartbeats 4000000 in
set_option maxRecDepth 100000 in
theorem K_back2 (l : Launch) (E : EE) (ad : Nat → Nat) (hI : ad_I ad 233) (sz N : Nat) (M M' : MM) (hf : F_X0_copyFrom N 1 117 M = some M') : CtL l yX5_back cX5_back 1 3 103 E (entC E ad 233 M) (entC E ad 233 M') ad 233 sz [.ref (ad 0)] 1 := by
  unfold CtL
  refine body_of (by decide) "SurvivorPurse" rfl (Nat.le_of_ble_eq_true rfl) ?_
  intro p e s m below meth c hsz S hr hlk hP hK hN ls hl
  subst hsz
  have hS : va_S (AA ad 233 s.heap.size) s.heap s.heap [] := va_S.rf
  have hl : lv_has ls 1 [(0, .ref (ad 0))] := hl
  have hn : 117 ≤ 233 := by decide
  refine lv_aload_n S.1 S.2.1 dX5_back_0 rfl (lv_at hl 0 rfl) ?_
  refine x_get (v := .ref (ad 117)) S hK hP w_lay_X5 (ci := 5) rfl 0 (by decide) (e5 rfl) 1 (by decide) w_fl_X5_16 rfl rfl dX5_back_1 ?_
  refine lv_ifnonnull (tgt := 11) S.1 S.2.1 dX5_back_4 (by decide) ?_
  refine lv_aload_n S.1 S.2.1 dX5_back_11 rfl (lv_at hl 0 rfl) ?_
  refine x_get (v := .ref (ad 1)) S hK hP w_lay_X5 (ci := 5) rfl 0 (by decide) (e5 rfl) 0 (by decide) w_fl_X5_10 rfl rfl dX5_back_12 ?_
  refine lv_aload_n S.1 S.2.1 dX5_back_15 rfl (lv_at hl 0 rfl) ?_
  refine x_get (v := .ref (ad 117)) S hK hP w_lay_X5 (ci := 5) rfl 0 (by decide) (e5 rfl) 1 (by decide) w_fl_X5_16 rfl rfl dX5_back_16 ?_
  refine y_Vv (As := [.ref (ad 117)]) S hK hN hP hS rfl (ok_lt (ok_b1 hn)) (e0 (ok_b1 hn).1) rfl (K_X0_copyFrom l E ad 233 hI hn _ N 1 117 (ok_b1 hn) ok_b117 M M' hf) (cwK S ⟨Nat.le_of_ble_eq_true rfl, Nat.le_of_ble_eq_true rfl⟩) hl.1 rfl rfl (Nat.le_of_ble_eq_true rfl) dX5_back_19 ⟨Nat.zero_le _, Nat.zero_le _⟩ (fun H locs hP hS => ?_)
  refine lv_lconst (v := (1 : Int64)) S.1 S.2.1 dX5_back_22 (by decide) ?_
  exact r_l S hr hlk hP hS dX5_back_23
set_option maxHeartbeats 4000000 in
set_option maxRecDepth 100000 in
theorem K_keep2 (l : Launch) (E : EE) (ad : Nat → Nat) (hI : ad_I ad 233) (sz N : Nat) (M M' : MM) (hf : F_X0_copyFrom N 117 1 M = some M') : CtL l yX5_keep cX5_keep 1 3 103 E (entC E ad 233 M) (entC E ad 233 M') ad 233 sz [.ref (ad 0)] 1 := by
  unfold CtL
  refine body_of (by decide) "SurvivorPurse" rfl (Nat.le_of_ble_eq_true rfl) ?_
  intro p e s m below meth c hsz S hr hlk hP hK hN ls hl
  subst hsz
  have hS : va_S (AA ad 233 s.heap.size) s.heap s.heap [] := va_S.rf
  have hl : lv_has ls 1 [(0, .ref (ad 0))] := hl
  have hn : 117 ≤ 233 := by decide
  refine lv_aload_n S.1 S.2.1 dX5_keep_0 rfl (lv_at hl 0 rfl) ?_
  refine x_get (v := .ref (ad 117)) S hK hP w_lay_X5 (ci := 5) rfl 0 (by decide) (e5 rfl) 1 (by decide) w_fl_X5_16 rfl rfl dX5_keep_1 ?_
  refine lv_ifnonnull (tgt := 18) S.1 S.2.1 dX5_keep_4 (by decide) ?_
  refine lv_aload_n S.1 S.2.1 dX5_keep_18 rfl (lv_at hl 0 rfl) ?_
  refine x_get (v := .ref (ad 117)) S hK hP w_lay_X5 (ci := 5) rfl 0 (by decide) (e5 rfl) 1 (by decide) w_fl_X5_16 rfl rfl dX5_keep_19 ?_
  refine lv_aload_n S.1 S.2.1 dX5_keep_22 rfl (lv_at hl 0 rfl) ?_
  refine x_get (v := .ref (ad 1)) S hK hP w_lay_X5 (ci := 5) rfl 0 (by decide) (e5 rfl) 0 (by decide) w_fl_X5_10 rfl rfl dX5_keep_23 ?_
  refine y_Vv (As := [.ref (ad 1)]) S hK hN hP hS rfl (ok_lt ok_b117) (e0 ok_b117.1) rfl (K_X0_copyFrom l E ad 233 hI hn _ N 117 1 ok_b117 (ok_b1 hn) M M' hf) (cwK S ⟨Nat.le_of_ble_eq_true rfl, Nat.le_of_ble_eq_true rfl⟩) hl.1 rfl rfl (Nat.le_of_ble_eq_true rfl) dX5_keep_26 ⟨Nat.zero_le _, Nat.zero_le _⟩ (fun H locs hP hS => ?_)
  refine lv_lconst (v := (1 : Int64)) S.1 S.2.1 dX5_keep_29 (by decide) ?_
  exact r_l S hr hlk hP hS dX5_keep_30
set_option maxHeartbeats 4000000 in
set_option maxRecDepth 100000 in
theorem K_keep1 (l : Launch) (E : EE) (ad : Nat → Nat) (hI : ad_I ad 117) (sz N : Nat) (M M' : MM) (hf : F_X0_copyFrom N 117 1 (jn M) = some M') : Met l yX5_keep (.code yX5_keep cX5_keep 1 (some .long) :: bg_B) { frames := 3, cells := 116, slots := 3439, locals := 103 } (va_Pc [.ref (ad 0)] (fun U => PB E (entC E ad 117 M) ad 117 sz U ∧ AO3 U)) (va_Ql (fun r0 (ad2 : Nat → Nat) => r0 = 1 ∧ (∀ c, c < 117 → ad2 c = ad c) ∧ ad_I ad2 233 ∧ ∀ c, 117 ≤ c → c < 233 → sz ≤ ad2 c) (fun ad2 t => QB E (entC E ad2 233 M') ad2 233 t) (AA ad 117 sz)) 116 3439 (AA ad 117 sz) := by
  refine Met.ofW (cc := cX5_keep) (maxL := 1) (ret := some .long) (by decide) rfl ?_
  intro p e s m args below meth c s₁ B hml hv
  obtain ⟨rfl, ⟨hsz, hP, hK, hN⟩, hO⟩ := hv
  subst hsz
  have hts0 := atoms_spec (ws := .code yX5_keep cX5_keep 1 (some .long) :: bg_B) B.pre
  have S : CallFix p m c cX5_keep 1 s ([.ref (ad 0)] : List Value).toArray bg_B "SurvivorPurse" := ⟨B.exec, B.bytes, hml, findClass_of_methodNamed B.named, fun w h => hts0 w (List.mem_cons_of_mem _ h)⟩
  have hr := B.returns
  have hlk := B.notSynchronized
  have hl := lv_entry ([.ref (ad 0)]) (n := 1) (Nat.le_of_ble_eq_true rfl)
  rw [lg_entry_eq]
  generalize (lg_sl ([.ref (ad 0)]) ++ List.replicate (1 - (lg_sl ([.ref (ad 0)])).length) Slot.unset).toArray = ls at hl ⊢
  have hl : lv_has ls 1 [(0, .ref (ad 0))] := hl
  have hS : va_S (AA ad 117 s.heap.size) s.heap s.heap [] := va_S.rf
  have hA : ∀ a, s.heap.size ≤ a → (AA ad 117 s.heap.size) a := fun a h => Or.inr h
  have hD : va_D (AA ad 117 s.heap.size) (mw (entC E ad 117 M) ad 117) := mw_D hI
  have hlt : ∀ c, c < 117 → ad c < s.heap.size := fun c hc => P_lt hP c _ (mw_at hc rfl)
  refine lv_aload_n S.1 S.2.1 dX5_keep_0 rfl (lv_at hl 0 rfl) ?_
  refine x_get (v := .null) S hK hP w_lay_X5 (ci := 5) rfl 0 (by decide) (e5 rfl) 1 (by decide) w_fl_X5_16 rfl rfl dX5_keep_1 ?_
  refine lv_ifnonnullN S.1 S.2.1 dX5_keep_4 ?_
  refine lv_aload_n S.1 S.2.1 dX5_keep_7 rfl (lv_at hl 0 rfl) ?_
  refine va_new (ci := 0) (fs := z0) (C := RX0) (T := TX0) (N := 13) S.1 S.2.1 S.2.2.2.2 w_lay_X0 tyX0 tyX0_ok S.2.2.2.1 (S.2.2.2.2 _ w_cl_X5_7) (S.2.2.2.2 _ w_ni_X0) (S.2.2.2.2 _ w_in_X0) hK hP hD hS hA rfl (by decide) (Nat.le_of_ble_eq_true rfl) (Nat.le_of_ble_eq_true rfl) dX5_keep_8 (fun bq H hP hD hS => ?_)
  refine lv_dup S.1 S.2.1 dX5_keep_11 rfl ?_
  have hq : (mw (entC E ad 117 M) ad 117 ++ [(bq, .inr (0, z0))])[117]? = some (bq, .inr (0, z0)) := app_e mw_len
  have hbq : s.heap.size ≤ bq := by
    rcases hD.2 117 _ hq with ⟨j, hj, hj2⟩ | h1
    · have h2 : (mw (entC E ad 117 M) ad 117 ++ [(bq, .inr (0, z0))])[j]? = some (ad j, entC E ad 117 M j) := app_l (mw_at hj rfl)
      have h3 := hD.1 j 117 _ _ h2 hq hj2.symm
      omega
    · exact h1
  have hPq : va_P E.1 vwCl [(bq, .inr (0, z0))] H := fun k x hx => by rw [(sing_at hx).2]; exact hP _ _ hq
  have hfA : ∀ a, va_A [(bq, .inr (0, z0))] H.size a → (AA ad 117 s.heap.size) a := by
    rintro a (⟨j2, e2, h9⟩ | h9)
    · have := congrArg Prod.fst (sing_at h9).2
      rw [show a = bq from this]
      exact hD.2 _ _ hq
    · exact Or.inr (Nat.le_trans hS.1 h9)
  have hsH : s.heap.size ≤ H.size := hS.1
  refine va_callv (va_runI (As := []) (rest := [.ref bq, .ref (ad 0)]) S (K_X0_init l E bq H.size) ⟨callB_of 0 S.2.2.2.2 (bg_ok w_co_yX0_init) rfl rfl rfl (S.2.2.2.2 _ w_in_X0) (S.2.2.2.2 _ w_ml_X5_9) hd_X0_init ⟨Nat.le_of_ble_eq_true rfl, Nat.le_of_ble_eq_true rfl⟩, rfl, S.2.2.2.2 _ w_im_yX0_init⟩ ⟨fun a U g2 mk q9 => by obtain ⟨q0, q1, qP, qK, qN, qO⟩ := q9; exact ⟨q0, q1, qP, va_K.moved (u := U) (U := U.calling g2 mk a) (Vm.Alike.refl U.vm) qK, NW.same (s := U) (U := U.calling g2 mk a) rfl qN, AO3.moved (u := U) (U := U.calling g2 mk a) (Vm.Alike.refl U.vm) qO⟩, fun U hU hW => ⟨rfl, by rw [hU], by rw [hU]; exact hPq, va_K.moved hW.alike hK, NW.warm hW hN, AO3.moved hW.alike hO⟩⟩ rfl rfl hl.1 rfl (lv_room (Nat.le_of_ble_eq_true rfl)) dX5_keep_12 ⟨Nat.le_of_ble_eq_true rfl, Nat.le_of_ble_eq_true rfl⟩) hS (fun a _ h9 => hfA a h9) hfA (fun f t H1 locs ht hvm hw hB hz1 hk1 hS => ?_)
  subst ht
  obtain ⟨f0, fI, fz⟩ := hw
  have hPw := P_kept1 hP hD hk1
  have hfge : ∀ c, c < 116 → s.heap.size ≤ f c := by
    intro c hc
    by_cases h : c = 0
    · rw [h, f0]; exact hbq
    · exact Nat.le_trans hsH (fz c (by omega) hc)
  have hD2 : va_D (AA ad 117 s.heap.size) (mw (entB E f) f 116) := mwD_of fI (fun c hc => Or.inr (hfge c hc))
  have hD : va_D (AA ad 117 s.heap.size) (mw (entC E ad 117 M) ad 117 ++ mw (entB E f) f 116) := (mw_D hI).app hD2 (fun i j p q h1 h2 => by
    obtain ⟨g1, rfl⟩ := mw_get h2
    obtain ⟨g2, rfl⟩ := mw_get h1
    have h3 := hfge j g1
    have h4 := hlt i g2
    show ad i ≠ f j
    omega)
  have hP : va_P E.1 vwCl (mw (entC E ad 117 M) ad 117 ++ mw (entB E f) f 116) t.heap := hPw.app hB
  have he0 : (mw (entC E ad 117 M) ad 117 ++ mw (entB E f) f 116)[0]? = some (ad 0, .inr (5, fsX5 ad 117)) := app_l (mw_at (by decide) (e5 rfl))
  refine va_put (D := E.1) (ci := 5) (v := .ref bq) (C := RX5) (T := TX5) (N := 2) S.1 S.2.1 S.2.2.2.2 w_lay_X5 tyX5 tyX5_ok nmX5 S.2.2.2.1 hK hP hD hS 0 he0 rfl 1 (by decide) (S.2.2.2.2 _ w_fl_X5_16) (fun _ h9 => h9) rfl (tyX5_ok 1 (by decide)) rfl rfl (Nat.le_of_ble_eq_true rfl) dX5_keep_15 (fun H locs hP hD hS => ?_)
  obtain ⟨ad2, had⟩ : ∃ ad2 : Nat → Nat, ∀ c, ad2 c = if c < 117 then ad c else f (c - 117) := ⟨_, fun _ => rfl⟩
  have a0 : ∀ c, c < 117 → ad2 c = ad c := fun c h => by rw [had, if_pos h]
  have a1 : ∀ c, ad2 (c + 1 + 116) = f c := fun c => by rw [had, if_neg (by omega)]; congr 1
  have a2 : ∀ c, 117 ≤ c → c < 233 → s.heap.size ≤ ad2 c := fun c h1 h2 => by
    rw [had, if_neg (by omega)]
    exact hfge _ (by omega)
  have hI2 : ad_I ad2 233 := by
    intro i j hi hj he
    by_cases h1 : i < 117 <;> by_cases h2 : j < 117
    · rw [a0 i h1, a0 j h2] at he
      exact hI i j h1 h2 he
    · have h3 := a2 j (by omega) hj
      have h4 := hlt i h1
      rw [a0 i h1] at he
      omega
    · have h3 := a2 i (by omega) hi
      have h4 := hlt j h2
      rw [a0 j h2] at he
      omega
    · rw [had, had, if_neg h1, if_neg h2] at he
      have := fI _ _ (by omega) (by omega) he
      omega
  have hset : ∀ k, 0 < k → ((mw (entC E ad 117 M) ad 117 ++ mw (entB E f) f 116).set 0 (ad 0, Sum.inr (5, (fsX5 ad 117).set 1 (.ref bq))))[k]? = (mw (entC E ad 117 M) ad 117 ++ mw (entB E f) f 116)[k]? := fun k hk => by
    rw [List.getElem?_set, if_neg (by omega)]
  have hP : va_P E.1 vwCl (mw (entC E ad2 233 (jn M)) ad2 233) H := by
    intro k q hk
    obtain ⟨hk1, rfl⟩ := mw_get hk
    by_cases h0 : k = 0
    · subst h0
      have h1 := hP 0 (ad 0, Sum.inr (5, (fsX5 ad 117).set 1 (.ref bq))) (by
        rw [List.getElem?_set, if_pos rfl, if_pos]
        · rw [List.length_append, mw_len]; omega)
      rw [a0 0 (by decide), e5 rfl]
      show va_at E.1 vwCl (ad 0, Sum.inr (5, [.ref (ad2 1), .ref (ad2 (0 + 1 + 116))])) H
      rw [a0 1 (by decide), a1 0, f0]
      exact h1
    · by_cases h2 : k < 117
      · obtain ⟨c, rfl⟩ : ∃ c, k = c + 1 := ⟨k - 1, by omega⟩
        have h1 := hP (c + 1) _ ((hset (c + 1) (by omega)).trans (app_l (mw_at h2 rfl)))
        rw [a0 _ h2]
        refine at_ad (kd_n5 c) (fun y hy1 hy2 => ?_) (jn_I h2).symm (jn_L h2).symm h1
        have := kd_ext (c := c) (by omega)
        exact (a0 y (by omega)).symm
      · obtain ⟨c, rfl⟩ : ∃ c, k = c + 1 + 116 := ⟨k - 117, by omega⟩
        have hc : c < 116 := by omega
        have h1 : va_at E.1 vwCl (f c, entB E f c) H := hP (117 + c) _ ((hset (117 + c) (by omega)).trans ((app_r mw_len).trans (mw_at hc rfl)))
        rw [a1]
        have h3 : va_at E.1 vwCl (f c, entC E (fun y => ad2 (y + 116)) 233 M0 (c + 1)) H := at_ad (kd_n5 c) (fun y hy1 _ => by
          show f (y - 1) = ad2 (y + 116)
          rw [had, if_neg (by omega)]
          congr 1) rfl rfl h1
        have h4 : entC E ad2 233 (jn M) (c + 1 + 116) = entC E (fun y => ad2 (y + 116)) 233 M0 (c + 1) := by
          simp only [entC, kd_116, fsX0, fsX1, fsX2, fsX3, fsX4, jn_I2 hc, jn_L2 hc]
          rw [if_neg (kd_n5 c)]
          simp only [if_neg (kd_n5 c), Nat.add_assoc, Nat.add_comm, Nat.add_left_comm]
        rw [h4]
        exact h3
  have hS2 : va_S (AA ad2 233 s.heap.size) s.heap H locs := S_mono hS (fun q h => (AA_jn a0 a2).mpr h)
  have hn : 117 ≤ 233 := by decide
  have hl : lv_has ls 1 [(0, .ref (ad2 0))] := by rw [a0 0 (by decide)]; exact hl
  refine lv_aload_n S.1 S.2.1 dX5_keep_18 rfl (lv_at hl 0 rfl) ?_
  refine x_get (v := .ref (ad2 117)) S hK hP w_lay_X5 (ci := 5) rfl 0 (by decide) (e5 rfl) 1 (by decide) w_fl_X5_16 rfl rfl dX5_keep_19 ?_
  refine lv_aload_n S.1 S.2.1 dX5_keep_22 rfl (lv_at hl 0 rfl) ?_
  refine x_get (v := .ref (ad2 1)) S hK hP w_lay_X5 (ci := 5) rfl 0 (by decide) (e5 rfl) 0 (by decide) w_fl_X5_10 rfl rfl dX5_keep_23 ?_
  refine y_Vv (As := [.ref (ad2 1)]) S hK hN hP hS2 rfl (ok_lt ok_b117) (e0 ok_b117.1) rfl (K_X0_copyFrom l E ad2 233 hI2 hn _ N 117 1 ok_b117 (ok_b1 hn) (jn M) M' hf) (cwK S ⟨Nat.le_of_ble_eq_true rfl, Nat.le_of_ble_eq_true rfl⟩) hl.1 rfl rfl (Nat.le_of_ble_eq_true rfl) dX5_keep_26 ⟨Nat.le_of_ble_eq_true rfl, Nat.le_of_ble_eq_true rfl⟩ (fun H locs hP hS => ?_)
  refine lv_lconst (v := (1 : Int64)) S.1 S.2.1 dX5_keep_29 (by decide) ?_
  have hS3 : va_S (AA ad 117 s.heap.size) s.heap H locs := S_mono hS (fun q h => (AA_jn a0 a2).mp h)
  exact W.lret S.1 S.2.1 hr (fun t ht hW => ⟨⟨1, ad2, rfl, ⟨rfl, a0, hI2, a2⟩, by subst ht; exact hP⟩, hS3.F ht⟩) hS3.2.2 dX5_keep_30

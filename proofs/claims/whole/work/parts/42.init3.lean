set_option maxHeartbeats 4000000 in
set_option maxRecDepth 100000 in
theorem K_X0_init (l : Launch) (E : EE) (h0 sz : Nat) : Met l yX0_init (.code yX0_init cX0_init 2 none :: bg_B) { frames := 2, cells := 115, slots := 3426, locals := 40 } (va_Pc [.ref h0] (fun U => U.heap.size = sz ∧ va_P E.1 vwCl [(h0, .inr (0, z0))] U.heap ∧ va_K E.1 vwCl (tysE E) U ∧ NW U ∧ AO3 U)) (postB E h0 sz) 115 3426 (va_A [(h0, .inr (0, z0))] sz) := by
  refine Met.ofW (cc := cX0_init) (maxL := 2) (ret := none) (by decide) rfl ?_
  intro p e s m args below meth c s₁ B hml hv
  obtain ⟨rfl, hsz, hP, hK, hN, hO⟩ := hv
  subst hsz
  have hts0 := atoms_spec (ws := .code yX0_init cX0_init 2 none :: bg_B) B.pre
  have S : CallFix p m c cX0_init 2 s ([.ref h0] : List Value).toArray bg_B "SurvivorPurse$Book" := ⟨B.exec, B.bytes, hml, findClass_of_methodNamed B.named, fun w h => hts0 w (List.mem_cons_of_mem _ h)⟩
  have hr := B.returns
  have hlk := B.notSynchronized
  have hin : meth.name = "<init>" := (name_of_methodNamed B.named B.method).1
  have hl := lv_entry ([.ref h0]) (n := 2) (Nat.le_of_ble_eq_true rfl)
  rw [lg_entry_eq]
  generalize (lg_sl ([.ref h0]) ++ List.replicate (2 - (lg_sl ([.ref h0])).length) Slot.unset).toArray = ls at hl ⊢
  have hl : lv_has ls 2 [(0, .ref h0)] := hl
  refine lv_aload_n S.1 S.2.1 dX0_init_0 rfl (lv_at hl 0 rfl) ?_
  refine W.objInit S.1 S.2.1 S.2.2.2.1 (S.2.2.2.2 _ w_ml_X0_3) (S.2.2.2.2 _ w_im_objectInit) (S.2.2.2.2 _ w_obj) rfl (by rw [hml]; exact hl.1) rfl dX0_init_1 (Nat.le_of_ble_eq_true rfl) (Nat.le_of_ble_eq_true rfl) ?_
  refine W.eq (g2 := F0 m 4 ls []) rfl ?_
  have hD : va_D (va_A [(h0, .inr (0, z0))] s.heap.size) [(h0, .inr (0, z0))] := ⟨fun i j p q h1 h2 _ => by rw [(sing_at h1).1, (sing_at h2).1], fun k q h => va_A.in h⟩
  have hS : va_S (va_A [(h0, .inr (0, z0))] s.heap.size) s.heap s.heap [] := va_S.rf
  have hA : ∀ a, s.heap.size ≤ a → va_A [(h0, .inr (0, z0))] s.heap.size a := fun a h => Or.inr h
  refine lv_aload_n S.1 S.2.1 dX0_init_4 rfl (lv_at hl 0 rfl) ?_
  refine va_new (ci := 4) (fs := [.null]) (C := RX4) (T := TX4) (N := 1) S.1 S.2.1 S.2.2.2.2 w_lay_X4 tyX4 tyX4_ok S.2.2.2.1 (S.2.2.2.2 _ w_cl_X0_9) (S.2.2.2.2 _ w_ni_X4) (S.2.2.2.2 _ w_in_X4) hK hP hD hS hA rfl (by decide) (Nat.le_of_ble_eq_true rfl) (Nat.le_of_ble_eq_true rfl) dX0_init_5 (fun tb H hP hD hS => ?_)
  refine lv_dup S.1 S.2.1 dX0_init_8 rfl ?_
  have hq : ([(h0, Sum.inr (0, z0))] ++ [(tb, .inr (4, [.null]))] : va_W)[1]? = some (tb, .inr (4, [.null])) := rfl
  have hPq : va_P E.1 vwCl [(tb, .inr (4, [.null]))] H := fun k x hx => by rw [(sing_at hx).2]; exact hP _ _ hq
  have hfA : ∀ a, va_A [(tb, .inr (4, [.null]))] H.size a → (va_A [(h0, .inr (0, z0))] s.heap.size) a := by
    rintro a (⟨j2, e2, h9⟩ | h9)
    · have := congrArg Prod.fst (sing_at h9).2
      rw [show a = tb from this]
      exact hD.2 _ _ hq
    · exact Or.inr (Nat.le_trans hS.1 h9)
  have hsH : s.heap.size ≤ H.size := hS.1
  refine va_callv (va_runI (As := []) (rest := [.ref tb, .ref h0]) S (K_X4_init l E tb H.size) ⟨callB_of 0 S.2.2.2.2 (bg_ok w_co_yX4_init) rfl rfl rfl (S.2.2.2.2 _ w_in_X4) (S.2.2.2.2 _ w_ml_X0_11) hd_X4_init ⟨Nat.le_of_ble_eq_true rfl, Nat.le_of_ble_eq_true rfl⟩, rfl, S.2.2.2.2 _ w_im_yX4_init⟩ ⟨fun a U g2 mk q9 => by obtain ⟨q0, q1, qP, qK⟩ := q9; exact ⟨q0, q1, qP, va_K.moved (u := U) (U := U.calling g2 mk a) (Vm.Alike.refl U.vm) qK⟩, fun U hU hW => ⟨rfl, by rw [hU], by rw [hU]; exact hPq, va_K.moved hW.alike hK⟩⟩ rfl rfl hl.1 rfl (lv_room (Nat.le_of_ble_eq_true rfl)) dX0_init_9 ⟨Nat.le_of_ble_eq_true rfl, Nat.le_of_ble_eq_true rfl⟩) hS (fun a _ h9 => hfA a h9) hfA (fun u t H1 locs ht hvm hw hB hz1 hk1 hS => ?_)
  subst ht
  obtain ⟨al, g⟩ := u
  obtain ⟨hal, hg⟩ := hw
  have hPw := P_kept1 hP hD hk1
  have hltq : ∀ (k : Nat) (x : Nat × va_E), ([(h0, Sum.inr (0, z0))] ++ [(tb, Sum.inr (4, [.ref al]))] : va_W)[k]? = some x → x.1 < H.size := by
    intro k x hx
    have hk9 : k < 2 := (List.getElem?_eq_some_iff.mp hx).1
    rcases (show k = 0 ∨ k = 1 by omega) with rfl | rfl
    · cases hx; exact P_lt hP 0 _ rfl
    · cases hx; exact P_lt hPq 0 (tb, Sum.inr (4, [.null])) rfl
  have hD : va_D (va_A [(h0, .inr (0, z0))] s.heap.size) ([(h0, Sum.inr (0, z0))] ++ [(tb, Sum.inr (4, [.ref al]))] ++ [(al, .inl (E.2 0, 111, .inl g))]) := D_push (D_chg hD) hltq hal (Or.inr (Nat.le_trans hsH hal))
  have hP : va_P E.1 vwCl ([(h0, Sum.inr (0, z0))] ++ [(tb, Sum.inr (4, [.ref al]))] ++ [(al, .inl (E.2 0, 111, .inl g))]) t.heap := hPw.app hB
  refine va_putF (D := E.1) (ci := 0) (v := .ref tb) (C := RX0) (T := TX0) (N := 13) S.1 S.2.1 S.2.2.2.2 w_lay_X0 tyX0 tyX0_ok nmX0 S.2.2.2.1 hK hP hD hS 0 rfl rfl 0 (by decide) (S.2.2.2.2 _ w_fl_X0_12) (fun _ h9 => h9) rfl hin rfl (tyX0_ok 0 (by decide)) rfl rfl (Nat.le_of_ble_eq_true rfl) dX0_init_12 (fun H locs hP hD hS => ?_)
  refine lv_aload_n S.1 S.2.1 dX0_init_15 rfl (lv_at hl 0 rfl) ?_
  refine lv_bipush (v := 24) S.1 S.2.1 dX0_init_16 (by decide) ?_
  refine va_newq (N' := 24) S.1 S.2.1 S.2.2.2.1 (S.2.2.2.2 _ w_cl_X0_18) hO.1 hK hP hD hS hA (by decide) (by decide) (by decide) (Nat.le_of_ble_eq_true rfl) (Nat.le_of_ble_eq_true rfl) dX0_init_18 (fun ma cA H hK2 hP hD hS => ?_)
  have ec := cO_eq hK 2 rfl hK2
  subst ec
  refine va_putF (D := E.1) (ci := 0) (v := .ref ma) (C := RX0) (T := TX0) (N := 13) S.1 S.2.1 S.2.2.2.2 w_lay_X0 tyX0 tyX0_ok nmX0 S.2.2.2.1 hK hP hD hS 0 rfl rfl 1 (by decide) (S.2.2.2.2 _ w_fl_X0_20) (fun _ h9 => h9) rfl hin rfl (tyX0_ok 1 (by decide)) rfl rfl (Nat.le_of_ble_eq_true rfl) dX0_init_21 (fun H locs hP hD hS => ?_)
  refine lv_aload_n S.1 S.2.1 dX0_init_24 rfl (lv_at hl 0 rfl) ?_
  refine lv_bipush (v := 6) S.1 S.2.1 dX0_init_25 (by decide) ?_
  refine va_newq (N' := 6) S.1 S.2.1 S.2.2.2.1 (S.2.2.2.2 _ w_cl_X0_24) hO.2.1 hK hP hD hS hA (by decide) (by decide) (by decide) (Nat.le_of_ble_eq_true rfl) (Nat.le_of_ble_eq_true rfl) dX0_init_27 (fun ra cA H hK2 hP hD hS => ?_)
  have ec := cO_eq hK 3 rfl hK2
  subst ec
  refine va_putF (D := E.1) (ci := 0) (v := .ref ra) (C := RX0) (T := TX0) (N := 13) S.1 S.2.1 S.2.2.2.2 w_lay_X0 tyX0 tyX0_ok nmX0 S.2.2.2.1 hK hP hD hS 0 rfl rfl 2 (by decide) (S.2.2.2.2 _ w_fl_X0_26) (fun _ h9 => h9) rfl hin rfl (tyX0_ok 2 (by decide)) rfl rfl (Nat.le_of_ble_eq_true rfl) dX0_init_30 (fun H locs hP hD hS => ?_)
  refine lv_aload_n S.1 S.2.1 dX0_init_33 rfl (lv_at hl 0 rfl) ?_
  refine lv_bipush (v := 40) S.1 S.2.1 dX0_init_34 (by decide) ?_
  refine va_newq (N' := 40) S.1 S.2.1 S.2.2.2.1 (S.2.2.2.2 _ w_cl_X0_30) hO.2.2 hK hP hD hS hA (by decide) (by decide) (by decide) (Nat.le_of_ble_eq_true rfl) (Nat.le_of_ble_eq_true rfl) dX0_init_36 (fun sa cA H hK2 hP hD hS => ?_)
  have ec := cO_eq hK 4 rfl hK2
  subst ec
  refine va_putF (D := E.1) (ci := 0) (v := .ref sa) (C := RX0) (T := TX0) (N := 13) S.1 S.2.1 S.2.2.2.2 w_lay_X0 tyX0 tyX0_ok nmX0 S.2.2.2.1 hK hP hD hS 0 rfl rfl 3 (by decide) (S.2.2.2.2 _ w_fl_X0_32) (fun _ h9 => h9) rfl hin rfl (tyX0_ok 3 (by decide)) rfl rfl (Nat.le_of_ble_eq_true rfl) dX0_init_39 (fun H locs hP hD hS => ?_)
  refine lv_aload_n S.1 S.2.1 dX0_init_42 rfl (lv_at hl 0 rfl) ?_
  refine lv_iconst (v := 2) S.1 S.2.1 dX0_init_43 (by decide) ?_
  refine va_put (D := E.1) (ci := 0) (v := .int 2) (C := RX0) (T := TX0) (N := 13) S.1 S.2.1 S.2.2.2.2 w_lay_X0 tyX0 tyX0_ok nmX0 S.2.2.2.1 hK hP hD hS 0 rfl rfl 8 (by decide) (S.2.2.2.2 _ w_fl_X0_36) (fun _ h9 => h9) rfl (tyX0_ok 8 (by decide)) rfl rfl (Nat.le_of_ble_eq_true rfl) dX0_init_44 (fun H locs hP hD hS => ?_)
  have hP : va_P E.1 vwCl (wsB E h0 tb al ma ra sa g (fun _ => none) (fun _ => none) (fun _ => none) []) H := hP
  have hD : va_D (va_A [(h0, .inr (0, z0))] s.heap.size) (wsB E h0 tb al ma ra sa g (fun _ => none) (fun _ => none) (fun _ => none) []) := hD
  refine lv_iconst (v := 0) S.1 S.2.1 dX0_init_47 (by decide) ?_
  refine lv_istore_n (lv' := [(1, .int 0), (0, .ref h0)]) S.1 S.2.1 dX0_init_48 rfl hl (by decide) rfl (fun ls hl => ?_)
  refine W.widen (k := 5 + 0) (n := 182 + 7 * 0) (by decide) (by decide) ?_
  exact L_X0_M l E S hr hlk hK hN hg 25 0 (fun _ => none) (fun _ => none) (fun _ => none) [] (by omega) (by omega) rfl (fun i h => absurd h (Nat.not_lt_zero i)) H locs ls hP hD hS (lv_sub hl [1, 0] rfl)
theorem kd_all (c : Nat) : kd c = 5 ∨ kd c = 0 ∨ kd c = 4 ∨ kd c = 7 ∨ kd c = 9 ∨ kd c = 10 ∨ kd c = 11 ∨ kd c = 1 ∨ kd c = 2 ∨ kd c = 3 ∨ kd c = 8 := by
  unfold kd
  repeat' split
  all_goals omega
theorem at_ad {D : va_G} {E : EE} {ad ad' : Nat → Nat} {n n' : Nat} {M M' : MM} {c x : Nat} {H : Heap} (h5 : kd c ≠ 5) (hx : ∀ y, c < y → y ≤ c + ext (kd c) → ad y = ad' y) (hI : gI M c = gI M' c) (hL : gL M c = gL M' c) (h : va_at D vwCl (x, entC E ad n M c) H) : va_at D vwCl (x, entC E ad' n' M' c) H := by
  by_cases k0 : kd c = 0
  · rw [e0 k0] at h ⊢
    rw [k0] at hx
    have hx : ∀ y, c < y → y ≤ c + 115 → ad y = ad' y := hx
    simp only [fsX0, hI, hL, hx (c + 1) (by omega) (by omega), hx (c + 3) (by omega) (by omega), hx (c + 4) (by omega) (by omega), hx (c + 5) (by omega) (by omega)] at h ⊢
    exact h
  by_cases k1 : kd c = 1
  · rw [e1 k1] at h ⊢
    simp only [fsX1, hI, hL] at h ⊢
    exact h
  by_cases k2 : kd c = 2
  · rw [e2 k2] at h ⊢
    simp only [fsX2, hI, hL] at h ⊢
    exact h
  by_cases k3 : kd c = 3
  · rw [e3 k3] at h ⊢
    rw [k3] at hx
    have hx : ∀ y, c < y → y ≤ c + 40 → ad y = ad' y := hx
    simp only [fsX3, hI, hL, hx (c + 40) (by omega) (by omega)] at h ⊢
    exact h
  by_cases k4 : kd c = 4
  · rw [e4 k4] at h ⊢
    rw [k4] at hx
    have hx : ∀ y, c < y → y ≤ c + 1 → ad y = ad' y := hx
    simp only [fsX4, hx (c + 1) (by omega) (by omega)] at h ⊢
    exact h
  by_cases k7 : kd c = 7
  · rw [e7 k7] at h ⊢
    rw [← hI]
    exact h
  by_cases k8 : kd c = 8
  · rw [e8 k8] at h ⊢
    rw [← hL]
    exact h
  by_cases k9 : kd c = 9
  · rw [e9 k9] at h ⊢
    rw [k9] at hx
    have hx : ∀ y, c < y → y ≤ c + 26 → ad y = ad' y := hx
    have h2 : H[x]? = some (vp_cell _ _) := h
    show H[x]? = some (vp_cell _ _)
    rw [h2, cell_q (fun i hi => congrArg some (hx (c + 3 + i) (by omega) (by omega)))]
  by_cases k10 : kd c = 10
  · rw [e10 k10] at h ⊢
    rw [k10] at hx
    have hx : ∀ y, c < y → y ≤ c + 31 → ad y = ad' y := hx
    have h2 : H[x]? = some (vp_cell _ _) := h
    show H[x]? = some (vp_cell _ _)
    rw [h2, cell_q (fun i hi => congrArg some (hx (c + 26 + i) (by omega) (by omega)))]
  have k11 : kd c = 11 := by
    have := kd_all c
    omega
  rw [e11 k11] at h ⊢
  rw [k11] at hx
  have hx : ∀ y, c < y → y ≤ c + 110 → ad y = ad' y := hx
  have h2 : H[x]? = some (vp_cell _ _) := h
  show H[x]? = some (vp_cell _ _)
  rw [h2, cell_q (fun i hi => congrArg some (hx (c + 31 + i) (by omega) (by omega)))]
theorem kd_ext {c : Nat} (h : c < 116) : c + 1 + ext (kd (c + 1)) ≤ 116 := by
  have hk : kd (c + 1) = 0 ∨ kd (c + 1) = 4 ∨ kd (c + 1) = 7 ∨ kd (c + 1) = 9 ∨ kd (c + 1) = 10 ∨ kd (c + 1) = 11 ∨ kd (c + 1) = 1 ∨ kd (c + 1) = 2 ∨ kd (c + 1) = 3 ∨ kd (c + 1) = 8 := by
    have := kd_all (c + 1)
    have h5 : kd (c + 1) ≠ 5 := by
      unfold kd
      repeat' split
      all_goals omega
    omega
  rcases hk with k | k | k | k | k | k | k | k | k | k
  · have := kd_0.mp k; rw [k]; show c + 1 + 115 ≤ 116; omega
  · have := kd_4.mp k; rw [k]; show c + 1 + 1 ≤ 116; omega
  · rw [k]; show c + 1 + 0 ≤ 116; omega
  · have := kd_9.mp k; rw [k]; show c + 1 + 26 ≤ 116; omega
  · have := kd_10.mp k; rw [k]; show c + 1 + 31 ≤ 116; omega
  · have := kd_11.mp k; rw [k]; show c + 1 + 110 ≤ 116; omega
  · rw [k]; show c + 1 + 0 ≤ 116; omega
  · rw [k]; show c + 1 + 0 ≤ 116; omega
  · have := kd_3.mp k; rw [k]; show c + 1 + 40 ≤ 116; omega
  · rw [k]; show c + 1 + 0 ≤ 116; omega
theorem kd_n5 (c : Nat) : kd (c + 1) ≠ 5 := by
  unfold kd
  repeat' split
  all_goals omega
theorem kd_116 (c : Nat) : kd (c + 1 + 116) = kd (c + 1) := by
  unfold kd
  rw [show c + 1 + 116 - 1 = (c + 1 - 1) + 116 by omega, Nat.add_mod_right]
  simp

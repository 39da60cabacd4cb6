set_option maxHeartbeats 4000000 in
set_option maxRecDepth 100000 in
theorem whole_sim {p : Program} {e : Env} {s : State} {m : MethodId} {below : List Frame} {meth : Method} {c : Code} (l : Launch) {b L : Nat} {xs : Nat → Int32} {N : Nat} {Rel : Nat → Nat → MM → MM → Prop} (HS : SimAll N Rel) (hL : L ≤ 3584) (C0 : lw_At p s m meth c b L xs) : W p l e room_1 s m #[Value.ref b] below meth c s.heap [] 0 0 (lw_Z below #[Value.ref b] s) (entryFrame m ([Value.ref b] : List Value).toArray 4) := by
  obtain ⟨hx, hb, hr, hml, hown, hts, hX, hbl, hlk, hgv⟩ := C0
  obtain ⟨E, hK, hO, hN⟩ := K_exists hts
  have S : CallFix p m c cL_law 4 s #[Value.ref b] bg_B "SurvivorPurseLaw" := ⟨hx, hb, hml, hown, fun w h => hts w (List.mem_filter.mp h).1⟩
  have hA : ∀ q : Nat, s.heap.size ≤ q → (fun q : Nat => s.heap.size ≤ q) q := fun _ h => h
  have hS : va_S (fun q : Nat => s.heap.size ≤ q) s.heap s.heap [] := va_S.rf
  have hP : va_P E.1 vwCl [] s.heap := fun k q h => by simp at h
  have hD : va_D (fun q : Nat => s.heap.size ≤ q) [] := ⟨fun i j p q h => by simp at h, fun k q h => by simp at h⟩
  have hl := lv_entry ([.ref b]) (n := 4) (Nat.le_of_ble_eq_true rfl)
  rw [lg_entry_eq]
  generalize (lg_sl ([.ref b]) ++ List.replicate (4 - (lg_sl ([.ref b])).length) Slot.unset).toArray = ls at hl ⊢
  have hl : lv_has ls 4 [(0, .ref b)] := hl
  refine va_new (ci := 5) (fs := z5) (C := RX5) (T := TX5) (N := 2) S.1 S.2.1 S.2.2.2.2 w_lay_X5 tyX5 tyX5_ok S.2.2.2.1 (S.2.2.2.2 _ w_cl_L_7) (S.2.2.2.2 _ w_ni_X5) (S.2.2.2.2 _ w_in_X5) hK hP hD hS hA rfl (by decide) (Nat.le_of_ble_eq_true rfl) (Nat.le_of_ble_eq_true rfl) dL_law_0 (fun q0 H hP hD hS => ?_)
  refine lv_dup S.1 S.2.1 dL_law_3 rfl ?_
  have hq : ([] ++ [(q0, Sum.inr (5, z5))] : va_W)[0]? = some (q0, .inr (5, z5)) := rfl
  have hPq : va_P E.1 vwCl [(q0, .inr (5, z5))] H := fun k x hx => by rw [(sing_at hx).2]; exact hP _ _ hq
  have hfA : ∀ a, va_A [(q0, .inr (5, z5))] H.size a → (fun q : Nat => s.heap.size ≤ q) a := by
    rintro a (⟨j2, e2, h9⟩ | h9)
    · have := congrArg Prod.fst (sing_at h9).2
      rw [show a = q0 from this]
      exact hD.2 _ _ hq
    · exact Nat.le_trans hS.1 h9
  have hsH : s.heap.size ≤ H.size := hS.1
  refine va_callv (va_runI (As := []) (rest := [.ref q0]) S (K_X5_init l E q0 H.size) ⟨callB_of 0 S.2.2.2.2 (bg_ok w_co_yX5_init) rfl rfl rfl (S.2.2.2.2 _ w_in_X5) (S.2.2.2.2 _ w_ml_L_9) hd_X5_init ⟨Nat.le_of_ble_eq_true rfl, Nat.le_of_ble_eq_true rfl⟩, rfl, S.2.2.2.2 _ w_im_yX5_init⟩ ⟨fun a U g2 mk q9 => by obtain ⟨g0, g1, qP, qK, qN, qO⟩ := q9; exact ⟨g0, g1, qP, va_K.moved (u := U) (U := U.calling g2 mk a) (Vm.Alike.refl U.vm) qK, NW.same (s := U) (U := U.calling g2 mk a) rfl qN, AO3.moved (u := U) (U := U.calling g2 mk a) (Vm.Alike.refl U.vm) qO⟩, fun U hU hW => ⟨rfl, by rw [hU], by rw [hU]; exact hPq, va_K.moved hW.alike hK, NW.warm hW hN, AO3.moved hW.alike hO⟩⟩ rfl rfl hl.1 rfl (lv_room (Nat.le_of_ble_eq_true rfl)) dL_law_4 ⟨by decide, by decide⟩) hS (fun a _ h9 => hfA a h9) hfA (fun f t H1 locs ht hvm hw hB hz1 hk1 hS => ?_)
  subst ht
  obtain ⟨a0, hI, az⟩ := hw
  have hPc : va_P E.1 vwCl (mw (entC E f 117 M0) f 117) t.heap := hB
  have hge : ∀ c, c < 117 → s.heap.size ≤ f c := fun c hc => by
    by_cases h : c = 0
    · rw [h, a0]; exact hD.2 _ _ hq
    · exact Nat.le_trans hsH (az c (by omega) hc)
  refine W.widen (k := 117) (n := 3441) (by decide) (by decide) ?_
  refine lv_astore_n (lv' := [(1, .ref q0), (0, .ref b)]) S.1 S.2.1 dL_law_7 rfl hl (by decide) rfl (fun ls hl => ?_)
  have hDc : va_D (fun q : Nat => s.heap.size ≤ q) (mw (entC E f 117 M0) f 117) := mwD_of hI hge
  refine va_new (ci := 6) (fs := z6) (C := RX6) (T := TX6) (N := 7) S.1 S.2.1 S.2.2.2.2 w_lay_X6 tyX6 tyX6_ok S.2.2.2.1 (S.2.2.2.2 _ w_cl_L_10) (S.2.2.2.2 _ w_ni_X6) (S.2.2.2.2 _ w_in_X6) hK hPc hDc hS hA rfl (by decide) (Nat.le_of_ble_eq_true rfl) (Nat.le_of_ble_eq_true rfl) dL_law_8 (fun q1 H hP hD hS => ?_)
  refine lv_dup S.1 S.2.1 dL_law_11 rfl ?_
  have hq : (mw (entC E f 117 M0) f 117 ++ [(q1, Sum.inr (6, z6))])[117]? = some (q1, .inr (6, z6)) := app_e mw_len
  have hq1 : s.heap.size ≤ q1 := hD.2 _ _ hq
  have hne : ∀ c, c < 117 → f c ≠ q1 := fun c hc h => by
    have h2 := hD.1 c 117 _ _ (app_l (mw_at hc rfl)) hq h
    omega
  have hlt : ∀ c, c < 117 → f c < H.size := fun c hc => P_lt hP c _ (app_l (mw_at hc rfl))
  obtain ⟨ad, had⟩ : ∃ ad, ad = f := ⟨_, rfl⟩
  rw [← had] at hge hI hne hlt a0 hP hD hq
  have hPq : va_P E.1 vwCl [(q1, .inr (6, z6))] H := fun k x hx => by rw [(sing_at hx).2]; exact hP _ _ hq
  have hfA : ∀ a, va_A [(q1, .inr (6, z6))] H.size a → (fun q : Nat => s.heap.size ≤ q) a := by
    rintro a (⟨j2, e2, h9⟩ | h9)
    · have := congrArg Prod.fst (sing_at h9).2
      rw [show a = q1 from this]
      exact hD.2 _ _ hq
    · exact Nat.le_trans hS.1 h9
  have hsH : s.heap.size ≤ H.size := hS.1
  refine va_callv (va_runI (As := []) (rest := [.ref q1]) S (K_X6_init l E q1 H.size) ⟨callB_of 0 S.2.2.2.2 (bg_ok w_co_yX6_init) rfl rfl rfl (S.2.2.2.2 _ w_in_X6) (S.2.2.2.2 _ w_ml_L_12) hd_X6_init ⟨Nat.le_of_ble_eq_true rfl, Nat.le_of_ble_eq_true rfl⟩, rfl, S.2.2.2.2 _ w_im_yX6_init⟩ ⟨fun a U g2 mk q9 => by obtain ⟨g0, g1, qP, qK⟩ := q9; exact ⟨g0, g1, qP, va_K.moved (u := U) (U := U.calling g2 mk a) (Vm.Alike.refl U.vm) qK⟩, fun U hU hW => ⟨rfl, by rw [hU], by rw [hU]; exact hPq, va_K.moved hW.alike hK⟩⟩ rfl rfl hl.1 rfl (lv_room (Nat.le_of_ble_eq_true rfl)) dL_law_12 ⟨by decide, by decide⟩) hS (fun a _ h9 => hfA a h9) hfA (fun am t H1 locs ht hvm hw hB hz1 hk1 hS => ?_)
  subst ht
  obtain ⟨m0e, hIm, mz⟩ := hw
  have hPc : va_P E.1 vwCl (mw (entC E ad 117 M0) ad 117) t.heap := P_kept1 hP hD hk1
  have hmge : ∀ c, c < 7 → s.heap.size ≤ am c := fun c hc => by
    by_cases h : c = 0
    · rw [h, m0e]; exact hq1
    · exact Nat.le_trans hsH (mz c (by omega) hc)
  have hdis : ∀ c c', c < 117 → c' < 7 → ad c ≠ am c' := fun c c' hc hc' h => by
    by_cases h9 : c' = 0
    · rw [h9, m0e] at h
      exact hne c hc h
    · have q1 := mz c' (by omega) hc'
      have q2 := hlt c hc
      omega
  refine lv_astore_n (lv' := [(2, .ref q1), (1, .ref q0), (0, .ref b)]) S.1 S.2.1 dL_law_15 rfl hl (by decide) rfl (fun ls hl => ?_)
  refine lv_iconst (v := 0) S.1 S.2.1 dL_law_16 (by decide) ?_
  refine lv_istore_n (lv' := [(3, .int 0), (2, .ref q1), (1, .ref q0), (0, .ref b)]) S.1 S.2.1 dL_law_17 rfl hl (by decide) rfl (fun ls hl => ?_)
  refine W.widen (k := cf 117) (n := sf 117) (by decide) (by decide) ?_
  refine law_loop l HS ⟨S, hK, hN, hO, hX, hbl, hL⟩ hr hlk 520 0 117 M0 B0 ad am _ locs ls (by omega) (by omega) ⟨hI, hIm, hge, hmge, hdis, hPc, hB, hS⟩ HS.1 ?_
  rw [a0, m0e]
  exact lv_sub hl [3, 2, 1, 0] rfl

def z5 : List Value := [.null, .null]
theorem hd_X5_init : yX5_init.cls ≠ "java/lang/invoke/MethodHandle" ∧ yX5_init.cls ≠ "java/lang/invoke/VarHandle" ∧ (parseMethodDescriptor yX5_init.desc).map (fun d => d.parameters.length) = some 0 := by decide +kernel
theorem hd_X5_keep : yX5_keep.cls ≠ "java/lang/invoke/MethodHandle" ∧ yX5_keep.cls ≠ "java/lang/invoke/VarHandle" ∧ (parseMethodDescriptor yX5_keep.desc).map (fun d => d.parameters.length) = some 0 := by decide +kernel
theorem hd_X5_back : yX5_back.cls ≠ "java/lang/invoke/MethodHandle" ∧ yX5_back.cls ≠ "java/lang/invoke/VarHandle" ∧ (parseMethodDescriptor yX5_back.desc).map (fun d => d.parameters.length) = some 0 := by decide +kernel
theorem S_mono {A B : Nat → Prop} {H0 H : Heap} {locs : List Loc} (h : va_S A H0 H locs) (hAB : ∀ q, A q → B q) : va_S B H0 H locs := ⟨h.1, fun q h1 h2 => h.2.1 q h1 (fun h3 => h2 (hAB q h3)), fun l hl => hAB _ (h.2.2 l hl)⟩
theorem mwD_of {A : Nat → Prop} {ent : Nat → va_E} {f : Nat → Nat} {n : Nat} (hI : ad_I f n) (hA : ∀ c, c < n → A (f c)) : va_D A (mw ent f n) :=
  ⟨(mw_D (sz := 0) hI).1, fun k q h => by obtain ⟨h1, rfl⟩ := mw_get h; exact hA k h1⟩
theorem app_r {α : Type} {L L2 : List α} {i n : Nat} (hn : L.length = n) : (L ++ L2)[n + i]? = L2[i]? := by
  subst hn
  rw [List.getElem?_append_right (by omega)]
  congr 1
  omega
theorem mw_len {ent : Nat → va_E} {ad : Nat → Nat} {n : Nat} : (mw ent ad n).length = n := by simp [mw]
def jn (A : MM) : MM := (fun c k => if c < 117 then A.1 c k else M0.1 c k, fun c k => if c < 117 then A.2 c k else M0.2 c k)
theorem jn_I {A : MM} {c : Nat} (h : c < 117) : gI (jn A) c = gI A c := by funext k; simp [gI, jn, h]
theorem jn_L {A : MM} {c : Nat} (h : c < 117) : gL (jn A) c = gL A c := by funext k; simp [gL, jn, h]
theorem jn_I2 {A : MM} {c : Nat} (h : c < 116) : gI (jn A) (c + 1 + 116) = gI M0 (c + 1) := by
  funext k
  have h2 : ¬ c + 1 + 116 < 117 := by omega
  simp only [gI, jn, M0, if_neg h2, kd_116]
theorem jn_L2 {A : MM} {c : Nat} (h : c < 116) : gL (jn A) (c + 1 + 116) = gL M0 (c + 1) := by
  funext k
  have h2 : ¬ c + 1 + 116 < 117 := by omega
  simp only [gL, jn, M0, if_neg h2]

set_option maxHeartbeats 4000000 in
set_option maxRecDepth 100000 in
theorem K_X5_init (l : Launch) (E : EE) (h0 sz : Nat) : Met l yX5_init (.code yX5_init cX5_init 1 none :: bg_B) { frames := 3, cells := 116, slots := 3439, locals := 61 } (va_Pc [.ref h0] (fun U => U.heap.size = sz ∧ va_P E.1 vwCl [(h0, .inr (5, z5))] U.heap ∧ va_K E.1 vwCl (tysE E) U ∧ NW U ∧ AO3 U)) (va_Qv (fun (ad : Nat → Nat) => ad 0 = h0 ∧ ad_I ad 117 ∧ ∀ c, 0 < c → c < 117 → sz ≤ ad c) (fun ad t => va_P E.1 vwCl (mw (entC E ad 117 M0) ad 117) t.heap) (va_A [(h0, .inr (5, z5))] sz)) 116 3439 (va_A [(h0, .inr (5, z5))] sz) := by
  refine Met.ofW (cc := cX5_init) (maxL := 1) (ret := none) (by decide) rfl ?_
  intro p e s m args below meth c s₁ B hml hv
  obtain ⟨rfl, hsz, hP, hK, hN, hO⟩ := hv
  subst hsz
  have hts0 := atoms_spec (ws := .code yX5_init cX5_init 1 none :: bg_B) B.pre
  have S : CallFix p m c cX5_init 1 s ([.ref h0] : List Value).toArray bg_B "SurvivorPurse" := ⟨B.exec, B.bytes, hml, findClass_of_methodNamed B.named, fun w h => hts0 w (List.mem_cons_of_mem _ h)⟩
  have hr := B.returns
  have hlk := B.notSynchronized
  have hin : meth.name = "<init>" := (name_of_methodNamed B.named B.method).1
  have hl := lv_entry ([.ref h0]) (n := 1) (Nat.le_of_ble_eq_true rfl)
  rw [lg_entry_eq]
  generalize (lg_sl ([.ref h0]) ++ List.replicate (1 - (lg_sl ([.ref h0])).length) Slot.unset).toArray = ls at hl ⊢
  have hl : lv_has ls 1 [(0, .ref h0)] := hl
  refine lv_aload_n S.1 S.2.1 dX5_init_0 rfl (lv_at hl 0 rfl) ?_
  refine W.objInit S.1 S.2.1 S.2.2.2.1 (S.2.2.2.2 _ w_ml_X5_1) (S.2.2.2.2 _ w_im_objectInit) (S.2.2.2.2 _ w_obj) rfl (by rw [hml]; exact hl.1) rfl dX5_init_1 (Nat.le_of_ble_eq_true rfl) (Nat.le_of_ble_eq_true rfl) ?_
  refine W.eq (g2 := F0 m 4 ls []) rfl ?_
  have hD : va_D (va_A [(h0, .inr (5, z5))] s.heap.size) [(h0, .inr (5, z5))] := ⟨fun i j p q h1 h2 _ => by rw [(sing_at h1).1, (sing_at h2).1], fun k q h => va_A.in h⟩
  have hS : va_S (va_A [(h0, .inr (5, z5))] s.heap.size) s.heap s.heap [] := va_S.rf
  have hA : ∀ a, s.heap.size ≤ a → va_A [(h0, .inr (5, z5))] s.heap.size a := fun a h => Or.inr h
  have hh0 : h0 < s.heap.size := P_lt hP 0 _ rfl
  refine lv_aload_n S.1 S.2.1 dX5_init_4 rfl (lv_at hl 0 rfl) ?_
  refine va_new (ci := 0) (fs := z0) (C := RX0) (T := TX0) (N := 13) S.1 S.2.1 S.2.2.2.2 w_lay_X0 tyX0 tyX0_ok S.2.2.2.1 (S.2.2.2.2 _ w_cl_X5_7) (S.2.2.2.2 _ w_ni_X0) (S.2.2.2.2 _ w_in_X0) hK hP hD hS hA rfl (by decide) (Nat.le_of_ble_eq_true rfl) (Nat.le_of_ble_eq_true rfl) dX5_init_5 (fun bq H hP hD hS => ?_)
  refine lv_dup S.1 S.2.1 dX5_init_8 rfl ?_
  have hq : ([(h0, Sum.inr (5, z5))] ++ [(bq, .inr (0, z0))] : va_W)[1]? = some (bq, .inr (0, z0)) := rfl
  have hbq : s.heap.size ≤ bq := by
    rcases hD.2 1 _ hq with ⟨j, e2, hj⟩ | h1
    · have h2 : bq = h0 := congrArg Prod.fst (sing_at hj).2
      have h3 := hD.1 0 1 _ _ rfl hq h2.symm
      omega
    · exact h1
  have hPq : va_P E.1 vwCl [(bq, .inr (0, z0))] H := fun k x hx => by rw [(sing_at hx).2]; exact hP _ _ hq
  have hfA : ∀ a, va_A [(bq, .inr (0, z0))] H.size a → (va_A [(h0, .inr (5, z5))] s.heap.size) a := by
    rintro a (⟨j2, e2, h9⟩ | h9)
    · have := congrArg Prod.fst (sing_at h9).2
      rw [show a = bq from this]
      exact hD.2 _ _ hq
    · exact Or.inr (Nat.le_trans hS.1 h9)
  have hsH : s.heap.size ≤ H.size := hS.1
  refine va_callv (va_runI (As := []) (rest := [.ref bq, .ref h0]) S (K_X0_init l E bq H.size) ⟨callB_of 0 S.2.2.2.2 (bg_ok w_co_yX0_init) rfl rfl rfl (S.2.2.2.2 _ w_in_X0) (S.2.2.2.2 _ w_ml_X5_9) hd_X0_init ⟨Nat.le_of_ble_eq_true rfl, Nat.le_of_ble_eq_true rfl⟩, rfl, S.2.2.2.2 _ w_im_yX0_init⟩ ⟨fun a U g2 mk q9 => by obtain ⟨q0, q1, qP, qK, qN, qO⟩ := q9; exact ⟨q0, q1, qP, va_K.moved (u := U) (U := U.calling g2 mk a) (Vm.Alike.refl U.vm) qK, NW.same (s := U) (U := U.calling g2 mk a) rfl qN, AO3.moved (u := U) (U := U.calling g2 mk a) (Vm.Alike.refl U.vm) qO⟩, fun U hU hW => ⟨rfl, by rw [hU], by rw [hU]; exact hPq, va_K.moved hW.alike hK, NW.warm hW hN, AO3.moved hW.alike hO⟩⟩ rfl rfl hl.1 rfl (lv_room (Nat.le_of_ble_eq_true rfl)) dX5_init_9 ⟨Nat.le_of_ble_eq_true rfl, Nat.le_of_ble_eq_true rfl⟩) hS (fun a _ h9 => hfA a h9) hfA (fun f t H1 locs ht hvm hw hB hz1 hk1 hS => ?_)
  subst ht
  obtain ⟨f0, fI, fz⟩ := hw
  have hPw := P_kept1 hP hD hk1
  have hfge : ∀ c, c < 116 → s.heap.size ≤ f c := by
    intro c hc
    by_cases h : c = 0
    · rw [h, f0]; exact hbq
    · exact Nat.le_trans hsH (fz c (by omega) hc)
  have hD2 : va_D (va_A [(h0, .inr (5, z5))] s.heap.size) (mw (entB E f) f 116) := mwD_of fI (fun c hc => Or.inr (hfge c hc))
  have hD1 : va_D (va_A [(h0, .inr (5, z5))] s.heap.size) [(h0, Sum.inr (5, z5))] := ⟨fun i j p q h1 h2 _ => by rw [(sing_at h1).1, (sing_at h2).1], fun k q h => va_A.in h⟩
  have hD : va_D (va_A [(h0, .inr (5, z5))] s.heap.size) ([(h0, Sum.inr (5, z5))] ++ mw (entB E f) f 116) := hD1.app hD2 (fun i j p q h1 h2 => by
    obtain ⟨g1, rfl⟩ := mw_get h2
    rw [(sing_at h1).2]
    have := hfge j g1
    show h0 ≠ f j
    omega)
  have hP : va_P E.1 vwCl ([(h0, Sum.inr (5, z5))] ++ mw (entB E f) f 116) t.heap := hPw.app hB
  refine va_putF (D := E.1) (ci := 5) (v := .ref bq) (C := RX5) (T := TX5) (N := 2) S.1 S.2.1 S.2.2.2.2 w_lay_X5 tyX5 tyX5_ok nmX5 S.2.2.2.1 hK hP hD hS 0 rfl rfl 0 (by decide) (S.2.2.2.2 _ w_fl_X5_10) (fun _ h9 => h9) rfl hin rfl (tyX5_ok 0 (by decide)) rfl rfl (Nat.le_of_ble_eq_true rfl) dX5_init_12 (fun H locs hP hD hS => ?_)
  refine lv_aload_n S.1 S.2.1 dX5_init_15 rfl (lv_at hl 0 rfl) ?_
  refine lv_null S.1 S.2.1 dX5_init_16 ?_
  refine va_put (D := E.1) (ci := 5) (v := .null) (C := RX5) (T := TX5) (N := 2) S.1 S.2.1 S.2.2.2.2 w_lay_X5 tyX5 tyX5_ok nmX5 S.2.2.2.1 hK hP hD hS 0 rfl rfl 1 (by decide) (S.2.2.2.2 _ w_fl_X5_16) (fun _ h9 => h9) rfl (tyX5_ok 1 (by decide)) rfl rfl (Nat.le_of_ble_eq_true rfl) dX5_init_17 (fun H locs hP hD hS => ?_)
  have hP : va_P E.1 vwCl ([(h0, Sum.inr (5, [.ref bq, .null]))] ++ mw (entB E f) f 116) H := hP
  obtain ⟨ad, had⟩ : ∃ ad : Nat → Nat, ∀ c, ad c = if c = 0 then h0 else f (c - 1) := ⟨_, fun _ => rfl⟩
  have a0 : ad 0 = h0 := had 0
  have a1 : ∀ c, ad (c + 1) = f c := fun c => by rw [had, if_neg (by omega)]; rfl
  have hfin : va_P E.1 vwCl (mw (entC E ad 117 M0) ad 117) H := by
    intro k q hk
    obtain ⟨hk1, rfl⟩ := mw_get hk
    cases k with
    | zero =>
      have h1 := hP 0 _ rfl
      rw [a0, e5 rfl]
      show va_at E.1 vwCl (h0, Sum.inr (5, [.ref (ad (0 + 1)), .null])) H
      rw [a1, f0]
      exact h1
    | succ c =>
      have hc : c < 116 := by omega
      have h1 : va_at E.1 vwCl (f c, entB E f c) H := hP (1 + c) _ ((app_r (L := [(h0, Sum.inr (5, [.ref bq, .null]))]) rfl).trans (mw_at hc rfl))
      rw [a1]
      exact at_ad (kd_n5 c) (fun y hy1 _ => by
        show f (y - 1) = ad y
        rw [had, if_neg (by omega)]) rfl rfl h1
  refine W.vret S.1 S.2.1 hr (fun t ht hW => ⟨⟨ad, rfl, ⟨a0, ?_, ?_⟩, by subst ht; exact hfin⟩, hS.F ht⟩) hS.2.2 dX5_init_20
  · intro i j hi hj he
    cases i with
    | zero =>
      cases j with
      | zero => rfl
      | succ j =>
        rw [a0, a1] at he
        have := hfge j (by omega)
        omega
    | succ i =>
      cases j with
      | zero =>
        rw [a0, a1] at he
        have := hfge i (by omega)
        omega
      | succ j =>
        rw [a1, a1] at he
        exact congrArg Nat.succ (fI i j (by omega) (by omega) he)
  · intro c hc hc2
    cases c with
    | zero => omega
    | succ c =>
      rw [a1]
      exact hfge c (by omega)

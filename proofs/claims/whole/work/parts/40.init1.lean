theorem w_obj : Cond.code objectInit ⟨#[0xb1]⟩ 1 none ∈ bg_B := bg_c1 18 rfl rfl
theorem w_ac_I : Cond.arrayClass .int ∈ bg_B := bg_c1 36 rfl rfl
theorem w_ac_J : Cond.arrayClass .long ∈ bg_B := bg_c1 199 rfl rfl
def AO3 (U : State) : Prop := va_AO "SurvivorPurse$Member" U ∧ va_AO "SurvivorPurse$Rank" U ∧ va_AO "SurvivorPurse$Share" U
theorem AO3.moved {u U : State} (hvm : u.vm.Alike U.vm) (h : AO3 u) : AO3 U := ⟨h.1.moved hvm, h.2.1.moved hvm, h.2.2.moved hvm⟩
def z0 : List Value := [.null, .null, .null, .null, .int 0, .int 0, .int 0, .int 0, .int 0, .int 0, .long 0, .long 0, .long 0]
def z1 : List Value := [.int 0, .long 0, .long 0, .int 0, .int 0, .int 0, .int 0]
def z2 : List Value := [.int 0, .int 0, .int 0, .long 0, .long 0, .long 0]
def z3 : List Value := [.int 0, .int 0, .int 0, .int 0, .int 0, .int 0, .long 0, .long 0, .int 0, .int 0, .int 0, .long 0, .int 0, .int 0, .int 0, .null]
def z3d (d : Nat) : List Value := [.int 0, .int 0, .int 0, .int 0, .int 0, .int 0, .long 0, .long 0, .int 0, .int 0, .int 0, .long 0, .int 0, .int 0, .int 0, .ref d]
theorem sing_at {α : Type} {x q : α} {j : Nat} (h : ([x] : List α)[j]? = some q) : j = 0 ∧ q = x := by
  have hj : j < 1 := (List.getElem?_eq_some_iff.mp h).1
  have e : j = 0 := by omega
  subst e
  exact ⟨rfl, (Option.some.inj h).symm⟩
theorem D_push {A : Nat → Prop} {ws : va_W} {sz d : Nat} {e : va_E} (hD : va_D A ws) (hlt : ∀ (k : Nat) (q : Nat × va_E), ws[k]? = some q → q.1 < sz) (hd : sz ≤ d) (ha : A d) : va_D A (ws ++ [(d, e)]) := by
  refine hD.app ⟨fun i j p q h1 h2 _ => ?_, fun k q h => ?_⟩ (fun i j p q h1 h2 => ?_)
  · rw [(sing_at h1).1, (sing_at h2).1]
  · rw [(sing_at h).2]; exact ha
  · rw [(sing_at h2).2]
    have := hlt i p h1
    show p.1 ≠ d
    omega
theorem D_chg {A : Nat → Prop} {ws : va_W} {q : Nat} {e e' : va_E} (hD : va_D A (ws ++ [(q, e)])) : va_D A (ws ++ [(q, e')]) := by
  have h : (ws ++ [(q, e)])[ws.length]? = some (q, e) := by simp
  have h2 := hD.set (e := e') h
  have h3 : (ws ++ [(q, e)]).set ws.length (q, e') = ws ++ [(q, e')] := by simp
  rw [h3] at h2
  exact h2
theorem P_kept1 {D : va_G} {cl : List vw_C} {A : Nat → Prop} {ws : va_W} {q : Nat} {e : va_E} {H H1 : Heap} (hP : va_P D cl (ws ++ [(q, e)]) H) (hD : va_D A (ws ++ [(q, e)])) (hk : ∀ a : Nat, a < H.size → ¬ va_A [(q, e)] H.size a → H1[a]? = H[a]?) : va_P D cl ws H1 := by
  intro k x hx
  have hx2 : (ws ++ [(q, e)])[k]? = some x := by
    rw [List.getElem?_append_left (List.getElem?_eq_some_iff.mp hx).1]; exact hx
  refine (hP k x hx2).kept (hk x.1 (hP k x hx2).lt ?_)
  rintro (⟨j, e2, hj⟩ | h)
  · obtain ⟨hj0, hjq⟩ := sing_at hj
    have hq : (ws ++ [(q, e)])[ws.length]? = some (q, e) := by simp
    have hlt := (List.getElem?_eq_some_iff.mp hx).1
    have := hD.1 k ws.length x (q, e) hx2 hq (show x.1 = q from congrArg Prod.fst hjq)
    omega
  · exact absurd (hP k x hx2).lt (by omega)
theorem P_lt {D : va_G} {cl : List vw_C} {ws : va_W} {H : Heap} (hP : va_P D cl ws H) : ∀ (k : Nat) (q : Nat × va_E), ws[k]? = some q → q.1 < H.size := fun k q h => (hP k q h).lt
theorem cI_eq {E : EE} {s : State} (hK : va_K E.1 vwCl (tysE E) s) {cA : ClassId} (h : va_K E.1 vwCl (tysE E ++ [(cA, .int)]) s) : cA = E.2 0 :=
  Option.some.inj ((va_nm_int (h.2 5 (cA, .int) rfl).2).symm.trans (va_nm_int (hK.2 0 (E.2 0, .int) rfl).2))
theorem cJ_eq {E : EE} {s : State} (hK : va_K E.1 vwCl (tysE E) s) {cA : ClassId} (h : va_K E.1 vwCl (tysE E ++ [(cA, .long)]) s) : cA = E.2 1 :=
  Option.some.inj ((va_nm_long (h.2 5 (cA, .long) rfl).2).symm.trans (va_nm_long (hK.2 1 (E.2 1, .long) rfl).2))
theorem cO_eq {E : EE} {s : State} (hK : va_K E.1 vwCl (tysE E) s) {cA cB : ClassId} {C : String} (k : Nat) (hB : (tysE E)[k]? = some (cB, .object C)) (h : va_K E.1 vwCl (tysE E ++ [(cA, .object C)]) s) : cA = cB := by
  obtain ⟨-, kA, comp, h1, h2, h3, h4⟩ := h.2 5 (cA, .object C) rfl
  obtain ⟨-, kA', comp', g1, g2, g3, g4⟩ := hK.2 k (cB, .object C) hB
  exact Option.some.inj (h4.symm.trans g4)
theorem cell_i {cA : ClassId} {n : Nat} {f g : Nat → Int32} (h : ∀ i, i < n → f i = g i) : vp_cell cA (n, .inl f) = vp_cell cA (n, .inl g) := by
  rw [vp_cell_i, vp_cell_i]
  unfold arrV
  congr 1
  apply Array.ext
  · simp
  · intro i h1 h2
    simp at h1
    simp [h i h1]
theorem cell_q {cA : ClassId} {n : Nat} {f g : Nat → Option Nat} (h : ∀ i, i < n → f i = g i) : vp_cell cA (n, .inr (.inr (.inr (.inr f)))) = vp_cell cA (n, .inr (.inr (.inr (.inr g)))) := by
  rw [vp_cell_q, vp_cell_q]
  unfold arrV
  congr 1
  apply Array.ext
  · simp
  · intro i h1 h2
    simp at h1
    simp [h i h1]
theorem new_i (cA : ClassId) (n : Nat) : vp_cell cA (n, .inl (fun _ => 0)) = arrV cA n (fun _ => defaultValue .int) := rfl
theorem new_l (cA : ClassId) (n : Nat) : vp_cell cA (n, .inr (.inl (fun _ => 0))) = arrV cA n (fun _ => defaultValue .long) := rfl

theorem hd_X1_init : yX1_init.cls ≠ "java/lang/invoke/MethodHandle" ∧ yX1_init.cls ≠ "java/lang/invoke/VarHandle" ∧ (parseMethodDescriptor yX1_init.desc).map (fun d => d.parameters.length) = some 0 := by decide +kernel
theorem hd_X2_init : yX2_init.cls ≠ "java/lang/invoke/MethodHandle" ∧ yX2_init.cls ≠ "java/lang/invoke/VarHandle" ∧ (parseMethodDescriptor yX2_init.desc).map (fun d => d.parameters.length) = some 0 := by decide +kernel
theorem hd_X3_init : yX3_init.cls ≠ "java/lang/invoke/MethodHandle" ∧ yX3_init.cls ≠ "java/lang/invoke/VarHandle" ∧ (parseMethodDescriptor yX3_init.desc).map (fun d => d.parameters.length) = some 0 := by decide +kernel
theorem hd_X4_init : yX4_init.cls ≠ "java/lang/invoke/MethodHandle" ∧ yX4_init.cls ≠ "java/lang/invoke/VarHandle" ∧ (parseMethodDescriptor yX4_init.desc).map (fun d => d.parameters.length) = some 0 := by decide +kernel
theorem hd_X0_init : yX0_init.cls ≠ "java/lang/invoke/MethodHandle" ∧ yX0_init.cls ≠ "java/lang/invoke/VarHandle" ∧ (parseMethodDescriptor yX0_init.desc).map (fun d => d.parameters.length) = some 0 := by decide +kernel
set_option maxHeartbeats 4000000 in
set_option maxRecDepth 100000 in
theorem K_X1_init (l : Launch) (q : Nat) : Met l yX1_init (.code yX1_init cX1_init 1 none :: bg_B) { frames := 1, cells := 0, slots := 0, locals := 12 } (va_Pc [.ref q] (fun _ => True)) (va_Qv (fun (_ : Unit) => True) (fun _ _ => True) (fun _ => False)) 0 0 (fun _ => False) := by
  refine Met.ofW (cc := cX1_init) (maxL := 1) (ret := none) (by decide) rfl ?_
  intro p e s m args below meth c s₁ B hml hv
  obtain ⟨rfl, -⟩ := hv
  have hts0 := atoms_spec (ws := .code yX1_init cX1_init 1 none :: bg_B) B.pre
  have S : CallFix p m c cX1_init 1 s ([.ref q] : List Value).toArray bg_B "SurvivorPurse$Member" := ⟨B.exec, B.bytes, hml, findClass_of_methodNamed B.named, fun w h => hts0 w (List.mem_cons_of_mem _ h)⟩
  have hr := B.returns
  have hlocks := B.notSynchronized
  have hin : meth.name = "<init>" := (name_of_methodNamed B.named B.method).1
  have hl := lv_entry ([.ref q]) (n := 1) (Nat.le_of_ble_eq_true rfl)
  rw [lg_entry_eq]
  generalize (lg_sl ([.ref q]) ++ List.replicate (1 - (lg_sl ([.ref q])).length) Slot.unset).toArray = ls at hl ⊢
  have hl : lv_has ls 1 [(0, .ref q)] := hl
  refine lv_aload_n S.1 S.2.1 dX1_init_0 rfl (lv_at hl 0 rfl) ?_
  refine W.objInit S.1 S.2.1 S.2.2.2.1 (S.2.2.2.2 _ w_ml_X1_3) (S.2.2.2.2 _ w_im_objectInit) (S.2.2.2.2 _ w_obj) rfl (by rw [hml]; exact hl.1) rfl dX1_init_1 (Nat.le_of_ble_eq_true rfl) (Nat.le_of_ble_eq_true rfl) ?_
  refine W.eq (g2 := F0 m 4 ls []) rfl ?_
  have hS : va_S (fun _ => False) s.heap s.heap [] := va_S.rf
  exact W.vret S.1 S.2.1 hr (fun t ht hW => ⟨⟨(), rfl, trivial, trivial⟩, hS.F ht⟩) hS.2.2 dX1_init_4
set_option maxHeartbeats 4000000 in
set_option maxRecDepth 100000 in
theorem K_X2_init (l : Launch) (q : Nat) : Met l yX2_init (.code yX2_init cX2_init 1 none :: bg_B) { frames := 1, cells := 0, slots := 0, locals := 12 } (va_Pc [.ref q] (fun _ => True)) (va_Qv (fun (_ : Unit) => True) (fun _ _ => True) (fun _ => False)) 0 0 (fun _ => False) := by
  refine Met.ofW (cc := cX2_init) (maxL := 1) (ret := none) (by decide) rfl ?_
  intro p e s m args below meth c s₁ B hml hv
  obtain ⟨rfl, -⟩ := hv
  have hts0 := atoms_spec (ws := .code yX2_init cX2_init 1 none :: bg_B) B.pre
  have S : CallFix p m c cX2_init 1 s ([.ref q] : List Value).toArray bg_B "SurvivorPurse$Rank" := ⟨B.exec, B.bytes, hml, findClass_of_methodNamed B.named, fun w h => hts0 w (List.mem_cons_of_mem _ h)⟩
  have hr := B.returns
  have hlocks := B.notSynchronized
  have hin : meth.name = "<init>" := (name_of_methodNamed B.named B.method).1
  have hl := lv_entry ([.ref q]) (n := 1) (Nat.le_of_ble_eq_true rfl)
  rw [lg_entry_eq]
  generalize (lg_sl ([.ref q]) ++ List.replicate (1 - (lg_sl ([.ref q])).length) Slot.unset).toArray = ls at hl ⊢
  have hl : lv_has ls 1 [(0, .ref q)] := hl
  refine lv_aload_n S.1 S.2.1 dX2_init_0 rfl (lv_at hl 0 rfl) ?_
  refine W.objInit S.1 S.2.1 S.2.2.2.1 (S.2.2.2.2 _ w_ml_X2_1) (S.2.2.2.2 _ w_im_objectInit) (S.2.2.2.2 _ w_obj) rfl (by rw [hml]; exact hl.1) rfl dX2_init_1 (Nat.le_of_ble_eq_true rfl) (Nat.le_of_ble_eq_true rfl) ?_
  refine W.eq (g2 := F0 m 4 ls []) rfl ?_
  have hS : va_S (fun _ => False) s.heap s.heap [] := va_S.rf
  exact W.vret S.1 S.2.1 hr (fun t ht hW => ⟨⟨(), rfl, trivial, trivial⟩, hS.F ht⟩) hS.2.2 dX2_init_4
set_option maxHeartbeats 4000000 in
set_option maxRecDepth 100000 in
theorem K_X3_init (l : Launch) (E : EE) (q sz : Nat) : Met l yX3_init (.code yX3_init cX3_init 1 none :: bg_B) { frames := 1, cells := 1, slots := 60, locals := 12 } (va_Pc [.ref q] (fun U => U.heap.size = sz ∧ va_P E.1 vwCl [(q, .inr (3, z3))] U.heap ∧ va_K E.1 vwCl (tysE E) U)) (va_Qv (fun (d : Nat) => sz ≤ d) (fun d t => va_P E.1 vwCl [(q, .inr (3, z3d d)), (d, .inl (E.2 1, 60, .inr (.inl (fun _ => 0))))] t.heap) (va_A [(q, .inr (3, z3))] sz)) 1 60 (va_A [(q, .inr (3, z3))] sz) := by
  refine Met.ofW (cc := cX3_init) (maxL := 1) (ret := none) (by decide) rfl ?_
  intro p e s m args below meth c s₁ B hml hv
  obtain ⟨rfl, hsz, hP, hK⟩ := hv
  subst hsz
  have hts0 := atoms_spec (ws := .code yX3_init cX3_init 1 none :: bg_B) B.pre
  have S : CallFix p m c cX3_init 1 s ([.ref q] : List Value).toArray bg_B "SurvivorPurse$Share" := ⟨B.exec, B.bytes, hml, findClass_of_methodNamed B.named, fun w h => hts0 w (List.mem_cons_of_mem _ h)⟩
  have hr := B.returns
  have hlocks := B.notSynchronized
  have hin : meth.name = "<init>" := (name_of_methodNamed B.named B.method).1
  have hl := lv_entry ([.ref q]) (n := 1) (Nat.le_of_ble_eq_true rfl)
  rw [lg_entry_eq]
  generalize (lg_sl ([.ref q]) ++ List.replicate (1 - (lg_sl ([.ref q])).length) Slot.unset).toArray = ls at hl ⊢
  have hl : lv_has ls 1 [(0, .ref q)] := hl
  refine lv_aload_n S.1 S.2.1 dX3_init_0 rfl (lv_at hl 0 rfl) ?_
  refine W.objInit S.1 S.2.1 S.2.2.2.1 (S.2.2.2.2 _ w_ml_X3_3) (S.2.2.2.2 _ w_im_objectInit) (S.2.2.2.2 _ w_obj) rfl (by rw [hml]; exact hl.1) rfl dX3_init_1 (Nat.le_of_ble_eq_true rfl) (Nat.le_of_ble_eq_true rfl) ?_
  refine W.eq (g2 := F0 m 4 ls []) rfl ?_
  have hD : va_D (va_A [(q, .inr (3, z3))] s.heap.size) [(q, .inr (3, z3))] := ⟨fun i j p q h1 h2 _ => by rw [(sing_at h1).1, (sing_at h2).1], fun k q h => va_A.in h⟩
  have hS : va_S (va_A [(q, .inr (3, z3))] s.heap.size) s.heap s.heap [] := va_S.rf
  have hA : ∀ a, s.heap.size ≤ a → va_A [(q, .inr (3, z3))] s.heap.size a := fun a h => Or.inr h
  have hq : q < s.heap.size := P_lt hP 0 _ rfl
  refine lv_aload_n S.1 S.2.1 dX3_init_4 rfl (lv_at hl 0 rfl) ?_
  refine lv_bipush (v := 60) S.1 S.2.1 dX3_init_5 (by decide) ?_
  refine va_newa (atype := .long) (N' := 60) (ty := .long) S.1 S.2.1 (S.2.2.2.2 _ w_ac_J) rfl hK hP hD hS hA (fun cA => new_l cA 60) (by decide) (by decide) (by decide) (Nat.le_of_ble_eq_true rfl) (Nat.le_of_ble_eq_true rfl) dX3_init_7 (fun d cA H hK2 hP hD hS => ?_)
  have ec := cJ_eq hK hK2
  subst ec
  have hd : s.heap.size ≤ d := by
    have h1 := hD.2 1 _ rfl
    rcases h1 with ⟨j, e2, hj⟩ | h1
    · have h2 := congrArg Prod.fst (sing_at hj).2
      have h3 := hD.1 0 1 _ _ rfl rfl h2.symm
      omega
    · exact h1
  refine va_putF (D := E.1) (ci := 3) (v := .ref d) (C := RX3) (T := TX3) (N := 16) S.1 S.2.1 S.2.2.2.2 w_lay_X3 tyX3 tyX3_ok nmX3 S.2.2.2.1 hK hP hD hS 0 rfl rfl 15 (by decide) (S.2.2.2.2 _ w_fl_X3_9) (fun _ h9 => h9) rfl hin rfl (tyX3_ok 15 (by decide)) rfl rfl (Nat.le_of_ble_eq_true rfl) dX3_init_9 (fun H locs hP hD hS => ?_)
  have hP : va_P E.1 vwCl [(q, .inr (3, z3d d)), (d, .inl (E.2 1, 60, .inr (.inl (fun _ => 0))))] H := hP
  exact W.vret S.1 S.2.1 hr (fun t ht hW => ⟨⟨d, rfl, hd, by subst ht; exact hP⟩, hS.F ht⟩) hS.2.2 dX3_init_12
def t0 (i : Nat) : Int32 := 100000 - 900 * nI i
set_option maxHeartbeats 4000000 in
set_option maxRecDepth 100000 in
theorem L_X4_init (l : Launch) (E : EE) {p : Program} {e : Env} {s : State} {m : MethodId} {below : List Frame} {meth : Method} {c : Code} {q al : Nat} (S : CallFix p m c cX4_init 2 s ([.ref q] : List Value).toArray bg_B "SurvivorPurse$Table") (hr : meth.sig.returnType = none) (hlocks : meth.locks = false) (hK : va_K E.1 vwCl (tysE E) s) (hd : s.heap.size ≤ al) : ∀ (fu j : Nat) (g : Nat → Int32), j ≤ 111 → 111 < j + fu → (∀ i, i < j → g i = t0 i) → ∀ (H : Heap) (locs : List Loc) (ls : Array Slot), va_P E.1 vwCl [(q, .inr (4, [.ref al])), (al, .inl (E.2 0, 111, .inl g))] H → va_D (va_A [(q, .inr (4, [.null]))] s.heap.size) [(q, .inr (4, [.ref al])), (al, .inl (E.2 0, 111, .inl g))] → va_S (va_A [(q, .inr (4, [.null]))] s.heap.size) s.heap H locs → lv_has ls 2 [(0, .ref q), (1, .int (nI j))] → W p l e { frames := 1, cells := 1, slots := 111, locals := 12 } s m ([.ref q] : List Value).toArray below meth c H locs 1 111 (MQ below (va_Qv (fun (u : Nat × (Nat → Int32)) => s.heap.size ≤ u.1 ∧ ∀ i, i < 111 → u.2 i = t0 i) (fun u t => va_P E.1 vwCl [(q, .inr (4, [.ref u.1])), (u.1, .inl (E.2 0, 111, .inl u.2))] t.heap) (va_A [(q, .inr (4, [.null]))] s.heap.size)) ([.ref q] : List Value).toArray s 1 111 (va_A [(q, .inr (4, [.null]))] s.heap.size)) (F0 m 14 ls []) := by
  intro fu
  induction fu with
  | zero => intro j g h1 h2; omega
  | succ fu ih =>
    intro j g hj hfu hg H locs ls hP hD hS hl
    refine lv_iload_n S.1 S.2.1 dX4_init_14 rfl (lv_at hl 1 rfl) ?_
    refine lv_bipush (v := 110) S.1 S.2.1 dX4_init_15 (by decide) ?_
    refine lv_icmp_gt (tgt := 40) S.1 S.2.1 dX4_init_17 (by decide) (fun h => ?_) (fun h => ?_)
    · have hj2 : j = 111 := by
        have h2 : nI 110 < nI j := h
        have := (nI_ltI (by omega) (by omega)).mp h2
        omega
      subst hj2
      exact W.vret S.1 S.2.1 hr (fun t ht hW => ⟨⟨(al, g), rfl, ⟨hd, hg⟩, by subst ht; exact hP⟩, hS.F ht⟩) hS.2.2 dX4_init_40
    · have hj2 : j ≤ 110 := by
        rcases Nat.lt_or_ge 110 j with q1 | q1
        · exact absurd (show nI 110 < nI j from nI_lt q1 (by omega)) h
        · exact q1
      refine lv_aload_n S.1 S.2.1 dX4_init_20 rfl (lv_at hl 0 rfl) ?_
      refine va_get (D := E.1) (ci := 4) (v := .ref al) (C := RX4) (T := TX4) (N := 1) S.1 S.2.1 S.2.2.2.2 w_lay_X4 S.2.2.2.1 hK hP 0 rfl rfl 0 (by decide) (S.2.2.2.2 _ w_fl_X4_9) (fun _ h9 => h9) rfl dX4_init_21 ?_
      refine lv_iload_n S.1 S.2.1 dX4_init_24 rfl (lv_at hl 1 rfl) ?_
      refine lv_ldc (own := "SurvivorPurse$Table") (v := (100000 : Int32)) S.1 S.2.1 S.2.2.2.1 (S.2.2.2.2 _ w_ki_X4_15) dX4_init_25 ?_
      refine lv_sipush (v := 900) S.1 S.2.1 dX4_init_27 (by decide) ?_
      refine lv_iload_n S.1 S.2.1 dX4_init_30 rfl (lv_at hl 1 rfl) ?_
      refine lv_imul S.1 S.2.1 dX4_init_31 ?_
      refine lv_isub S.1 S.2.1 dX4_init_32 ?_
      refine va_iast S.1 S.2.1 hK hP hD hS 1 0 rfl rfl (vp_in_nI (by omega) (by omega)) dX4_init_33 (fun H locs hP hD hS => ?_)
      have ec : (nI j).toNatClampNeg = j := nI_clamp (by omega)
      rw [ec] at hP hD
      refine lv_iinc (v := nI (j + 1)) (lv' := [(1, .int (nI (j + 1))), (0, .ref q)]) S.1 S.2.1 dX4_init_34 hl (k := 1) rfl (nI_1 j) (by decide) rfl (fun ls hl => ?_)
      refine lv_goto (tgt := 14) S.1 S.2.1 dX4_init_37 (by decide) ?_
      refine ih (j + 1) (upd g j (100000 - 900 * nI j)) (by omega) (by omega) (fun i hi => ?_) H locs ls hP hD hS (lv_sub hl [1, 0] rfl)
      by_cases hij : i = j
      · subst hij; rw [pk_us]; rfl
      · rw [pk_un hij]; exact hg i (by omega)
set_option maxHeartbeats 4000000 in
set_option maxRecDepth 100000 in
theorem K_X4_init (l : Launch) (E : EE) (q sz : Nat) : Met l yX4_init (.code yX4_init cX4_init 2 none :: bg_B) { frames := 1, cells := 1, slots := 111, locals := 12 } (va_Pc [.ref q] (fun U => U.heap.size = sz ∧ va_P E.1 vwCl [(q, .inr (4, [.null]))] U.heap ∧ va_K E.1 vwCl (tysE E) U)) (va_Qv (fun (u : Nat × (Nat → Int32)) => sz ≤ u.1 ∧ ∀ i, i < 111 → u.2 i = t0 i) (fun u t => va_P E.1 vwCl [(q, .inr (4, [.ref u.1])), (u.1, .inl (E.2 0, 111, .inl u.2))] t.heap) (va_A [(q, .inr (4, [.null]))] sz)) 1 111 (va_A [(q, .inr (4, [.null]))] sz) := by
  refine Met.ofW (cc := cX4_init) (maxL := 2) (ret := none) (by decide) rfl ?_
  intro p e s m args below meth c s₁ B hml hv
  obtain ⟨rfl, hsz, hP, hK⟩ := hv
  subst hsz
  have hts0 := atoms_spec (ws := .code yX4_init cX4_init 2 none :: bg_B) B.pre
  have S : CallFix p m c cX4_init 2 s ([.ref q] : List Value).toArray bg_B "SurvivorPurse$Table" := ⟨B.exec, B.bytes, hml, findClass_of_methodNamed B.named, fun w h => hts0 w (List.mem_cons_of_mem _ h)⟩
  have hr := B.returns
  have hlocks := B.notSynchronized
  have hin : meth.name = "<init>" := (name_of_methodNamed B.named B.method).1
  have hl := lv_entry ([.ref q]) (n := 2) (Nat.le_of_ble_eq_true rfl)
  rw [lg_entry_eq]
  generalize (lg_sl ([.ref q]) ++ List.replicate (2 - (lg_sl ([.ref q])).length) Slot.unset).toArray = ls at hl ⊢
  have hl : lv_has ls 2 [(0, .ref q)] := hl
  refine lv_aload_n S.1 S.2.1 dX4_init_0 rfl (lv_at hl 0 rfl) ?_
  refine W.objInit S.1 S.2.1 S.2.2.2.1 (S.2.2.2.2 _ w_ml_X4_3) (S.2.2.2.2 _ w_im_objectInit) (S.2.2.2.2 _ w_obj) rfl (by rw [hml]; exact hl.1) rfl dX4_init_1 (Nat.le_of_ble_eq_true rfl) (Nat.le_of_ble_eq_true rfl) ?_
  refine W.eq (g2 := F0 m 4 ls []) rfl ?_
  have hD : va_D (va_A [(q, .inr (4, [.null]))] s.heap.size) [(q, .inr (4, [.null]))] := ⟨fun i j p q h1 h2 _ => by rw [(sing_at h1).1, (sing_at h2).1], fun k q h => va_A.in h⟩
  have hS : va_S (va_A [(q, .inr (4, [.null]))] s.heap.size) s.heap s.heap [] := va_S.rf
  have hA : ∀ a, s.heap.size ≤ a → va_A [(q, .inr (4, [.null]))] s.heap.size a := fun a h => Or.inr h
  refine lv_aload_n S.1 S.2.1 dX4_init_4 rfl (lv_at hl 0 rfl) ?_
  refine lv_bipush (v := 111) S.1 S.2.1 dX4_init_5 (by decide) ?_
  refine va_newa (atype := .int) (N' := 111) (ty := .int) S.1 S.2.1 (S.2.2.2.2 _ w_ac_I) rfl hK hP hD hS hA (fun cA => new_i cA 111) (by decide) (by decide) (by decide) (Nat.le_of_ble_eq_true rfl) (Nat.le_of_ble_eq_true rfl) dX4_init_7 (fun d cA H hK2 hP hD hS => ?_)
  have ec := cI_eq hK hK2
  subst ec
  have hd : s.heap.size ≤ d := by
    have h1 := hD.2 1 _ rfl
    rcases h1 with ⟨j, e2, hj⟩ | h1
    · have h2 := congrArg Prod.fst (sing_at hj).2
      have h3 := hD.1 0 1 _ _ rfl rfl h2.symm
      omega
    · exact h1
  refine va_putF (D := E.1) (ci := 4) (v := .ref d) (C := RX4) (T := TX4) (N := 1) S.1 S.2.1 S.2.2.2.2 w_lay_X4 tyX4 tyX4_ok nmX4 S.2.2.2.1 hK hP hD hS 0 rfl rfl 0 (by decide) (S.2.2.2.2 _ w_fl_X4_9) (fun _ h9 => h9) rfl hin rfl (tyX4_ok 0 (by decide)) rfl rfl (Nat.le_of_ble_eq_true rfl) dX4_init_9 (fun H locs hP hD hS => ?_)
  refine lv_iconst (v := 0) S.1 S.2.1 dX4_init_12 (by decide) ?_
  refine lv_istore_n (lv' := [(1, .int 0), (0, .ref q)]) S.1 S.2.1 dX4_init_13 rfl hl (by decide) rfl (fun ls hl => ?_)
  exact L_X4_init l E S hr hlocks hK hd 112 0 (fun _ => 0) (by omega) (by omega) (fun i h => absurd h (Nat.not_lt_zero i)) H locs ls hP hD hS (lv_sub hl [1, 0] rfl)

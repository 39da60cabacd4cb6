/-! ===== the words, all in one list ===== -/
def bg_B : List Cond := lw_tbl.filter goodWord
theorem bg_in {w : Cond} (h : w ∈ lw_tbl) (g : goodWord w = true) : w ∈ bg_B := List.mem_filter.mpr ⟨h, g⟩
theorem bg_at {w : Cond} (i : Nat) (h : tables_1[i]? = some w) (g : goodWord w = true) : w ∈ bg_B := bg_in (List.mem_append_right _ (List.mem_of_getElem? h)) g
theorem bg_sel {w : Cond} (i : Nat) (h : (k2_sels lw_privs)[i]? = some w) (g : goodWord w = true) : w ∈ bg_B := bg_in (List.mem_append_left _ (List.mem_of_getElem? h)) g
theorem bg_good : ∀ w ∈ bg_B, (w.onTables && w.keeps) = true ∨ ∃ ty, w = .arrayClass ty := fun _ h => good_of_word (List.mem_filter.mp h).2
theorem bg_ok {w : Cond} (h : w ∈ bg_B) : GoodIn bg_B (w :: bg_B) := fun v hv => (List.mem_cons.mp hv).elim (fun e => by rw [e]; exact ⟨h, bg_good _ h⟩) (fun h2 => ⟨h2, bg_good _ h2⟩)
/-! ===== memory ===== -/
abbrev MM : Type := (Nat → Nat → Int32) × (Nat → Nat → Int64)
def gI (M : MM) (c k : Nat) : Int32 := M.1 c k
def gL (M : MM) (c k : Nat) : Int64 := M.2 c k
def sI (M : MM) (c k : Nat) (v : Int32) : MM := (fun c' k' => if c' = c ∧ k' = k then v else M.1 c' k', M.2)
def sL (M : MM) (c k : Nat) (v : Int64) : MM := (M.1, fun c' k' => if c' = c ∧ k' = k then v else M.2 c' k')
abbrev ix (i : Int32) : Nat := i.toNatClampNeg
def ib (i : Int32) (n : Nat) : Bool := !(decide (i < 0)) && decide (i.toNatClampNeg < n)
theorem ib_in {i : Int32} {n : Nat} (h : ib i n = true) : vp_in i n := by
  simp only [ib, Bool.and_eq_true, Bool.not_eq_true', decide_eq_false_iff_not, decide_eq_true_eq] at h
  exact fun q => q.elim h.1 (fun q => absurd h.2 (Nat.not_lt.mpr q))
theorem ib_lt {i : Int32} {n : Nat} (h : ib i n = true) : ix i < n := by
  simp only [ib, Bool.and_eq_true, Bool.not_eq_true', decide_eq_false_iff_not, decide_eq_true_eq] at h
  exact h.2
def bo (x : Int32) : Int32 := if x = 0 then 0 else 1
def bI (b : Bool) : Int32 := match b with | true => 1 | false => 0
theorem bo_bo (x : Int32) : bo (bo x) = bo x := by unfold bo; split <;> rfl
theorem bo_bI (b : Bool) : bo (bI b) = bI b := by cases b <;> rfl
theorem bo_cases {v : Int32} (h : bo v = v) : v = 0 ∨ v = 1 := by
  unfold bo at h; split at h
  · exact Or.inl h.symm
  · exact Or.inr h.symm
theorem bo_nar {v : Int32} (h : bo v = v) : narrow .boolean (.int v) = .int v := by rcases bo_cases h with rfl | rfl <;> rfl
theorem bo_fit {v : Int32} (h : bo v = v) : fits .boolean (.int v) = true := by rcases bo_cases h with rfl | rfl <;> rfl
def gd {α : Type} (b : Bool) (x : Option α) : Option α := match b with | true => x | false => none
theorem gd_some {α : Type} {b : Bool} {x : Option α} {y : α} (h : gd b x = some y) : b = true ∧ x = some y := by cases b <;> first | exact ⟨rfl, h⟩ | cases h
def bnd {α β : Type} (a : α) (f : α → β) : β := f a
theorem bnd_some {α β : Type} {a : α} {f : α → β} {y : β} (h : bnd a f = y) : ∃ x, x = a ∧ f x = y := ⟨a, rfl, h⟩
def bn2 {α β γ : Type} (o : Option (α × β)) (f : α → β → Option γ) : Option γ := match o with | some (a, b) => f a b | none => none
theorem bn2_some {α β γ : Type} {o : Option (α × β)} {f : α → β → Option γ} {y : γ} (h : bn2 o f = some y) : ∃ a b, o = some (a, b) ∧ f a b = some y := by
  cases o with
  | none => cases h
  | some q => exact ⟨q.1, q.2, rfl, h⟩
def bn1 {α γ : Type} (o : Option α) (f : α → Option γ) : Option γ := match o with | some a => f a | none => none
theorem bn1_some {α γ : Type} {o : Option α} {f : α → Option γ} {y : γ} (h : bn1 o f = some y) : ∃ a, o = some a ∧ f a = some y := by
  cases o with
  | none => cases h
  | some q => exact ⟨q, rfl, h⟩
theorem ift {c : Prop} [Decidable c] {α : Type} {A B y : α} (h : c) (hf : (if c then A else B) = y) : A = y := by rw [if_pos h] at hf; exact hf
theorem iff_ {c : Prop} [Decidable c] {α : Type} {A B y : α} (h : ¬ c) (hf : (if c then A else B) = y) : B = y := by rw [if_neg h] at hf; exact hf
theorem ifnt {c : Prop} [Decidable c] {α : Type} {A B y : α} (h : ¬ c) (hf : (if c then A else B) = y) : B = y := by rw [if_neg h] at hf; exact hf
/-! ===== worlds ===== -/
abbrev EE : Type := va_G × (Nat → ClassId)
abbrev tysE (E : EE) : List (ClassId × FieldType) := [(E.2 0, .int), (E.2 1, .long), (E.2 2, .object "SurvivorPurse$Member"), (E.2 3, .object "SurvivorPurse$Rank"), (E.2 4, .object "SurvivorPurse$Share")]
def mw (ent : Nat → va_E) (ad : Nat → Nat) (n : Nat) : va_W := (List.range n).map (fun c => (ad c, ent c))
theorem mw_at {ent : Nat → va_E} {ad : Nat → Nat} {n c : Nat} (h : c < n) {e : va_E} (he : ent c = e) : (mw ent ad n)[c]? = some (ad c, e) := by
  subst he
  simp [mw, h]
theorem mw_get {ent : Nat → va_E} {ad : Nat → Nat} {n k : Nat} {q : Nat × va_E} (h : (mw ent ad n)[k]? = some q) : k < n ∧ q = (ad k, ent k) := by
  have hk : k < n := by
    have h1 := (List.getElem?_eq_some_iff.mp h).1
    simpa [mw] using h1
  exact ⟨hk, (Option.some.inj ((mw_at hk rfl).symm.trans h)).symm⟩
theorem mw_set {ent ent' : Nat → va_E} {ad : Nat → Nat} {n c : Nat} {e : va_E} (h1 : ent' c = e) (h2 : ∀ c', c' ≠ c → ent' c' = ent c') : (mw ent ad n).set c (ad c, e) = mw ent' ad n := by
  apply List.ext_getElem?
  intro i
  by_cases hi : i < n
  · rw [mw_at hi rfl, List.getElem?_set]
    by_cases hc : c = i
    · subst hc
      simp [mw, hi, h1]
    · rw [if_neg hc, mw_at hi rfl, h2 i (fun q => hc q.symm)]
  · rw [List.getElem?_eq_none (by simp [mw]; omega), List.getElem?_eq_none (by simp [mw]; omega)]
def ad_I (ad : Nat → Nat) (n : Nat) : Prop := ∀ i j, i < n → j < n → ad i = ad j → i = j
def AA (ad : Nat → Nat) (n sz : Nat) : Nat → Prop := fun q => (∃ c, c < n ∧ q = ad c) ∨ sz ≤ q
theorem mw_D {ent : Nat → va_E} {ad : Nat → Nat} {n sz : Nat} (hI : ad_I ad n) : va_D (AA ad n sz) (mw ent ad n) :=
  ⟨fun i j p q h1 h2 e => by
    obtain ⟨a1, rfl⟩ := mw_get h1
    obtain ⟨a2, rfl⟩ := mw_get h2
    exact hI i j a1 a2 e,
   fun k q h => by
    obtain ⟨a1, rfl⟩ := mw_get h
    exact Or.inl ⟨k, a1, rfl⟩⟩
theorem AA_mono {ad : Nat → Nat} {n a b : Nat} (h : a ≤ b) {q : Nat} (hq : AA ad n b q) : AA ad n a q := hq.elim Or.inl (fun h2 => Or.inr (Nat.le_trans h h2))
def nestL : List Cond := [(Jvm.Cond.methodLinkNest "SurvivorPurse$Book" (40 : Nat) ({ cls := "SurvivorPurse$Member", name := "<init>", desc := "()V" } : Jvm.MethodName) "SurvivorPurse"), (Jvm.Cond.methodLinkNest "SurvivorPurse$Book" (41 : Nat) ({ cls := "SurvivorPurse$Rank", name := "<init>", desc := "()V" } : Jvm.MethodName) "SurvivorPurse"), (Jvm.Cond.methodLinkNest "SurvivorPurse$Book" (42 : Nat) ({ cls := "SurvivorPurse$Share", name := "<init>", desc := "()V" } : Jvm.MethodName) "SurvivorPurse"), (Jvm.Cond.methodLinkNest "SurvivorPurse$Table" (16 : Nat) ({ cls := "SurvivorPurse", name := "isAge", desc := "(I)Z" } : Jvm.MethodName) "SurvivorPurse"), (Jvm.Cond.methodLinkNest "SurvivorPurse$Book" (142 : Nat) ({ cls := "SurvivorPurse", name := "isWithin", desc := "(III)Z" } : Jvm.MethodName) "SurvivorPurse"), (Jvm.Cond.methodLinkNest "SurvivorPurse$Share" (97 : Nat) ({ cls := "SurvivorPurse", name := "parted", desc := "(JJJ)J" } : Jvm.MethodName) "SurvivorPurse"), (Jvm.Cond.methodLinkNest "SurvivorPurse$Book" (174 : Nat) ({ cls := "SurvivorPurse", name := "parted", desc := "(JJJ)J" } : Jvm.MethodName) "SurvivorPurse"), (Jvm.Cond.methodLinkNest "SurvivorPurse$Share" (67 : Nat) ({ cls := "SurvivorPurse", name := "isWithin", desc := "(III)Z" } : Jvm.MethodName) "SurvivorPurse")]
def NW (U : State) : Prop := ∀ w ∈ nestL, va_Nw w U
theorem NW.warm {s U : State} (hW : s.WarmedH U.vm) (h : NW s) : NW U := by
  simp only [NW, nestL, List.forall_mem_cons] at h ⊢
  obtain ⟨h0, h1, h2, h3, h4, h5, h6, h7, h9⟩ := h
  exact ⟨va_Nw.warmM hW h0, va_Nw.warmM hW h1, va_Nw.warmM hW h2, va_Nw.warmM hW h3, va_Nw.warmM hW h4, va_Nw.warmM hW h5, va_Nw.warmM hW h6, va_Nw.warmM hW h7, fun _ h => absurd h List.not_mem_nil⟩
theorem NW.same {s U : State} (hv : s.vm = U.vm) (h : NW s) : NW U := by
  intro w hw
  have h2 := h w hw
  revert hw
  simp only [nestL, List.mem_cons, List.not_mem_nil, or_false]
  intro hw
  rcases hw with rfl | rfl | rfl | rfl | rfl | rfl | rfl | rfl <;> exact va_Nw.same rfl hv h2
def PB (E : EE) (ent : Nat → va_E) (ad : Nat → Nat) (n sz : Nat) (U : State) : Prop := U.heap.size = sz ∧ va_P E.1 vwCl (mw ent ad n) U.heap ∧ va_K E.1 vwCl (tysE E) U ∧ NW U
def QB (E : EE) (ent : Nat → va_E) (ad : Nat → Nat) (n : Nat) (t : State) : Prop := va_P E.1 vwCl (mw ent ad n) t.heap
def CtL (l : Launch) (y : MethodName) (b : ByteArray) (mx fr lo : Nat) (E : EE) (ent ent' : Nat → va_E) (ad : Nat → Nat) (n sz : Nat) (av : List Value) (r : Int64) : Prop :=
  Met l y (.code y b mx (some .long) :: bg_B) { frames := fr, cells := 0, slots := 0, locals := lo } (va_Pc av (PB E ent ad n sz)) (va_Ql (fun r0 (_ : Unit) => r0 = r) (fun _ t => QB E ent' ad n t) (AA ad n sz)) 0 0 (AA ad n sz)
def CtI (l : Launch) (y : MethodName) (b : ByteArray) (mx fr lo : Nat) (ty : FieldType) (E : EE) (ent ent' : Nat → va_E) (ad : Nat → Nat) (n sz : Nat) (av : List Value) (r : Int32) : Prop :=
  Met l y (.code y b mx (some ty) :: bg_B) { frames := fr, cells := 0, slots := 0, locals := lo } (va_Pc av (PB E ent ad n sz)) (va_Qi (fun r0 (_ : Unit) => r0 = r) (fun _ t => QB E ent' ad n t) (AA ad n sz)) 0 0 (AA ad n sz)
def CtV (l : Launch) (y : MethodName) (b : ByteArray) (mx fr lo : Nat) (E : EE) (ent ent' : Nat → va_E) (ad : Nat → Nat) (n sz : Nat) (av : List Value) : Prop :=
  Met l y (.code y b mx none :: bg_B) { frames := fr, cells := 0, slots := 0, locals := lo } (va_Pc av (PB E ent ad n sz)) (va_Qv (fun (_ : Unit) => True) (fun _ t => QB E ent' ad n t) (AA ad n sz)) 0 0 (AA ad n sz)
theorem PB_blind {E : EE} {ent : Nat → va_E} {ad : Nat → Nat} {n sz : Nat} {av : List Value} : FrameBlind (va_Pc av (PB E ent ad n sz)) := fun a U g mk q => by
  obtain ⟨q0, q1, qP, qK, qN⟩ := q
  exact ⟨q0, q1, qP, va_K.moved (u := U) (U := U.calling g mk a) (Vm.Alike.refl U.vm) qK, NW.same (s := U) (U := U.calling g mk a) rfl qN⟩
theorem PB_pre {E : EE} {ent : Nat → va_E} {ad : Nat → Nat} {n : Nat} {av : List Value} {s : State} {H : Heap} (hP : va_P E.1 vwCl (mw ent ad n) H) (hK : va_K E.1 vwCl (tysE E) s) (hN : NW s) : ∀ U : State, U.heap = H → s.WarmedH U.vm → va_Pc av (PB E ent ad n H.size) av.toArray U := fun U hU hW =>
  ⟨rfl, by rw [hU], by rw [hU]; exact hP, va_K.moved hW.alike hK, NW.warm hW hN⟩
/-! ===== a method's body ===== -/
section MyBody
variable {l : Launch} {y : MethodName} {b : ByteArray} {mx fr lo : Nat} {E : EE} {ent ent' : Nat → va_E} {ad : Nat → Nat} {n sz : Nat} {av : List Value}
theorem body_of {ret : Option FieldType} {Qc : Array Value → State → Outcome → State → Prop} (hy : plainName y.cls = true) (own : String) (ho : y.cls = own) (hmx : (lg_sl av).length ≤ mx)
    (body : ∀ p e s m below meth c, sz = s.heap.size → CallFix p m c b mx s av.toArray bg_B own → meth.sig.returnType = ret → meth.locks = false → va_P E.1 vwCl (mw ent ad n) s.heap → va_K E.1 vwCl (tysE E) s → NW s → ∀ ls, lv_has ls mx (lv_args 0 av) → W p l e { frames := fr, cells := 0, slots := 0, locals := lo } s m av.toArray below meth c s.heap [] 0 0 (MQ below Qc av.toArray s 0 0 (AA ad n sz)) (F0 m 0 ls [])) :
    Met l y (.code y b mx ret :: bg_B) { frames := fr, cells := 0, slots := 0, locals := lo } (va_Pc av (PB E ent ad n sz)) Qc 0 0 (AA ad n sz) := by
  refine Met.ofW (cc := b) (maxL := mx) (ret := ret) hy rfl ?_
  intro p e s m args below meth c s₁ B hml hv
  obtain ⟨rfl, hsz, hP, hK, hN⟩ := hv
  have hts := atoms_spec (ws := .code y b mx ret :: bg_B) B.pre
  have hl := lv_entry av (n := mx) hmx
  rw [lg_entry_eq]
  exact body p e s m below meth c hsz.symm ⟨B.exec, B.bytes, hml, ho ▸ findClass_of_methodNamed B.named, fun w h => hts w (List.mem_cons_of_mem _ h)⟩ B.returns B.notSynchronized hP hK hN _ hl
end MyBody
/-! ===== rows over a world ===== -/
section MyRows
variable {p : Program} {l : Launch} {e : Env} {R : Room} {s : State} {m : MethodId} {args : Array Value} {below : List Frame} {meth : Method} {c : Code} {H : Heap} {locs : List Loc} {cells slots : Nat} {Q : State → Prop}
variable {cc : ByteArray} {pc : Nat} {ls : Array Slot} {rest : List Value} {nL : Nat} {own : String} {E : EE} {ent ent' : Nat → va_E} {ad : Nat → Nat} {n sz : Nat} {H0 : Heap}
theorem lv_rei {x a : Int32} (ex : x = a) (k : W p l e R s m args below meth c H locs cells slots Q (F0 m pc ls (.int x :: rest))) : W p l e R s m args below meth c H locs cells slots Q (F0 m pc ls (.int a :: rest)) := ex ▸ k
theorem lv_rel {x a : Int64} (ex : x = a) (k : W p l e R s m args below meth c H locs cells slots Q (F0 m pc ls (.long x :: rest))) : W p l e R s m args below meth c H locs cells slots Q (F0 m pc ls (.long a :: rest)) := ex ▸ k
theorem lv_rer {x a : Nat} (ex : x = a) (k : W p l e R s m args below meth c H locs cells slots Q (F0 m pc ls (.ref x :: rest))) : W p l e R s m args below meth c H locs cells slots Q (F0 m pc ls (.ref a :: rest)) := ex ▸ k
theorem ll_eq (S : CallFix p m c cc nL s args bg_B own) {x y : Int64} {off : Int} {tgt : Nat} (h1 : decode cc pc = .ok (.lcmp, 1)) (h2 : decode cc (pc + 1) = .ok (.ifCond .eq off, 3)) (ht : ((pc + 1 : Nat) : Int) + off = (tgt : Int)) (kt : x = y → W p l e R s m args below meth c H locs cells slots Q (F0 m tgt ls rest)) (kf : ¬ x = y → W p l e R s m args below meth c H locs cells slots Q (F0 m (pc + 4) ls rest)) : W p l e R s m args below meth c H locs cells slots Q (F0 m pc ls (.long y :: .long x :: rest)) :=
  W.lcmp S.1 S.2.1 h1 (lv_if_eq S.1 S.2.1 h2 ht (fun h => kt ((lg_cmp_eq x y).mp h)) (fun h => kf (fun q => h ((lg_cmp_eq x y).mpr q))))
theorem ll_ne (S : CallFix p m c cc nL s args bg_B own) {x y : Int64} {off : Int} {tgt : Nat} (h1 : decode cc pc = .ok (.lcmp, 1)) (h2 : decode cc (pc + 1) = .ok (.ifCond .ne off, 3)) (ht : ((pc + 1 : Nat) : Int) + off = (tgt : Int)) (kt : ¬ x = y → W p l e R s m args below meth c H locs cells slots Q (F0 m tgt ls rest)) (kf : x = y → W p l e R s m args below meth c H locs cells slots Q (F0 m (pc + 4) ls rest)) : W p l e R s m args below meth c H locs cells slots Q (F0 m pc ls (.long y :: .long x :: rest)) :=
  W.lcmp S.1 S.2.1 h1 (lv_if_ne S.1 S.2.1 h2 ht (fun h => kt (fun q => h ((lg_cmp_eq x y).mpr q))) (fun h => kf ((lg_cmp_eq x y).mp h)))
theorem ll_lt (S : CallFix p m c cc nL s args bg_B own) {x y : Int64} {off : Int} {tgt : Nat} (h1 : decode cc pc = .ok (.lcmp, 1)) (h2 : decode cc (pc + 1) = .ok (.ifCond .lt off, 3)) (ht : ((pc + 1 : Nat) : Int) + off = (tgt : Int)) (kt : x < y → W p l e R s m args below meth c H locs cells slots Q (F0 m tgt ls rest)) (kf : ¬ x < y → W p l e R s m args below meth c H locs cells slots Q (F0 m (pc + 4) ls rest)) : W p l e R s m args below meth c H locs cells slots Q (F0 m pc ls (.long y :: .long x :: rest)) :=
  W.lcmp S.1 S.2.1 h1 (lv_if_lt S.1 S.2.1 h2 ht (fun h => kt ((lg_cmp_lt x y).mp h)) (fun h => kf (fun q => h ((lg_cmp_lt x y).mpr q))))
theorem ll_ge (S : CallFix p m c cc nL s args bg_B own) {x y : Int64} {off : Int} {tgt : Nat} (h1 : decode cc pc = .ok (.lcmp, 1)) (h2 : decode cc (pc + 1) = .ok (.ifCond .ge off, 3)) (ht : ((pc + 1 : Nat) : Int) + off = (tgt : Int)) (kt : y ≤ x → W p l e R s m args below meth c H locs cells slots Q (F0 m tgt ls rest)) (kf : ¬ y ≤ x → W p l e R s m args below meth c H locs cells slots Q (F0 m (pc + 4) ls rest)) : W p l e R s m args below meth c H locs cells slots Q (F0 m pc ls (.long y :: .long x :: rest)) :=
  W.lcmp S.1 S.2.1 h1 (lv_if_ge S.1 S.2.1 h2 ht (fun h => kt ((lg_cmp_ge x y).mp h)) (fun h => kf (fun q => h ((lg_cmp_ge x y).mpr q))))
theorem ll_gt (S : CallFix p m c cc nL s args bg_B own) {x y : Int64} {off : Int} {tgt : Nat} (h1 : decode cc pc = .ok (.lcmp, 1)) (h2 : decode cc (pc + 1) = .ok (.ifCond .gt off, 3)) (ht : ((pc + 1 : Nat) : Int) + off = (tgt : Int)) (kt : y < x → W p l e R s m args below meth c H locs cells slots Q (F0 m tgt ls rest)) (kf : ¬ y < x → W p l e R s m args below meth c H locs cells slots Q (F0 m (pc + 4) ls rest)) : W p l e R s m args below meth c H locs cells slots Q (F0 m pc ls (.long y :: .long x :: rest)) :=
  W.lcmp S.1 S.2.1 h1 (lv_if_gt S.1 S.2.1 h2 ht (fun h => kt ((lg_cmp_gt x y).mp h)) (fun h => kf (fun q => h ((lg_cmp_gt x y).mpr q))))
theorem ll_le (S : CallFix p m c cc nL s args bg_B own) {x y : Int64} {off : Int} {tgt : Nat} (h1 : decode cc pc = .ok (.lcmp, 1)) (h2 : decode cc (pc + 1) = .ok (.ifCond .le off, 3)) (ht : ((pc + 1 : Nat) : Int) + off = (tgt : Int)) (kt : x ≤ y → W p l e R s m args below meth c H locs cells slots Q (F0 m tgt ls rest)) (kf : ¬ x ≤ y → W p l e R s m args below meth c H locs cells slots Q (F0 m (pc + 4) ls rest)) : W p l e R s m args below meth c H locs cells slots Q (F0 m pc ls (.long y :: .long x :: rest)) :=
  W.lcmp S.1 S.2.1 h1 (lv_if_le S.1 S.2.1 h2 ht (fun h => kt ((lg_cmp_le x y).mp h)) (fun h => kf (fun q => h ((lg_cmp_le x y).mpr q))))
/-- a field is read -/
theorem x_get {C : String} {T : u_T} {N ci index : Nat} {ref : String} (S : CallFix p m c cc nL s args bg_B own) (hK : va_K E.1 vwCl (tysE E) s) (hP : va_P E.1 vwCl (mw ent ad n) H) (hin : ∀ w ∈ u_ws C T N, w ∈ bg_B) (hc : vwCl[ci]? = some (C, T, N)) (co : Nat) (hco : co < n) {fs : List Value} (he : ent co = .inr (ci, fs)) (k : Nat) (hk : k < N) (hlink : Cond.fieldLink own index ref (T k).2.1 (T k).2.2.1 ∈ bg_B) (hsame : (T k).1 = ref) {v : Value} (hv : fs[k]? = some v) (hdg : decode cc pc = .ok (.getfield index, 3))
    (kk : W p l e R s m args below meth c H locs cells slots Q (F0 m (pc + 3) ls (v :: rest))) : W p l e R s m args below meth c H locs cells slots Q (F0 m pc ls (.ref (ad co) :: rest)) :=
  va_get (D := E.1) (ci := ci) (v := v) (C := C) (T := T) (N := N) S.1 S.2.1 S.2.2.2.2 hin S.2.2.2.1 hK hP co (mw_at hco he) hc k hk (S.2.2.2.2 _ hlink) (fun _ h9 => by rw [hsame] at h9; exact h9) hv hdg kk
/-- a field is written -/
theorem x_put {C : String} {T : u_T} {N ci index : Nat} {ref : String} (S : CallFix p m c cc nL s args bg_B own) (hI : ad_I ad n) (hK : va_K E.1 vwCl (tysE E) s) (hP : va_P E.1 vwCl (mw ent ad n) H) (hS : va_S (AA ad n sz) H0 H locs) (hin : ∀ w ∈ u_ws C T N, w ∈ bg_B) (ty0 : Nat → FieldType) (hty : ∀ k, k < N → parseFieldDescriptor (T k).2.2.1 = some (ty0 k)) (hnm : ∀ a, a < N → ∀ b, b < N → a ≠ b → (T a).2.1 ≠ (T b).2.1) (hc : vwCl[ci]? = some (C, T, N)) (co : Nat) (hco : co < n) {fs : List Value} (he : ent co = .inr (ci, fs)) (k : Nat) (hk : k < N) (hlink : Cond.fieldLink own index ref (T k).2.1 (T k).2.2.1 ∈ bg_B) (hsame : (T k).1 = ref) (hfin : (T k).2.2.2 = false) {v : Value} (hn : narrow (ty0 k) v = v) (hfit : fits (ty0 k) v = true) (hl : k < fs.length) (ent' : Nat → va_E) (h1 : ent' co = .inr (ci, fs.set k v)) (h2 : ∀ c', c' ≠ co → ent' c' = ent c') (hdg : decode cc pc = .ok (.putfield index, 3))
    (kk : ∀ (H1 : Heap) (locs1 : List Loc), va_P E.1 vwCl (mw ent' ad n) H1 → va_S (AA ad n sz) H0 H1 locs1 → W p l e R s m args below meth c H1 locs1 cells slots Q (F0 m (pc + 3) ls rest)) : W p l e R s m args below meth c H locs cells slots Q (F0 m pc ls (v :: .ref (ad co) :: rest)) :=
  va_put (D := E.1) (ci := ci) (v := v) (C := C) (T := T) (N := N) S.1 S.2.1 S.2.2.2.2 hin ty0 hty hnm S.2.2.2.1 hK hP (mw_D hI) hS co (mw_at hco he) hc k hk (S.2.2.2.2 _ hlink) (fun _ h9 => by rw [hsame] at h9; exact h9) hfin (hty k hk) hn hfit hl hdg (fun H1 locs1 hP1 _ hS1 => kk H1 locs1 (by rw [mw_set h1 h2] at hP1; exact hP1) hS1)
/-- an element of a row of longs is read -/
theorem x_lald (S : CallFix p m c cc nL s args bg_B own) (hK : va_K E.1 vwCl (tysE E) s) (hP : va_P E.1 vwCl (mw ent ad n) H) (co : Nat) (hco : co < n) {k : Nat} {f : Nat → Int64} (he : ent co = .inl (E.2 1, k, .inr (.inl f))) {i : Int32} (hi : ib i k = true) (hdg : decode cc pc = .ok (.laload, 1))
    (kk : W p l e R s m args below meth c H locs cells slots Q (F0 m (pc + 1) ls (.long (f (ix i)) :: rest))) : W p l e R s m args below meth c H locs cells slots Q (F0 m pc ls (.int i :: .ref (ad co) :: rest)) :=
  va_lald S.1 S.2.1 hK hP co 1 (mw_at hco he) rfl (ib_in hi) hdg kk
theorem x_iald (S : CallFix p m c cc nL s args bg_B own) (hK : va_K E.1 vwCl (tysE E) s) (hP : va_P E.1 vwCl (mw ent ad n) H) (co : Nat) (hco : co < n) {k : Nat} {f : Nat → Int32} (he : ent co = .inl (E.2 0, k, .inl f)) {i : Int32} (hi : ib i k = true) (hdg : decode cc pc = .ok (.iaload, 1))
    (kk : W p l e R s m args below meth c H locs cells slots Q (F0 m (pc + 1) ls (.int (f (ix i)) :: rest))) : W p l e R s m args below meth c H locs cells slots Q (F0 m pc ls (.int i :: .ref (ad co) :: rest)) :=
  va_iald S.1 S.2.1 hK hP co 0 (mw_at hco he) rfl (ib_in hi) hdg kk
theorem x_aald (S : CallFix p m c cc nL s args bg_B own) (hK : va_K E.1 vwCl (tysE E) s) (hP : va_P E.1 vwCl (mw ent ad n) H) (co : Nat) (hco : co < n) {k : Nat} {cA : ClassId} {f : Nat → Nat} (he : ent co = .inl (cA, k, .inr (.inr (.inr (.inr (fun i => some (ad (f i)))))))) (t0 : Nat) {C : String} (ht : (tysE E)[t0]? = some (cA, .object C)) {i : Int32} (hi : ib i k = true) (hdg : decode cc pc = .ok (.aaload, 1))
    (kk : W p l e R s m args below meth c H locs cells slots Q (F0 m (pc + 1) ls (.ref (ad (f (ix i))) :: rest))) : W p l e R s m args below meth c H locs cells slots Q (F0 m pc ls (.int i :: .ref (ad co) :: rest)) :=
  va_aldq S.1 S.2.1 hK hP co t0 (mw_at hco he) ht (ib_in hi) hdg kk
theorem x_last (S : CallFix p m c cc nL s args bg_B own) (hI : ad_I ad n) (hK : va_K E.1 vwCl (tysE E) s) (hP : va_P E.1 vwCl (mw ent ad n) H) (hS : va_S (AA ad n sz) H0 H locs) (co : Nat) (hco : co < n) {k : Nat} {f : Nat → Int64} (he : ent co = .inl (E.2 1, k, .inr (.inl f))) {i : Int32} {x : Int64} (hi : ib i k = true) (ent' : Nat → va_E) (h1 : ent' co = .inl (E.2 1, k, .inr (.inl (vp_updL f (ix i) x)))) (h2 : ∀ c', c' ≠ co → ent' c' = ent c') (hdg : decode cc pc = .ok (.lastore, 1))
    (kk : ∀ (H1 : Heap) (locs1 : List Loc), va_P E.1 vwCl (mw ent' ad n) H1 → va_S (AA ad n sz) H0 H1 locs1 → W p l e R s m args below meth c H1 locs1 cells slots Q (F0 m (pc + 1) ls rest)) : W p l e R s m args below meth c H locs cells slots Q (F0 m pc ls (.long x :: .int i :: .ref (ad co) :: rest)) :=
  va_last S.1 S.2.1 hK hP (mw_D hI) hS co 1 (mw_at hco he) rfl (ib_in hi) hdg (fun H1 locs1 hP1 _ hS1 => kk H1 locs1 (by rw [mw_set h1 h2] at hP1; exact hP1) hS1)
theorem x_iast (S : CallFix p m c cc nL s args bg_B own) (hI : ad_I ad n) (hK : va_K E.1 vwCl (tysE E) s) (hP : va_P E.1 vwCl (mw ent ad n) H) (hS : va_S (AA ad n sz) H0 H locs) (co : Nat) (hco : co < n) {k : Nat} {f : Nat → Int32} (he : ent co = .inl (E.2 0, k, .inl f)) {i x : Int32} (hi : ib i k = true) (ent' : Nat → va_E) (h1 : ent' co = .inl (E.2 0, k, .inl (upd f (ix i) x))) (h2 : ∀ c', c' ≠ co → ent' c' = ent c') (hdg : decode cc pc = .ok (.iastore, 1))
    (kk : ∀ (H1 : Heap) (locs1 : List Loc), va_P E.1 vwCl (mw ent' ad n) H1 → va_S (AA ad n sz) H0 H1 locs1 → W p l e R s m args below meth c H1 locs1 cells slots Q (F0 m (pc + 1) ls rest)) : W p l e R s m args below meth c H locs cells slots Q (F0 m pc ls (.int x :: .int i :: .ref (ad co) :: rest)) :=
  va_iast S.1 S.2.1 hK hP (mw_D hI) hS co 0 (mw_at hco he) rfl (ib_in hi) hdg (fun H1 locs1 hP1 _ hS1 => kk H1 locs1 (by rw [mw_set h1 h2] at hP1; exact hP1) hS1)
/-! returns -/
theorem r_l {r : Int64} (S : CallFix p m c cc nL s args bg_B own) (hr : meth.sig.returnType = some .long) (hlocks : meth.locks = false) (hP : va_P E.1 vwCl (mw ent' ad n) H) (hS : va_S (AA ad n sz) s.heap H locs) (hdg : decode cc pc = .ok (.lreturn, 1)) : W p l e R s m args below meth c H locs cells slots (MQ below (va_Ql (fun r0 (_ : Unit) => r0 = r) (fun _ t => QB E ent' ad n t) (AA ad n sz)) args s cells slots (AA ad n sz)) (F0 m pc ls [.long r]) :=
  W.lret S.1 S.2.1 hr (fun t ht _ => ⟨⟨r, (), rfl, rfl, by subst ht; exact hP⟩, hS.F ht⟩) hS.2.2 hdg
theorem r_i {r : Int32} (S : CallFix p m c cc nL s args bg_B own) (hr : meth.sig.returnType = some .int) (hlocks : meth.locks = false) (hP : va_P E.1 vwCl (mw ent' ad n) H) (hS : va_S (AA ad n sz) s.heap H locs) (hdg : decode cc pc = .ok (.ireturn, 1)) : W p l e R s m args below meth c H locs cells slots (MQ below (va_Qi (fun r0 (_ : Unit) => r0 = r) (fun _ t => QB E ent' ad n t) (AA ad n sz)) args s cells slots (AA ad n sz)) (F0 m pc ls [.int r]) :=
  W.iret S.1 S.2.1 hr (fun t ht _ => ⟨⟨r, (), rfl, rfl, by subst ht; exact hP⟩, hS.F ht⟩) hS.2.2 hdg
theorem r_z {r : Bool} (S : CallFix p m c cc nL s args bg_B own) (hr : meth.sig.returnType = some .boolean) (hlocks : meth.locks = false) (hP : va_P E.1 vwCl (mw ent' ad n) H) (hS : va_S (AA ad n sz) s.heap H locs) (hdg : decode cc pc = .ok (.ireturn, 1)) : W p l e R s m args below meth c H locs cells slots (MQ below (va_Qi (fun r0 (_ : Unit) => r0 = bI r) (fun _ t => QB E ent' ad n t) (AA ad n sz)) args s cells slots (AA ad n sz)) (F0 m pc ls [.int (bI r)]) :=
  W.zret S.1 S.2.1 hr (bo_nar (bo_bI r)) (fun t ht _ => ⟨⟨bI r, (), rfl, rfl, by subst ht; exact hP⟩, hS.F ht⟩) hS.2.2 hdg
theorem r_v (S : CallFix p m c cc nL s args bg_B own) (hr : meth.sig.returnType = none) (hlocks : meth.locks = false) (hP : va_P E.1 vwCl (mw ent' ad n) H) (hS : va_S (AA ad n sz) s.heap H locs) (hdg : decode cc pc = .ok (.return_, 1)) : W p l e R s m args below meth c H locs cells slots (MQ below (va_Qv (fun (_ : Unit) => True) (fun _ t => QB E ent' ad n t) (AA ad n sz)) args s cells slots (AA ad n sz)) (F0 m pc ls []) :=
  W.vret S.1 S.2.1 hr (fun t ht _ => ⟨⟨(), rfl, trivial, by subst ht; exact hP⟩, hS.F ht⟩) hS.2.2 hdg
/-! calls -/
theorem cB {index : Nat} {y : MethodName} {b : ByteArray} {mx fr lo : Nat} {ret : Option FieldType} (k : Nat) (S : CallFix p m c cc nL s args bg_B own) (hcode : Cond.code y b mx ret ∈ bg_B) (hini : Cond.initialized y.cls ∈ bg_B) (hl : Cond.methodLink own index y ∈ bg_B) (hd : y.cls ≠ "java/lang/invoke/MethodHandle" ∧ y.cls ≠ "java/lang/invoke/VarHandle" ∧ (parseMethodDescriptor y.desc).map (fun d => d.parameters.length) = some k) (hR : fr + 1 ≤ R.frames ∧ 8 + (mx + 11) + lo ≤ R.locals) : CallB R s args own index y b mx ret (.code y b mx ret :: bg_B) { frames := fr, cells := 0, slots := 0, locals := lo } 0 0 k :=
  callB_of k S.2.2.2.2 (bg_ok hcode) rfl rfl rfl (S.2.2.2.2 _ hini) (S.2.2.2.2 _ hl) hd hR
theorem cV {index : Nat} {y : MethodName} {C : String} {b : ByteArray} {mx fr lo : Nat} {ret : Option FieldType} (k : Nat) (S : CallFix p m c cc nL s args bg_B own) (hcode : Cond.code y b mx ret ∈ bg_B) (hini : Cond.initialized y.cls ∈ bg_B) (hl : Cond.methodLink own index y ∈ bg_B) (him : Cond.instanceMethod y ∈ bg_B) (hse : Cond.selects C y y ∈ bg_B) (hd : y.cls ≠ "java/lang/invoke/MethodHandle" ∧ y.cls ≠ "java/lang/invoke/VarHandle" ∧ (parseMethodDescriptor y.desc).map (fun d => d.parameters.length) = some k) (hR : fr + 1 ≤ R.frames ∧ 8 + (mx + 11) + lo ≤ R.locals) : CallW R s args own C index y b mx ret (.code y b mx ret :: bg_B) { frames := fr, cells := 0, slots := 0, locals := lo } 0 0 k :=
  ⟨cB k S hcode hini hl hd hR, S.2.2.2.2 _ him, S.2.2.2.2 _ hse⟩
theorem cS {index : Nat} {y : MethodName} {b : ByteArray} {mx fr lo : Nat} {ret : Option FieldType} (k : Nat) (S : CallFix p m c cc nL s args bg_B own) (hcode : Cond.code y b mx ret ∈ bg_B) (hini : Cond.initialized y.cls ∈ bg_B) (hl : Cond.methodLink own index y ∈ bg_B) (hst : Cond.static y ∈ bg_B) (hd : y.cls ≠ "java/lang/invoke/MethodHandle" ∧ y.cls ≠ "java/lang/invoke/VarHandle" ∧ (parseMethodDescriptor y.desc).map (fun d => d.parameters.length) = some k) (hR : fr + 1 ≤ R.frames ∧ 8 + (mx + 11) + lo ≤ R.locals) : CallB R s args own index y b mx ret (.code y b mx ret :: bg_B) { frames := fr, cells := 0, slots := 0, locals := lo } 0 0 k ∧ (Cond.static y).before args s = true :=
  ⟨cB k S hcode hini hl hd hR, S.2.2.2.2 _ hst⟩
theorem cN {index : Nat} {y : MethodName} {host : String} {b : ByteArray} {mx fr lo : Nat} {ret : Option FieldType} (k : Nat) (S : CallFix p m c cc nL s args bg_B own) (hN : NW s) (hcode : Cond.code y b mx ret ∈ bg_B) (hini : Cond.initialized y.cls ∈ bg_B) (hl : Cond.methodLinkNest own index y host ∈ nestL) (hst : Cond.static y ∈ bg_B) (hd : y.cls ≠ "java/lang/invoke/MethodHandle" ∧ y.cls ≠ "java/lang/invoke/VarHandle" ∧ (parseMethodDescriptor y.desc).map (fun d => d.parameters.length) = some k) (hR : fr + 1 ≤ R.frames ∧ 8 + (mx + 11) + lo ≤ R.locals) : va_CN R s args own index y host b mx ret (.code y b mx ret :: bg_B) { frames := fr, cells := 0, slots := 0, locals := lo } 0 0 k ∧ (Cond.static y).before args s = true ∧ True :=
  ⟨va_cnB k S.2.2.2.2 (bg_ok hcode) rfl rfl rfl (hN _ hl) (S.2.2.2.2 _ hini) hd hR, S.2.2.2.2 _ hst, trivial⟩
variable {y : MethodName} {b : ByteArray} {mx fr lo index : Nat} {As : List Value} {host C : String}
theorem y_Vl {r : Int64} {k co ci : Nat} {fs : List Value} {qc : vw_C} (S : CallFix p m c cc nL s args bg_B own) (hK : va_K E.1 vwCl (tysE E) s) (hN : NW s) (hP : va_P E.1 vwCl (mw ent ad n) H) (hS : va_S (AA ad n sz) H0 H locs) (hsz : H0.size = sz) (hco : co < n) (he : ent co = .inr (ci, fs)) (hq : vwCl[ci]? = some qc) (hM : CtL l y b mx fr lo E ent ent' ad n H.size (.ref (ad co) :: As) r) (cw : CallW R s args own qc.1 index y b mx (some .long) (.code y b mx (some .long) :: bg_B) { frames := fr, cells := 0, slots := 0, locals := lo } 0 0 k) (hls : ls.size = nL) (hn : As.length = k) {st : List Value} (hst : st = As.reverse ++ .ref (ad co) :: rest) (hw : (rest.map fun v => v.category).sum ≤ 8) (hdg : decode cc pc = .ok (.invokevirtual index, 3)) (hcs : cells ≤ R.cells ∧ slots ≤ R.slots)
    (kk : ∀ (H1 : Heap) (locs1 : List Loc), va_P E.1 vwCl (mw ent' ad n) H1 → va_S (AA ad n sz) H0 H1 locs1 → W p l e R s m args below meth c H1 locs1 cells slots Q (F0 m (pc + 3) ls (.long r :: rest))) : W p l e R s m args below meth c H locs cells slots Q (F0 m pc ls st) := by
  subst hst
  refine va_calll (va_runV (As := As) (rest := rest) S hM cw ⟨PB_blind, va_recv hK hP hq (mw_at hco he), PB_pre hP hK hN⟩ rfl hn hls rfl (lv_room hw) hdg hcs) hS (fun q _ h => AA_mono (by rw [← hsz]; exact hS.1) h) (fun q h => AA_mono (by rw [← hsz]; exact hS.1) h) (fun r0 u t H1 locs1 ht _ hr hB _ _ hS1 => ?_)
  subst hr
  exact kk H1 locs1 (by subst ht; exact hB) hS1
theorem y_Vi {ty : FieldType} {r : Int32} {k co ci : Nat} {fs : List Value} {qc : vw_C} (S : CallFix p m c cc nL s args bg_B own) (hK : va_K E.1 vwCl (tysE E) s) (hN : NW s) (hP : va_P E.1 vwCl (mw ent ad n) H) (hS : va_S (AA ad n sz) H0 H locs) (hsz : H0.size = sz) (hco : co < n) (he : ent co = .inr (ci, fs)) (hq : vwCl[ci]? = some qc) (hM : CtI l y b mx fr lo ty E ent ent' ad n H.size (.ref (ad co) :: As) r) (cw : CallW R s args own qc.1 index y b mx (some ty) (.code y b mx (some ty) :: bg_B) { frames := fr, cells := 0, slots := 0, locals := lo } 0 0 k) (hls : ls.size = nL) (hn : As.length = k) {st : List Value} (hst : st = As.reverse ++ .ref (ad co) :: rest) (hw : (rest.map fun v => v.category).sum ≤ 8) (hdg : decode cc pc = .ok (.invokevirtual index, 3)) (hcs : cells ≤ R.cells ∧ slots ≤ R.slots)
    (kk : ∀ (H1 : Heap) (locs1 : List Loc), va_P E.1 vwCl (mw ent' ad n) H1 → va_S (AA ad n sz) H0 H1 locs1 → W p l e R s m args below meth c H1 locs1 cells slots Q (F0 m (pc + 3) ls (.int r :: rest))) : W p l e R s m args below meth c H locs cells slots Q (F0 m pc ls st) := by
  subst hst
  refine va_calli (va_runV (As := As) (rest := rest) S hM cw ⟨PB_blind, va_recv hK hP hq (mw_at hco he), PB_pre hP hK hN⟩ rfl hn hls rfl (lv_room hw) hdg hcs) hS (fun q _ h => AA_mono (by rw [← hsz]; exact hS.1) h) (fun q h => AA_mono (by rw [← hsz]; exact hS.1) h) (fun r0 u t H1 locs1 ht _ hr hB _ _ hS1 => ?_)
  subst hr
  exact kk H1 locs1 (by subst ht; exact hB) hS1
theorem y_Vv {k co ci : Nat} {fs : List Value} {qc : vw_C} (S : CallFix p m c cc nL s args bg_B own) (hK : va_K E.1 vwCl (tysE E) s) (hN : NW s) (hP : va_P E.1 vwCl (mw ent ad n) H) (hS : va_S (AA ad n sz) H0 H locs) (hsz : H0.size = sz) (hco : co < n) (he : ent co = .inr (ci, fs)) (hq : vwCl[ci]? = some qc) (hM : CtV l y b mx fr lo E ent ent' ad n H.size (.ref (ad co) :: As)) (cw : CallW R s args own qc.1 index y b mx none (.code y b mx none :: bg_B) { frames := fr, cells := 0, slots := 0, locals := lo } 0 0 k) (hls : ls.size = nL) (hn : As.length = k) {st : List Value} (hst : st = As.reverse ++ .ref (ad co) :: rest) (hw : (rest.map fun v => v.category).sum ≤ 8) (hdg : decode cc pc = .ok (.invokevirtual index, 3)) (hcs : cells ≤ R.cells ∧ slots ≤ R.slots)
    (kk : ∀ (H1 : Heap) (locs1 : List Loc), va_P E.1 vwCl (mw ent' ad n) H1 → va_S (AA ad n sz) H0 H1 locs1 → W p l e R s m args below meth c H1 locs1 cells slots Q (F0 m (pc + 3) ls rest)) : W p l e R s m args below meth c H locs cells slots Q (F0 m pc ls st) := by
  subst hst
  refine va_callv (va_runV (As := As) (rest := rest) S hM cw ⟨PB_blind, va_recv hK hP hq (mw_at hco he), PB_pre hP hK hN⟩ rfl hn hls rfl (lv_room hw) hdg hcs) hS (fun q _ h => AA_mono (by rw [← hsz]; exact hS.1) h) (fun q h => AA_mono (by rw [← hsz]; exact hS.1) h) (fun u t H1 locs1 ht _ hr hB _ _ hS1 => ?_)
  exact kk H1 locs1 (by subst ht; exact hB) hS1
theorem y_Sl {r : Int64} {k : Nat} (S : CallFix p m c cc nL s args bg_B own) (hK : va_K E.1 vwCl (tysE E) s) (hN : NW s) (hP : va_P E.1 vwCl (mw ent ad n) H) (hS : va_S (AA ad n sz) H0 H locs) (hsz : H0.size = sz) (hM : CtL l y b mx fr lo E ent ent' ad n H.size As r) (cw : CallB R s args own index y b mx (some .long) (.code y b mx (some .long) :: bg_B) { frames := fr, cells := 0, slots := 0, locals := lo } 0 0 k ∧ (Cond.static y).before args s = true) (hls : ls.size = nL) (hn : As.length = k) {st : List Value} (hst : st = As.reverse ++ rest) (hw : (rest.map fun v => v.category).sum ≤ 8) (hdg : decode cc pc = .ok (.invokestatic index, 3)) (hcs : cells ≤ R.cells ∧ slots ≤ R.slots)
    (kk : ∀ (H1 : Heap) (locs1 : List Loc), va_P E.1 vwCl (mw ent' ad n) H1 → va_S (AA ad n sz) H0 H1 locs1 → W p l e R s m args below meth c H1 locs1 cells slots Q (F0 m (pc + 3) ls (.long r :: rest))) : W p l e R s m args below meth c H locs cells slots Q (F0 m pc ls st) := by
  subst hst
  refine va_calll (va_runS (As := As) (rest := rest) S hM cw ⟨PB_blind, PB_pre hP hK hN⟩ rfl hn hls rfl (lv_room hw) hdg hcs) hS (fun q _ h => AA_mono (by rw [← hsz]; exact hS.1) h) (fun q h => AA_mono (by rw [← hsz]; exact hS.1) h) (fun r0 u t H1 locs1 ht _ hr hB _ _ hS1 => ?_)
  subst hr
  exact kk H1 locs1 (by subst ht; exact hB) hS1
theorem y_Si {ty : FieldType} {r : Int32} {k : Nat} (S : CallFix p m c cc nL s args bg_B own) (hK : va_K E.1 vwCl (tysE E) s) (hN : NW s) (hP : va_P E.1 vwCl (mw ent ad n) H) (hS : va_S (AA ad n sz) H0 H locs) (hsz : H0.size = sz) (hM : CtI l y b mx fr lo ty E ent ent' ad n H.size As r) (cw : CallB R s args own index y b mx (some ty) (.code y b mx (some ty) :: bg_B) { frames := fr, cells := 0, slots := 0, locals := lo } 0 0 k ∧ (Cond.static y).before args s = true) (hls : ls.size = nL) (hn : As.length = k) {st : List Value} (hst : st = As.reverse ++ rest) (hw : (rest.map fun v => v.category).sum ≤ 8) (hdg : decode cc pc = .ok (.invokestatic index, 3)) (hcs : cells ≤ R.cells ∧ slots ≤ R.slots)
    (kk : ∀ (H1 : Heap) (locs1 : List Loc), va_P E.1 vwCl (mw ent' ad n) H1 → va_S (AA ad n sz) H0 H1 locs1 → W p l e R s m args below meth c H1 locs1 cells slots Q (F0 m (pc + 3) ls (.int r :: rest))) : W p l e R s m args below meth c H locs cells slots Q (F0 m pc ls st) := by
  subst hst
  refine va_calli (va_runS (As := As) (rest := rest) S hM cw ⟨PB_blind, PB_pre hP hK hN⟩ rfl hn hls rfl (lv_room hw) hdg hcs) hS (fun q _ h => AA_mono (by rw [← hsz]; exact hS.1) h) (fun q h => AA_mono (by rw [← hsz]; exact hS.1) h) (fun r0 u t H1 locs1 ht _ hr hB _ _ hS1 => ?_)
  subst hr
  exact kk H1 locs1 (by subst ht; exact hB) hS1
theorem y_Sv {k : Nat} (S : CallFix p m c cc nL s args bg_B own) (hK : va_K E.1 vwCl (tysE E) s) (hN : NW s) (hP : va_P E.1 vwCl (mw ent ad n) H) (hS : va_S (AA ad n sz) H0 H locs) (hsz : H0.size = sz) (hM : CtV l y b mx fr lo E ent ent' ad n H.size As) (cw : CallB R s args own index y b mx none (.code y b mx none :: bg_B) { frames := fr, cells := 0, slots := 0, locals := lo } 0 0 k ∧ (Cond.static y).before args s = true) (hls : ls.size = nL) (hn : As.length = k) {st : List Value} (hst : st = As.reverse ++ rest) (hw : (rest.map fun v => v.category).sum ≤ 8) (hdg : decode cc pc = .ok (.invokestatic index, 3)) (hcs : cells ≤ R.cells ∧ slots ≤ R.slots)
    (kk : ∀ (H1 : Heap) (locs1 : List Loc), va_P E.1 vwCl (mw ent' ad n) H1 → va_S (AA ad n sz) H0 H1 locs1 → W p l e R s m args below meth c H1 locs1 cells slots Q (F0 m (pc + 3) ls rest)) : W p l e R s m args below meth c H locs cells slots Q (F0 m pc ls st) := by
  subst hst
  refine va_callv (va_runS (As := As) (rest := rest) S hM cw ⟨PB_blind, PB_pre hP hK hN⟩ rfl hn hls rfl (lv_room hw) hdg hcs) hS (fun q _ h => AA_mono (by rw [← hsz]; exact hS.1) h) (fun q h => AA_mono (by rw [← hsz]; exact hS.1) h) (fun u t H1 locs1 ht _ hr hB _ _ hS1 => ?_)
  exact kk H1 locs1 (by subst ht; exact hB) hS1
theorem y_Nl {r : Int64} {k : Nat} (S : CallFix p m c cc nL s args bg_B own) (hK : va_K E.1 vwCl (tysE E) s) (hN : NW s) (hP : va_P E.1 vwCl (mw ent ad n) H) (hS : va_S (AA ad n sz) H0 H locs) (hsz : H0.size = sz) (hM : CtL l y b mx fr lo E ent ent' ad n H.size As r) (cw : va_CN R s args own index y host b mx (some .long) (.code y b mx (some .long) :: bg_B) { frames := fr, cells := 0, slots := 0, locals := lo } 0 0 k ∧ (Cond.static y).before args s = true ∧ True) (hls : ls.size = nL) (hn : As.length = k) {st : List Value} (hst : st = As.reverse ++ rest) (hw : (rest.map fun v => v.category).sum ≤ 8) (hdg : decode cc pc = .ok (.invokestatic index, 3)) (hcs : cells ≤ R.cells ∧ slots ≤ R.slots)
    (kk : ∀ (H1 : Heap) (locs1 : List Loc), va_P E.1 vwCl (mw ent' ad n) H1 → va_S (AA ad n sz) H0 H1 locs1 → W p l e R s m args below meth c H1 locs1 cells slots Q (F0 m (pc + 3) ls (.long r :: rest))) : W p l e R s m args below meth c H locs cells slots Q (F0 m pc ls st) := by
  subst hst
  refine va_calll (va_runSN (As := As) (rest := rest) S hM cw ⟨PB_blind, PB_pre hP hK hN⟩ rfl hn hls rfl (lv_room hw) hdg hcs) hS (fun q _ h => AA_mono (by rw [← hsz]; exact hS.1) h) (fun q h => AA_mono (by rw [← hsz]; exact hS.1) h) (fun r0 u t H1 locs1 ht _ hr hB _ _ hS1 => ?_)
  subst hr
  exact kk H1 locs1 (by subst ht; exact hB) hS1
theorem y_Ni {ty : FieldType} {r : Int32} {k : Nat} (S : CallFix p m c cc nL s args bg_B own) (hK : va_K E.1 vwCl (tysE E) s) (hN : NW s) (hP : va_P E.1 vwCl (mw ent ad n) H) (hS : va_S (AA ad n sz) H0 H locs) (hsz : H0.size = sz) (hM : CtI l y b mx fr lo ty E ent ent' ad n H.size As r) (cw : va_CN R s args own index y host b mx (some ty) (.code y b mx (some ty) :: bg_B) { frames := fr, cells := 0, slots := 0, locals := lo } 0 0 k ∧ (Cond.static y).before args s = true ∧ True) (hls : ls.size = nL) (hn : As.length = k) {st : List Value} (hst : st = As.reverse ++ rest) (hw : (rest.map fun v => v.category).sum ≤ 8) (hdg : decode cc pc = .ok (.invokestatic index, 3)) (hcs : cells ≤ R.cells ∧ slots ≤ R.slots)
    (kk : ∀ (H1 : Heap) (locs1 : List Loc), va_P E.1 vwCl (mw ent' ad n) H1 → va_S (AA ad n sz) H0 H1 locs1 → W p l e R s m args below meth c H1 locs1 cells slots Q (F0 m (pc + 3) ls (.int r :: rest))) : W p l e R s m args below meth c H locs cells slots Q (F0 m pc ls st) := by
  subst hst
  refine va_calli (va_runSN (As := As) (rest := rest) S hM cw ⟨PB_blind, PB_pre hP hK hN⟩ rfl hn hls rfl (lv_room hw) hdg hcs) hS (fun q _ h => AA_mono (by rw [← hsz]; exact hS.1) h) (fun q h => AA_mono (by rw [← hsz]; exact hS.1) h) (fun r0 u t H1 locs1 ht _ hr hB _ _ hS1 => ?_)
  subst hr
  exact kk H1 locs1 (by subst ht; exact hB) hS1
end MyRows

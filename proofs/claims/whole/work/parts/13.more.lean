def nz (y : Int64) : Bool := !(decide (y = 0))
theorem nz_ne {y : Int64} (h : nz y = true) : ¬ y = 0 := by
  intro q
  simp [nz, q] at h
theorem pos_ne {y : Int64} (h : 0 < y) : ¬ y = 0 := fun q => by rw [q] at h; exact absurd h (by decide)
theorem nle_ne {y : Int64} (h : ¬ y ≤ 0) : ¬ y = 0 := fun q => by rw [q] at h; exact absurd (by decide) h
def cpI (M : MM) (a b k : Nat) : MM := (fun c' k' => if c' = b ∧ k' < k then M.1 a k' else M.1 c' k', M.2)
def cpL (M : MM) (a b k : Nat) : MM := (M.1, fun c' k' => if c' = b ∧ k' < k then M.2 a k' else M.2 c' k')
section CopyC
variable {E : EE} {ad : Nat → Nat} {n : Nat} {M : MM} {a c : Nat}
theorem gI_cp_ne {k : Nat} {c' : Nat} (h : c' ≠ c) : gI (cpI M a c k) c' = gI M c' := by funext j; simp [gI, cpI, h]
theorem gL_cp_ne {k : Nat} {c' : Nat} (h : c' ≠ c) : gL (cpL M a c k) c' = gL M c' := by funext j; simp [gL, cpL, h]
theorem gL_cpI {k : Nat} : gL (cpI M a c k) = gL M := rfl
theorem gI_cpL {k : Nat} : gI (cpL M a c k) = gI M := rfl
theorem entC_cpI {k : Nat} (c' : Nat) (h : c' ≠ c) : entC E ad n (cpI M a c k) c' = entC E ad n M c' := by
  simp only [entC, fsX0, fsX1, fsX2, fsX3, fsX4, gI_cp_ne h, gL_cpI]
theorem entC_cpL {k : Nat} (c' : Nat) (h : c' ≠ c) : entC E ad n (cpL M a c k) c' = entC E ad n M c' := by
  simp only [entC, fsX0, fsX1, fsX2, fsX3, fsX4, gL_cp_ne h, gI_cpL]
theorem cp_cpyI {k : Nat} : gI (cpI M a c k) c = va_cpy (gI M a) (gI M c) 0 0 k := by
  funext j
  by_cases h : j < k
  · rw [pk_cpy_in (Nat.zero_le _) (by omega)]
    simp [gI, cpI, h]
  · rw [pk_cpy_out (by omega)]
    simp [gI, cpI, h]
theorem cp_cpyL {k : Nat} : gL (cpL M a c k) c = va_cpy (gL M a) (gL M c) 0 0 k := by
  funext j
  by_cases h : j < k
  · rw [pk_cpy_in (Nat.zero_le _) (by omega)]
    simp [gL, cpL, h]
  · rw [pk_cpy_out (by omega)]
    simp [gL, cpL, h]
end CopyC
section MyRows2
variable {p : Program} {l : Launch} {e : Env} {R : Room} {s : State} {m : MethodId} {args : Array Value} {below : List Frame} {meth : Method} {c : Code} {H : Heap} {locs : List Loc} {cells slots : Nat} {Q : State → Prop}
variable {cc : ByteArray} {pc : Nat} {ls : Array Slot} {rest : List Value} {nL : Nat} {own : String} {E : EE} {ent ent' : Nat → va_E} {ad : Nat → Nat} {n sz : Nat} {H0 : Heap}
theorem x_laldc (S : CallFix p m c cc nL s args bg_B own) (hK : va_K E.1 vwCl (tysE E) s) (hP : va_P E.1 vwCl (mw ent ad n) H) (co : Nat) (hco : co < n) {k : Nat} {f : Nat → Int64} (he : ent co = .inl (E.2 1, k, .inr (.inl f))) {i : Int32} {j : Nat} (hi : ib i k = true) (hj : ix i = j) (hdg : decode cc pc = .ok (.laload, 1))
    (kk : W p l e R s m args below meth c H locs cells slots Q (F0 m (pc + 1) ls (.long (f j) :: rest))) : W p l e R s m args below meth c H locs cells slots Q (F0 m pc ls (.int i :: .ref (ad co) :: rest)) := by
  subst hj
  exact x_lald S hK hP co hco he hi hdg kk
theorem x_ialdc (S : CallFix p m c cc nL s args bg_B own) (hK : va_K E.1 vwCl (tysE E) s) (hP : va_P E.1 vwCl (mw ent ad n) H) (co : Nat) (hco : co < n) {k : Nat} {f : Nat → Int32} (he : ent co = .inl (E.2 0, k, .inl f)) {i : Int32} {j : Nat} (hi : ib i k = true) (hj : ix i = j) (hdg : decode cc pc = .ok (.iaload, 1))
    (kk : W p l e R s m args below meth c H locs cells slots Q (F0 m (pc + 1) ls (.int (f j) :: rest))) : W p l e R s m args below meth c H locs cells slots Q (F0 m pc ls (.int i :: .ref (ad co) :: rest)) := by
  subst hj
  exact x_iald S hK hP co hco he hi hdg kk
theorem x_lastc (S : CallFix p m c cc nL s args bg_B own) (hI : ad_I ad n) (hK : va_K E.1 vwCl (tysE E) s) (hP : va_P E.1 vwCl (mw ent ad n) H) (hS : va_S (AA ad n sz) H0 H locs) (co : Nat) (hco : co < n) {k : Nat} {f : Nat → Int64} (he : ent co = .inl (E.2 1, k, .inr (.inl f))) {i : Int32} {x : Int64} {j : Nat} (hi : ib i k = true) (hj : ix i = j) (ent' : Nat → va_E) (h1 : ent' co = .inl (E.2 1, k, .inr (.inl (vp_updL f j x)))) (h2 : ∀ c', c' ≠ co → ent' c' = ent c') (hdg : decode cc pc = .ok (.lastore, 1))
    (kk : ∀ (H1 : Heap) (locs1 : List Loc), va_P E.1 vwCl (mw ent' ad n) H1 → va_S (AA ad n sz) H0 H1 locs1 → W p l e R s m args below meth c H1 locs1 cells slots Q (F0 m (pc + 1) ls rest)) : W p l e R s m args below meth c H locs cells slots Q (F0 m pc ls (.long x :: .int i :: .ref (ad co) :: rest)) := by
  subst hj
  exact x_last S hI hK hP hS co hco he hi ent' h1 h2 hdg kk
theorem x_cpL (S : CallFix p m c cc nL s args bg_B own) (hI : ad_I ad n) (hK : va_K E.1 vwCl (tysE E) s) {M : MM} (hP : va_P E.1 vwCl (mw (entC E ad n M) ad n) H) (hS : va_S (AA ad n sz) H0 H locs) (a b : Nat) (pa : ok 8 n a) (pb : ok 8 n b) {index : Nat} (hlink : Cond.methodLink own index arraycopyName ∈ bg_B) (hls : ls.size = nL) (hframes : 1 ≤ R.frames) (hlocals : (rest.map fun v => v.category).sum + (nativeFrameWords "java/lang/System" "arraycopy" 5 + 11) ≤ R.locals) (hdg : decode cc pc = .ok (.invokestatic index, 3))
    (kk : ∀ (H1 : Heap) (locs1 : List Loc), va_P E.1 vwCl (mw (entC E ad n (cpL M a b 60)) ad n) H1 → va_S (AA ad n sz) H0 H1 locs1 → W p l e R s m args below meth c H1 locs1 cells slots Q (F0 m (pc + 3) ls rest)) : W p l e R s m args below meth c H locs cells slots Q (F0 m pc ls (.int 60 :: .int 0 :: .ref (ad b) :: .int 0 :: .ref (ad a) :: rest)) := by
  refine va_copyl S.1 S.2.1 (S.2.2.1.trans hls.symm) S.2.2.2.1 (S.2.2.2.2 _ hlink) (S.2.2.2.2 _ w_na_arraycopyName) (S.2.2.2.2 _ w_st_arraycopyName) (S.2.2.2.2 _ w_in_J10) hK hP (mw_D hI) hS a b 1 1 (mw_at (ok_lt pa) (e8 pa.1)) (mw_at (ok_lt pb) (e8 pb.1)) rfl rfl rfl (by decide) (by decide) (by decide) (by decide) (by decide) (fun _ _ => rfl) hframes hlocals hdg (fun H1 locs1 hP1 _ hS1 => kk H1 locs1 ?_ hS1)
  rw [mw_set (ent' := entC E ad n (cpL M a b 60)) (by rw [e8 pb.1, cp_cpyL]; rfl) (fun c' h => entC_cpL c' h)] at hP1
  exact hP1
theorem x_cpI (S : CallFix p m c cc nL s args bg_B own) (hI : ad_I ad n) (hK : va_K E.1 vwCl (tysE E) s) {M : MM} (hP : va_P E.1 vwCl (mw (entC E ad n M) ad n) H) (hS : va_S (AA ad n sz) H0 H locs) (a b : Nat) (pa : ok 7 n a) (pb : ok 7 n b) {index : Nat} (hlink : Cond.methodLink own index arraycopyName ∈ bg_B) (hls : ls.size = nL) (hframes : 1 ≤ R.frames) (hlocals : (rest.map fun v => v.category).sum + (nativeFrameWords "java/lang/System" "arraycopy" 5 + 11) ≤ R.locals) (hdg : decode cc pc = .ok (.invokestatic index, 3))
    (kk : ∀ (H1 : Heap) (locs1 : List Loc), va_P E.1 vwCl (mw (entC E ad n (cpI M a b 111)) ad n) H1 → va_S (AA ad n sz) H0 H1 locs1 → W p l e R s m args below meth c H1 locs1 cells slots Q (F0 m (pc + 3) ls rest)) : W p l e R s m args below meth c H locs cells slots Q (F0 m pc ls (.int 111 :: .int 0 :: .ref (ad b) :: .int 0 :: .ref (ad a) :: rest)) := by
  refine va_copyi S.1 S.2.1 (S.2.2.1.trans hls.symm) S.2.2.2.1 (S.2.2.2.2 _ hlink) (S.2.2.2.2 _ w_na_arraycopyName) (S.2.2.2.2 _ w_st_arraycopyName) (S.2.2.2.2 _ w_in_J10) hK hP (mw_D hI) hS a b 0 0 (mw_at (ok_lt pa) (e7 pa.1)) (mw_at (ok_lt pb) (e7 pb.1)) rfl rfl rfl (by decide) (by decide) (by decide) (by decide) (by decide) (fun _ _ => rfl) hframes hlocals hdg (fun H1 locs1 hP1 _ hS1 => kk H1 locs1 ?_ hS1)
  rw [mw_set (ent' := entC E ad n (cpI M a b 111)) (by rw [e7 pb.1, cp_cpyI]; rfl) (fun c' h => entC_cpI c' h)] at hP1
  exact hP1
end MyRows2
def mxI (x y : Int32) : Int32 := if x < y then y else x
def mxL (x y : Int64) : Int64 := if y < x then x else y
def mnL (x y : Int64) : Int64 := if y < x then y else x
theorem w_mx : Cond.code Lib.Math.max.name Lib.Math.max.code 2 (some .int) ∈ bg_B := bg_c2 126 rfl rfl
theorem w_mxL : Cond.code Lib.MathLoose.max_long.x Lib.MathLoose.max_long.code 4 (some .long) ∈ bg_B := bg_c3 71 rfl rfl
theorem w_mnL : Cond.code Lib.MathLoose.min_long.x Lib.MathLoose.min_long.code 4 (some .long) ∈ bg_B := bg_c2 239 rfl rfl
section MyRows3
variable {p : Program} {l : Launch} {e : Env} {R : Room} {s : State} {m : MethodId} {args : Array Value} {below : List Frame} {meth : Method} {c : Code} {H : Heap} {locs : List Loc} {cells slots : Nat} {Q : State → Prop}
variable {cc : ByteArray} {pc : Nat} {ls : Array Slot} {rest : List Value} {nL : Nat} {own : String}
theorem x_mx (S : CallFix p m c cc nL s args bg_B own) (hls : ls.size = nL) {index : Nat} (hlink : Cond.methodLink own index yJ9_max_7cf53 ∈ bg_B) (hframes : 1 ≤ R.frames) (hlocals : (rest.map fun v => v.category).sum + 13 ≤ R.locals) (hc : cells ≤ R.cells) (hs : slots ≤ R.slots) {x y : Int32} (hdg : decode cc pc = .ok (.invokestatic index, 3)) (kk : W p l e R s m args below meth c H locs cells slots Q (F0 m (pc + 3) ls (.int (mxI x y) :: rest))) : W p l e R s m args below meth c H locs cells slots Q (F0 m pc ls (.int y :: .int x :: rest)) :=
  va_mmax S.1 S.2.1 (S.2.2.1.trans hls.symm) S.2.2.2.1 (S.2.2.2.2 _ hlink) (S.2.2.2.2 _ w_st_yJ9_max_7cf53) (S.2.2.2.2 _ w_in_J9) (S.2.2.2.2 _ w_mx) hframes hlocals hc hs hdg kk
theorem x_mxL (S : CallFix p m c cc nL s args bg_B own) (hls : ls.size = nL) {index : Nat} (hlink : Cond.methodLink own index yJ9_max_f86c9 ∈ bg_B) (hframes : 1 ≤ R.frames) (hlocals : (rest.map fun v => v.category).sum + 15 ≤ R.locals) (hc : cells ≤ R.cells) (hs : slots ≤ R.slots) {x y : Int64} (hdg : decode cc pc = .ok (.invokestatic index, 3)) (kk : W p l e R s m args below meth c H locs cells slots Q (F0 m (pc + 3) ls (.long (mxL x y) :: rest))) : W p l e R s m args below meth c H locs cells slots Q (F0 m pc ls (.long y :: .long x :: rest)) :=
  va_mmax_long S.1 S.2.1 (S.2.2.1.trans hls.symm) S.2.2.2.1 (S.2.2.2.2 _ hlink) (S.2.2.2.2 _ w_st_yJ9_max_f86c9) (S.2.2.2.2 _ w_in_J9) (S.2.2.2.2 _ w_mxL) hframes hlocals hc hs hdg kk
theorem x_mnL (S : CallFix p m c cc nL s args bg_B own) (hls : ls.size = nL) {index : Nat} (hlink : Cond.methodLink own index yJ9_min_f86c9 ∈ bg_B) (hframes : 1 ≤ R.frames) (hlocals : (rest.map fun v => v.category).sum + 15 ≤ R.locals) (hc : cells ≤ R.cells) (hs : slots ≤ R.slots) {x y : Int64} (hdg : decode cc pc = .ok (.invokestatic index, 3)) (kk : W p l e R s m args below meth c H locs cells slots Q (F0 m (pc + 3) ls (.long (mnL x y) :: rest))) : W p l e R s m args below meth c H locs cells slots Q (F0 m pc ls (.long y :: .long x :: rest)) :=
  va_mmin_long S.1 S.2.1 (S.2.2.1.trans hls.symm) S.2.2.2.1 (S.2.2.2.2 _ hlink) (S.2.2.2.2 _ w_st_yJ9_min_f86c9) (S.2.2.2.2 _ w_in_J9) (S.2.2.2.2 _ w_mnL) hframes hlocals hc hs hdg kk
end MyRows3

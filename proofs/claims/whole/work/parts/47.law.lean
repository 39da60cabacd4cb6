def cf (n : Nat) : Nat := if n ≤ 117 then 124 else 240
def sf (n : Nat) : Nat := if n ≤ 117 then 14885 else 18324
theorem cf_le (n : Nat) : cf n ≤ 240 := by unfold cf; split <;> omega
theorem sf_le (n : Nat) : sf n ≤ 18324 := by unfold sf; split <;> omega
def LI (E : EE) (s : State) (n : Nat) (A B : MM) (ad am : Nat → Nat) (H : Heap) (locs : List Loc) : Prop := ad_I ad n ∧ ad_I am 7 ∧ (∀ c, c < n → s.heap.size ≤ ad c) ∧ (∀ c, c < 7 → s.heap.size ≤ am c) ∧ (∀ c c', c < n → c' < 7 → ad c ≠ am c') ∧ va_P E.1 vwCl (mw (entC E ad n A) ad n) H ∧ va_P E.1 vwCl (mw (entM E am B) am 7) H ∧ va_S (fun q : Nat => s.heap.size ≤ q) s.heap H locs
/-- the law's own standing facts -/
def LC (E : EE) (p : Program) (s : State) (m : MethodId) (c : Code) (b L : Nat) (xs : Nat → Int32) : Prop := CallFix p m c cL_law 4 s #[Value.ref b] bg_B "SurvivorPurseLaw" ∧ va_K E.1 vwCl (tysE E) s ∧ NW s ∧ AO3 s ∧ va_X b L xs s s.heap ∧ b < s.heap.size ∧ L ≤ 3584
section LawRows
variable {p : Program} {l : Launch} {e : Env} {s : State} {m : MethodId} {below : List Frame} {meth : Method} {c : Code} {H : Heap} {locs : List Loc} {cells slots : Nat} {Q : State → Prop} {E : EE} {b L : Nat} {xs : Nat → Int32}
variable {pc : Nat} {ls : Array Slot} {rest : List Value}
theorem z_argc {k q1 q2 : Nat} (C : LC E p s m c b L xs) (hS : va_S (fun q : Nat => s.heap.size ≤ q) s.heap H locs) (hl : lv_has ls 4 [(0, .ref b), (1, .ref q1), (2, .ref q2), (3, .int (nI (7 * k)))]) (j : Nat) (hj : 7 * k + j < L) {jz : Int} {w : Int32} (hw : nI j = w) (hjz : Int32.ofInt jz = w) (d0 : decode cL_law pc = .ok (.aload_n 0, 1)) (d1 : decode cL_law (pc + 1) = .ok (.iload_n 3, 1)) (d2 : decode cL_law (pc + 2) = .ok (.iconst jz, 1)) (d3 : decode cL_law (pc + 3) = .ok (.iadd, 1)) (d4 : decode cL_law (pc + 4) = .ok (.iaload, 1)) (kk : W p l e room_1 s m #[Value.ref b] below meth c H locs cells slots Q (F0 m (pc + 5) ls (.int (xs (7 * k + j)) :: rest))) : W p l e room_1 s m #[Value.ref b] below meth c H locs cells slots Q (F0 m pc ls rest) := by
  obtain ⟨S, hK, hN, hO, hX, hbl, hL⟩ := C
  have hbA : ¬ (fun q : Nat => s.heap.size ≤ q) b := Nat.not_le.mpr hbl
  subst hw
  refine lv_aload_n S.1 S.2.1 d0 rfl (lv_at hl 0 rfl) ?_
  refine lv_iload_n S.1 S.2.1 d1 rfl (lv_at hl 3 rfl) ?_
  refine lv_iconst (v := nI j) S.1 S.2.1 d2 hjz ?_
  refine lv_iadd S.1 S.2.1 d3 ?_
  refine lv_rei (x := nI (7 * k + j)) (nI_add _ _).symm ?_
  refine va_sld S.1 S.2.1 hX hbl hbA hS (vp_in_nI hj (by omega)) d4 ?_
  rw [nI_clamp (by omega)]
  exact kk
theorem z_argb {k q1 q2 : Nat} (C : LC E p s m c b L xs) (hS : va_S (fun q : Nat => s.heap.size ≤ q) s.heap H locs) (hl : lv_has ls 4 [(0, .ref b), (1, .ref q1), (2, .ref q2), (3, .int (nI (7 * k)))]) (j : Nat) (hj : 7 * k + j < L) {jz : Int} {w : Int32} (hw : nI j = w) (hjz : (Int8.ofInt jz).toInt32 = w) (d0 : decode cL_law pc = .ok (.aload_n 0, 1)) (d1 : decode cL_law (pc + 1) = .ok (.iload_n 3, 1)) (d2 : decode cL_law (pc + 2) = .ok (.bipush jz, 2)) (d3 : decode cL_law (pc + 4) = .ok (.iadd, 1)) (d4 : decode cL_law (pc + 5) = .ok (.iaload, 1)) (kk : W p l e room_1 s m #[Value.ref b] below meth c H locs cells slots Q (F0 m (pc + 6) ls (.int (xs (7 * k + j)) :: rest))) : W p l e room_1 s m #[Value.ref b] below meth c H locs cells slots Q (F0 m pc ls rest) := by
  obtain ⟨S, hK, hN, hO, hX, hbl, hL⟩ := C
  have hbA : ¬ (fun q : Nat => s.heap.size ≤ q) b := Nat.not_le.mpr hbl
  subst hw
  refine lv_aload_n S.1 S.2.1 d0 rfl (lv_at hl 0 rfl) ?_
  refine lv_iload_n S.1 S.2.1 d1 rfl (lv_at hl 3 rfl) ?_
  refine lv_bipush (v := nI j) S.1 S.2.1 d2 hjz ?_
  refine lv_iadd S.1 S.2.1 d3 ?_
  refine lv_rei (x := nI (7 * k + j)) (nI_add _ _).symm ?_
  refine va_sld S.1 S.2.1 hX hbl hbA hS (vp_in_nI hj (by omega)) d4 ?_
  rw [nI_clamp (by omega)]
  exact kk
/-- a call on one world, the other one stays -/
theorem z_call {nx no : Nat} {ax ao : Nat → Nat} {ex ex' eo : Nat → va_E} {y : MethodName} {bb : ByteArray} {mx fr lo index k ci : Nat} {r : Int64} {As fs : List Value} {qc : vw_C} (C : LC E p s m c b L xs) (hPx : va_P E.1 vwCl (mw ex ax nx) H) (hPo : va_P E.1 vwCl (mw eo ao no) H) (hx : ∀ c, c < nx → s.heap.size ≤ ax c) (hd : ∀ c c', c < nx → c' < no → ax c ≠ ao c') (hS : va_S (fun q : Nat => s.heap.size ≤ q) s.heap H locs) (h0 : 0 < nx) (he : ex 0 = .inr (ci, fs)) (hq : vwCl[ci]? = some qc) (hM : CtL l y bb mx fr lo E ex ex' ax nx H.size (.ref (ax 0) :: As) r) (cw : CallW room_1 s #[Value.ref b] "SurvivorPurseLaw" qc.1 index y bb mx (some .long) (.code y bb mx (some .long) :: bg_B) { frames := fr, cells := 0, slots := 0, locals := lo } 0 0 k) (hls : ls.size = 4) (hn : As.length = k) {st : List Value} (hst : st = As.reverse ++ .ref (ax 0) :: rest) (hw : (rest.map fun v => v.category).sum ≤ 8) (hdg : decode cL_law pc = .ok (.invokevirtual index, 3)) (hcs : cells ≤ room_1.cells ∧ slots ≤ room_1.slots)
    (kk : ∀ (H1 : Heap) (locs1 : List Loc), va_P E.1 vwCl (mw ex' ax nx) H1 → va_P E.1 vwCl (mw eo ao no) H1 → va_S (fun q : Nat => s.heap.size ≤ q) s.heap H1 locs1 → W p l e room_1 s m #[Value.ref b] below meth c H1 locs1 cells slots Q (F0 m (pc + 3) ls (.long r :: rest))) : W p l e room_1 s m #[Value.ref b] below meth c H locs cells slots Q (F0 m pc ls st) := by
  obtain ⟨S, hK, hN, hO, hX, hbl, hL⟩ := C
  subst hst
  have hAA : ∀ q, AA ax nx H.size q → s.heap.size ≤ q := by
    rintro q (⟨c, hc, rfl⟩ | h)
    · exact hx c hc
    · exact Nat.le_trans hS.1 h
  refine va_calll (va_runV (As := As) (rest := rest) S hM cw ⟨PB_blind, va_recv hK hPx hq (mw_at h0 he), PB_pre hPx hK hN⟩ rfl hn hls rfl (lv_room hw) hdg hcs) hS (fun q _ h => hAA q h) hAA (fun r0 u t H1 locs1 ht _ hr hB _ hk1 hS1 => ?_)
  subst hr
  refine kk H1 locs1 (by subst ht; exact hB) (hPo.kept (fun j q hj => ?_)) hS1
  obtain ⟨hj1, rfl⟩ := mw_get hj
  refine hk1 (ao j) (hPo j _ hj).lt ?_
  rintro (⟨c, hc, h⟩ | h)
  · exact hd c j hc hj1 h.symm
  · exact absurd (hPo j _ hj).lt (by show ¬ ao j < H.size; omega)
end LawRows
set_option maxHeartbeats 4000000 in
set_option maxRecDepth 100000 in
theorem lc_living {p : Program} (l : Launch) {e : Env} {s : State} {m : MethodId} {below : List Frame} {meth : Method} {c : Code} {E : EE} {b L : Nat} {xs : Nat → Int32} {Rel : Nat → Nat → MM → MM → Prop} {N k n : Nat} {A B : MM} {ad am : Nat → Nat} {H : Heap} {locs : List Loc} {ls : Array Slot} {Q : State → Prop} (C : LC E p s m c b L xs) (hi : 7 * k + 7 ≤ L) (hk : k < 512) (hn : n = 117 ∨ n = 233) (I : LI E s n A B ad am H locs) (hR : Rel k n A B) (HS : Sim_living N Rel) (hl : lv_has ls 4 [(0, .ref b), (1, .ref (ad 0)), (2, .ref (am 0)), (3, .int (nI (7 * k)))]) (kk : ∀ (n' : Nat) (A' B' : MM) (ad' : Nat → Nat) (H : Heap) (locs : List Loc), LI E s n' A' B' ad' am H locs → Rel (k + 1) n' A' B' → ad' 0 = ad 0 → W p l e room_1 s m #[Value.ref b] below meth c H locs (cf n') (sf n') Q (F0 m 856 ls [])) : W p l e room_1 s m #[Value.ref b] below meth c H locs (cf n) (sf n) Q (F0 m 136 ls []) := by
  obtain ⟨hI, hIm, ha, hm, hd, hPc, hPm, hS⟩ := I
  have hn7 : 117 ≤ n := by omega
  obtain ⟨r, A', B', h1, h2, hR2⟩ := HS k n A B hk hR (xs (7 * k + 1)) (xs (7 * k + 2))
  refine lv_aload_n C.1.1 C.1.2.1 dL_law_136 rfl (lv_at hl 1 rfl) ?_
  refine z_argc C hS hl 1 (by omega) rfl (by decide) dL_law_137 dL_law_138 dL_law_139 dL_law_140 dL_law_141 ?_
  refine z_argc C hS hl 2 (by omega) rfl (by decide) dL_law_142 dL_law_143 dL_law_144 dL_law_145 dL_law_146 ?_
  refine z_call (As := [.int (xs (7 * k + 1)), .int (xs (7 * k + 2))]) C hPc hPm ha hd hS (by omega) (e5 rfl) rfl (K_X5_living l E ad n hI hn7 _ N (xs (7 * k + 1)) (xs (7 * k + 2)) A r A' h1) (cV 2 C.1 w_co_yX5_living w_in_X5 w_ml_L_13 w_im_yX5_living w_se_yX5_living hd_X5_living ⟨Nat.le_of_ble_eq_true rfl, Nat.le_of_ble_eq_true rfl⟩) hl.1 rfl rfl (Nat.le_of_ble_eq_true rfl) dL_law_147 ⟨Nat.le_trans (cf_le n) (by decide), Nat.le_trans (sf_le n) (by decide)⟩ (fun H locs hPc hPm hS => ?_)
  refine lv_aload_n C.1.1 C.1.2.1 dL_law_150 rfl (lv_at hl 2 rfl) ?_
  refine z_argc C hS hl 1 (by omega) rfl (by decide) dL_law_151 dL_law_152 dL_law_153 dL_law_154 dL_law_155 ?_
  refine z_argc C hS hl 2 (by omega) rfl (by decide) dL_law_156 dL_law_157 dL_law_158 dL_law_159 dL_law_160 ?_
  refine z_call (As := [.int (xs (7 * k + 1)), .int (xs (7 * k + 2))]) C hPm hPc hm (fun c1 c2 q1 q2 q3 => hd c2 c1 q2 q1 q3.symm) hS (by omega) m0 rfl (K_X6_living l E am hIm _ N (xs (7 * k + 1)) (xs (7 * k + 2)) B r B' h2) (cV 2 C.1 w_co_yX6_living w_in_X6 w_ml_L_17 w_im_yX6_living w_se_yX6_living hd_X6_living ⟨Nat.le_of_ble_eq_true rfl, Nat.le_of_ble_eq_true rfl⟩) hl.1 rfl rfl (Nat.le_of_ble_eq_true rfl) dL_law_161 ⟨Nat.le_trans (cf_le n) (by decide), Nat.le_trans (sf_le n) (by decide)⟩ (fun H locs hPm hPc hS => ?_)
  refine ll_eq (tgt := 856) C.1 dL_law_164 dL_law_165 (by decide) (fun _ => ?_) (fun q9 => absurd rfl q9)
  exact kk n A' B' ad H locs ⟨hI, hIm, ha, hm, hd, hPc, hPm, hS⟩ hR2 rfl
set_option maxHeartbeats 4000000 in
set_option maxRecDepth 100000 in
theorem lc_foretell {p : Program} (l : Launch) {e : Env} {s : State} {m : MethodId} {below : List Frame} {meth : Method} {c : Code} {E : EE} {b L : Nat} {xs : Nat → Int32} {Rel : Nat → Nat → MM → MM → Prop} {N k n : Nat} {A B : MM} {ad am : Nat → Nat} {H : Heap} {locs : List Loc} {ls : Array Slot} {Q : State → Prop} (C : LC E p s m c b L xs) (hi : 7 * k + 7 ≤ L) (hk : k < 512) (hn : n = 117 ∨ n = 233) (I : LI E s n A B ad am H locs) (hR : Rel k n A B) (HS : Sim_foretell N Rel) (hl : lv_has ls 4 [(0, .ref b), (1, .ref (ad 0)), (2, .ref (am 0)), (3, .int (nI (7 * k)))]) (kk : ∀ (n' : Nat) (A' B' : MM) (ad' : Nat → Nat) (H : Heap) (locs : List Loc), LI E s n' A' B' ad' am H locs → Rel (k + 1) n' A' B' → ad' 0 = ad 0 → W p l e room_1 s m #[Value.ref b] below meth c H locs (cf n') (sf n') Q (F0 m 856 ls [])) : W p l e room_1 s m #[Value.ref b] below meth c H locs (cf n) (sf n) Q (F0 m 170 ls []) := by
  obtain ⟨hI, hIm, ha, hm, hd, hPc, hPm, hS⟩ := I
  have hn7 : 117 ≤ n := by omega
  obtain ⟨r, h1, h2, hR2⟩ := HS k n A B hk hR (xs (7 * k + 1)) (xs (7 * k + 2))
  refine lv_aload_n C.1.1 C.1.2.1 dL_law_170 rfl (lv_at hl 1 rfl) ?_
  refine z_argc C hS hl 1 (by omega) rfl (by decide) dL_law_171 dL_law_172 dL_law_173 dL_law_174 dL_law_175 ?_
  refine z_argc C hS hl 2 (by omega) rfl (by decide) dL_law_176 dL_law_177 dL_law_178 dL_law_179 dL_law_180 ?_
  refine z_call (As := [.int (xs (7 * k + 1)), .int (xs (7 * k + 2))]) C hPc hPm ha hd hS (by omega) (e5 rfl) rfl (K_X5_foretell l E ad n hI hn7 _ N (xs (7 * k + 1)) (xs (7 * k + 2)) A r h1) (cV 2 C.1 w_co_yX5_foretell w_in_X5 w_ml_L_18 w_im_yX5_foretell w_se_yX5_foretell hd_X5_foretell ⟨Nat.le_of_ble_eq_true rfl, Nat.le_of_ble_eq_true rfl⟩) hl.1 rfl rfl (Nat.le_of_ble_eq_true rfl) dL_law_181 ⟨Nat.le_trans (cf_le n) (by decide), Nat.le_trans (sf_le n) (by decide)⟩ (fun H locs hPc hPm hS => ?_)
  refine lv_aload_n C.1.1 C.1.2.1 dL_law_184 rfl (lv_at hl 2 rfl) ?_
  refine z_argc C hS hl 1 (by omega) rfl (by decide) dL_law_185 dL_law_186 dL_law_187 dL_law_188 dL_law_189 ?_
  refine z_argc C hS hl 2 (by omega) rfl (by decide) dL_law_190 dL_law_191 dL_law_192 dL_law_193 dL_law_194 ?_
  refine z_call (As := [.int (xs (7 * k + 1)), .int (xs (7 * k + 2))]) C hPm hPc hm (fun c1 c2 q1 q2 q3 => hd c2 c1 q2 q1 q3.symm) hS (by omega) m0 rfl (K_X6_foretell l E am hIm _ N (xs (7 * k + 1)) (xs (7 * k + 2)) B r h2) (cV 2 C.1 w_co_yX6_foretell w_in_X6 w_ml_L_21 w_im_yX6_foretell w_se_yX6_foretell hd_X6_foretell ⟨Nat.le_of_ble_eq_true rfl, Nat.le_of_ble_eq_true rfl⟩) hl.1 rfl rfl (Nat.le_of_ble_eq_true rfl) dL_law_195 ⟨Nat.le_trans (cf_le n) (by decide), Nat.le_trans (sf_le n) (by decide)⟩ (fun H locs hPm hPc hS => ?_)
  refine ll_eq (tgt := 856) C.1 dL_law_198 dL_law_199 (by decide) (fun _ => ?_) (fun q9 => absurd rfl q9)
  exact kk n A B ad H locs ⟨hI, hIm, ha, hm, hd, hPc, hPm, hS⟩ hR2 rfl
set_option maxHeartbeats 4000000 in
set_option maxRecDepth 100000 in
theorem lc_mean {p : Program} (l : Launch) {e : Env} {s : State} {m : MethodId} {below : List Frame} {meth : Method} {c : Code} {E : EE} {b L : Nat} {xs : Nat → Int32} {Rel : Nat → Nat → MM → MM → Prop} {N k n : Nat} {A B : MM} {ad am : Nat → Nat} {H : Heap} {locs : List Loc} {ls : Array Slot} {Q : State → Prop} (C : LC E p s m c b L xs) (hi : 7 * k + 7 ≤ L) (hk : k < 512) (hn : n = 117 ∨ n = 233) (I : LI E s n A B ad am H locs) (hR : Rel k n A B) (HS : Sim_mean N Rel) (hl : lv_has ls 4 [(0, .ref b), (1, .ref (ad 0)), (2, .ref (am 0)), (3, .int (nI (7 * k)))]) (kk : ∀ (n' : Nat) (A' B' : MM) (ad' : Nat → Nat) (H : Heap) (locs : List Loc), LI E s n' A' B' ad' am H locs → Rel (k + 1) n' A' B' → ad' 0 = ad 0 → W p l e room_1 s m #[Value.ref b] below meth c H locs (cf n') (sf n') Q (F0 m 856 ls [])) : W p l e room_1 s m #[Value.ref b] below meth c H locs (cf n) (sf n) Q (F0 m 204 ls []) := by
  obtain ⟨hI, hIm, ha, hm, hd, hPc, hPm, hS⟩ := I
  have hn7 : 117 ≤ n := by omega
  obtain ⟨r, h1, h2, hR2⟩ := HS k n A B hk hR (xs (7 * k + 1))
  refine lv_aload_n C.1.1 C.1.2.1 dL_law_204 rfl (lv_at hl 1 rfl) ?_
  refine z_argc C hS hl 1 (by omega) rfl (by decide) dL_law_205 dL_law_206 dL_law_207 dL_law_208 dL_law_209 ?_
  refine z_call (As := [.int (xs (7 * k + 1))]) C hPc hPm ha hd hS (by omega) (e5 rfl) rfl (K_X5_mean l E ad n hI hn7 _ N (xs (7 * k + 1)) A r h1) (cV 1 C.1 w_co_yX5_mean w_in_X5 w_ml_L_22 w_im_yX5_mean w_se_yX5_mean hd_X5_mean ⟨Nat.le_of_ble_eq_true rfl, Nat.le_of_ble_eq_true rfl⟩) hl.1 rfl rfl (Nat.le_of_ble_eq_true rfl) dL_law_210 ⟨Nat.le_trans (cf_le n) (by decide), Nat.le_trans (sf_le n) (by decide)⟩ (fun H locs hPc hPm hS => ?_)
  refine lv_aload_n C.1.1 C.1.2.1 dL_law_213 rfl (lv_at hl 2 rfl) ?_
  refine z_argc C hS hl 1 (by omega) rfl (by decide) dL_law_214 dL_law_215 dL_law_216 dL_law_217 dL_law_218 ?_
  refine z_call (As := [.int (xs (7 * k + 1))]) C hPm hPc hm (fun c1 c2 q1 q2 q3 => hd c2 c1 q2 q1 q3.symm) hS (by omega) m0 rfl (K_X6_mean l E am hIm _ N (xs (7 * k + 1)) B r h2) (cV 1 C.1 w_co_yX6_mean w_in_X6 w_ml_L_26 w_im_yX6_mean w_se_yX6_mean hd_X6_mean ⟨Nat.le_of_ble_eq_true rfl, Nat.le_of_ble_eq_true rfl⟩) hl.1 rfl rfl (Nat.le_of_ble_eq_true rfl) dL_law_219 ⟨Nat.le_trans (cf_le n) (by decide), Nat.le_trans (sf_le n) (by decide)⟩ (fun H locs hPm hPc hS => ?_)
  refine ll_eq (tgt := 856) C.1 dL_law_222 dL_law_223 (by decide) (fun _ => ?_) (fun q9 => absurd rfl q9)
  exact kk n A B ad H locs ⟨hI, hIm, ha, hm, hd, hPc, hPm, hS⟩ hR2 rfl
set_option maxHeartbeats 4000000 in
set_option maxRecDepth 100000 in
theorem lc_dearer {p : Program} (l : Launch) {e : Env} {s : State} {m : MethodId} {below : List Frame} {meth : Method} {c : Code} {E : EE} {b L : Nat} {xs : Nat → Int32} {Rel : Nat → Nat → MM → MM → Prop} {N k n : Nat} {A B : MM} {ad am : Nat → Nat} {H : Heap} {locs : List Loc} {ls : Array Slot} {Q : State → Prop} (C : LC E p s m c b L xs) (hi : 7 * k + 7 ≤ L) (hk : k < 512) (hn : n = 117 ∨ n = 233) (I : LI E s n A B ad am H locs) (hR : Rel k n A B) (HS : Sim_dearer N Rel) (hl : lv_has ls 4 [(0, .ref b), (1, .ref (ad 0)), (2, .ref (am 0)), (3, .int (nI (7 * k)))]) (kk : ∀ (n' : Nat) (A' B' : MM) (ad' : Nat → Nat) (H : Heap) (locs : List Loc), LI E s n' A' B' ad' am H locs → Rel (k + 1) n' A' B' → ad' 0 = ad 0 → W p l e room_1 s m #[Value.ref b] below meth c H locs (cf n') (sf n') Q (F0 m 856 ls [])) : W p l e room_1 s m #[Value.ref b] below meth c H locs (cf n) (sf n) Q (F0 m 228 ls []) := by
  obtain ⟨hI, hIm, ha, hm, hd, hPc, hPm, hS⟩ := I
  have hn7 : 117 ≤ n := by omega
  obtain ⟨r, h1, h2, hR2⟩ := HS k n A B hk hR (xs (7 * k + 1)) (xs (7 * k + 2))
  refine lv_aload_n C.1.1 C.1.2.1 dL_law_228 rfl (lv_at hl 1 rfl) ?_
  refine z_argc C hS hl 1 (by omega) rfl (by decide) dL_law_229 dL_law_230 dL_law_231 dL_law_232 dL_law_233 ?_
  refine z_argc C hS hl 2 (by omega) rfl (by decide) dL_law_234 dL_law_235 dL_law_236 dL_law_237 dL_law_238 ?_
  refine z_call (As := [.int (xs (7 * k + 1)), .int (xs (7 * k + 2))]) C hPc hPm ha hd hS (by omega) (e5 rfl) rfl (K_X5_dearer l E ad n hI hn7 _ N (xs (7 * k + 1)) (xs (7 * k + 2)) A r h1) (cV 2 C.1 w_co_yX5_dearer w_in_X5 w_ml_L_27 w_im_yX5_dearer w_se_yX5_dearer hd_X5_dearer ⟨Nat.le_of_ble_eq_true rfl, Nat.le_of_ble_eq_true rfl⟩) hl.1 rfl rfl (Nat.le_of_ble_eq_true rfl) dL_law_239 ⟨Nat.le_trans (cf_le n) (by decide), Nat.le_trans (sf_le n) (by decide)⟩ (fun H locs hPc hPm hS => ?_)
  refine lv_aload_n C.1.1 C.1.2.1 dL_law_242 rfl (lv_at hl 2 rfl) ?_
  refine z_argc C hS hl 1 (by omega) rfl (by decide) dL_law_243 dL_law_244 dL_law_245 dL_law_246 dL_law_247 ?_
  refine z_argc C hS hl 2 (by omega) rfl (by decide) dL_law_248 dL_law_249 dL_law_250 dL_law_251 dL_law_252 ?_
  refine z_call (As := [.int (xs (7 * k + 1)), .int (xs (7 * k + 2))]) C hPm hPc hm (fun c1 c2 q1 q2 q3 => hd c2 c1 q2 q1 q3.symm) hS (by omega) m0 rfl (K_X6_dearer l E am hIm _ N (xs (7 * k + 1)) (xs (7 * k + 2)) B r h2) (cV 2 C.1 w_co_yX6_dearer w_in_X6 w_ml_L_30 w_im_yX6_dearer w_se_yX6_dearer hd_X6_dearer ⟨Nat.le_of_ble_eq_true rfl, Nat.le_of_ble_eq_true rfl⟩) hl.1 rfl rfl (Nat.le_of_ble_eq_true rfl) dL_law_253 ⟨Nat.le_trans (cf_le n) (by decide), Nat.le_trans (sf_le n) (by decide)⟩ (fun H locs hPm hPc hS => ?_)
  refine ll_eq (tgt := 856) C.1 dL_law_256 dL_law_257 (by decide) (fun _ => ?_) (fun q9 => absurd rfl q9)
  exact kk n A B ad H locs ⟨hI, hIm, ha, hm, hd, hPc, hPm, hS⟩ hR2 rfl
set_option maxHeartbeats 4000000 in
set_option maxRecDepth 100000 in
theorem lc_member {p : Program} (l : Launch) {e : Env} {s : State} {m : MethodId} {below : List Frame} {meth : Method} {c : Code} {E : EE} {b L : Nat} {xs : Nat → Int32} {Rel : Nat → Nat → MM → MM → Prop} {N k n : Nat} {A B : MM} {ad am : Nat → Nat} {H : Heap} {locs : List Loc} {ls : Array Slot} {Q : State → Prop} (C : LC E p s m c b L xs) (hi : 7 * k + 7 ≤ L) (hk : k < 512) (hn : n = 117 ∨ n = 233) (I : LI E s n A B ad am H locs) (hR : Rel k n A B) (HS : Sim_member N Rel) (hl : lv_has ls 4 [(0, .ref b), (1, .ref (ad 0)), (2, .ref (am 0)), (3, .int (nI (7 * k)))]) (kk : ∀ (n' : Nat) (A' B' : MM) (ad' : Nat → Nat) (H : Heap) (locs : List Loc), LI E s n' A' B' ad' am H locs → Rel (k + 1) n' A' B' → ad' 0 = ad 0 → W p l e room_1 s m #[Value.ref b] below meth c H locs (cf n') (sf n') Q (F0 m 856 ls [])) : W p l e room_1 s m #[Value.ref b] below meth c H locs (cf n) (sf n) Q (F0 m 262 ls []) := by
  obtain ⟨hI, hIm, ha, hm, hd, hPc, hPm, hS⟩ := I
  have hn7 : 117 ≤ n := by omega
  obtain ⟨r, A', B', h1, h2, hR2⟩ := HS k n A B hk hR (xs (7 * k + 1))
  refine lv_aload_n C.1.1 C.1.2.1 dL_law_262 rfl (lv_at hl 1 rfl) ?_
  refine z_argc C hS hl 1 (by omega) rfl (by decide) dL_law_263 dL_law_264 dL_law_265 dL_law_266 dL_law_267 ?_
  refine z_call (As := [.int (xs (7 * k + 1))]) C hPc hPm ha hd hS (by omega) (e5 rfl) rfl (K_X5_member l E ad n hI hn7 _ N (xs (7 * k + 1)) A r A' h1) (cV 1 C.1 w_co_yX5_member w_in_X5 w_ml_L_31 w_im_yX5_member w_se_yX5_member hd_X5_member ⟨Nat.le_of_ble_eq_true rfl, Nat.le_of_ble_eq_true rfl⟩) hl.1 rfl rfl (Nat.le_of_ble_eq_true rfl) dL_law_268 ⟨Nat.le_trans (cf_le n) (by decide), Nat.le_trans (sf_le n) (by decide)⟩ (fun H locs hPc hPm hS => ?_)
  refine lv_aload_n C.1.1 C.1.2.1 dL_law_271 rfl (lv_at hl 2 rfl) ?_
  refine z_argc C hS hl 1 (by omega) rfl (by decide) dL_law_272 dL_law_273 dL_law_274 dL_law_275 dL_law_276 ?_
  refine z_call (As := [.int (xs (7 * k + 1))]) C hPm hPc hm (fun c1 c2 q1 q2 q3 => hd c2 c1 q2 q1 q3.symm) hS (by omega) m0 rfl (K_X6_member l E am hIm _ N (xs (7 * k + 1)) B r B' h2) (cV 1 C.1 w_co_yX6_member w_in_X6 w_ml_L_34 w_im_yX6_member w_se_yX6_member hd_X6_member ⟨Nat.le_of_ble_eq_true rfl, Nat.le_of_ble_eq_true rfl⟩) hl.1 rfl rfl (Nat.le_of_ble_eq_true rfl) dL_law_277 ⟨Nat.le_trans (cf_le n) (by decide), Nat.le_trans (sf_le n) (by decide)⟩ (fun H locs hPm hPc hS => ?_)
  refine ll_eq (tgt := 856) C.1 dL_law_280 dL_law_281 (by decide) (fun _ => ?_) (fun q9 => absurd rfl q9)
  exact kk n A' B' ad H locs ⟨hI, hIm, ha, hm, hd, hPc, hPm, hS⟩ hR2 rfl
set_option maxHeartbeats 4000000 in
set_option maxRecDepth 100000 in
theorem lc_heir {p : Program} (l : Launch) {e : Env} {s : State} {m : MethodId} {below : List Frame} {meth : Method} {c : Code} {E : EE} {b L : Nat} {xs : Nat → Int32} {Rel : Nat → Nat → MM → MM → Prop} {N k n : Nat} {A B : MM} {ad am : Nat → Nat} {H : Heap} {locs : List Loc} {ls : Array Slot} {Q : State → Prop} (C : LC E p s m c b L xs) (hi : 7 * k + 7 ≤ L) (hk : k < 512) (hn : n = 117 ∨ n = 233) (I : LI E s n A B ad am H locs) (hR : Rel k n A B) (HS : Sim_heir N Rel) (hl : lv_has ls 4 [(0, .ref b), (1, .ref (ad 0)), (2, .ref (am 0)), (3, .int (nI (7 * k)))]) (kk : ∀ (n' : Nat) (A' B' : MM) (ad' : Nat → Nat) (H : Heap) (locs : List Loc), LI E s n' A' B' ad' am H locs → Rel (k + 1) n' A' B' → ad' 0 = ad 0 → W p l e room_1 s m #[Value.ref b] below meth c H locs (cf n') (sf n') Q (F0 m 856 ls [])) : W p l e room_1 s m #[Value.ref b] below meth c H locs (cf n) (sf n) Q (F0 m 286 ls []) := by
  obtain ⟨hI, hIm, ha, hm, hd, hPc, hPm, hS⟩ := I
  have hn7 : 117 ≤ n := by omega
  obtain ⟨r, A', B', h1, h2, hR2⟩ := HS k n A B hk hR (xs (7 * k + 1)) (xs (7 * k + 2))
  refine lv_aload_n C.1.1 C.1.2.1 dL_law_286 rfl (lv_at hl 1 rfl) ?_
  refine z_argc C hS hl 1 (by omega) rfl (by decide) dL_law_287 dL_law_288 dL_law_289 dL_law_290 dL_law_291 ?_
  refine z_argc C hS hl 2 (by omega) rfl (by decide) dL_law_292 dL_law_293 dL_law_294 dL_law_295 dL_law_296 ?_
  refine z_call (As := [.int (xs (7 * k + 1)), .int (xs (7 * k + 2))]) C hPc hPm ha hd hS (by omega) (e5 rfl) rfl (K_X5_heir l E ad n hI hn7 _ N (xs (7 * k + 1)) (xs (7 * k + 2)) A r A' h1) (cV 2 C.1 w_co_yX5_heir w_in_X5 w_ml_L_35 w_im_yX5_heir w_se_yX5_heir hd_X5_heir ⟨Nat.le_of_ble_eq_true rfl, Nat.le_of_ble_eq_true rfl⟩) hl.1 rfl rfl (Nat.le_of_ble_eq_true rfl) dL_law_297 ⟨Nat.le_trans (cf_le n) (by decide), Nat.le_trans (sf_le n) (by decide)⟩ (fun H locs hPc hPm hS => ?_)
  refine lv_aload_n C.1.1 C.1.2.1 dL_law_300 rfl (lv_at hl 2 rfl) ?_
  refine z_argc C hS hl 1 (by omega) rfl (by decide) dL_law_301 dL_law_302 dL_law_303 dL_law_304 dL_law_305 ?_
  refine z_argc C hS hl 2 (by omega) rfl (by decide) dL_law_306 dL_law_307 dL_law_308 dL_law_309 dL_law_310 ?_
  refine z_call (As := [.int (xs (7 * k + 1)), .int (xs (7 * k + 2))]) C hPm hPc hm (fun c1 c2 q1 q2 q3 => hd c2 c1 q2 q1 q3.symm) hS (by omega) m0 rfl (K_X6_heir l E am hIm _ N (xs (7 * k + 1)) (xs (7 * k + 2)) B r B' h2) (cV 2 C.1 w_co_yX6_heir w_in_X6 w_ml_L_38 w_im_yX6_heir w_se_yX6_heir hd_X6_heir ⟨Nat.le_of_ble_eq_true rfl, Nat.le_of_ble_eq_true rfl⟩) hl.1 rfl rfl (Nat.le_of_ble_eq_true rfl) dL_law_311 ⟨Nat.le_trans (cf_le n) (by decide), Nat.le_trans (sf_le n) (by decide)⟩ (fun H locs hPm hPc hS => ?_)
  refine ll_eq (tgt := 856) C.1 dL_law_314 dL_law_315 (by decide) (fun _ => ?_) (fun q9 => absurd rfl q9)
  exact kk n A' B' ad H locs ⟨hI, hIm, ha, hm, hd, hPc, hPm, hS⟩ hR2 rfl
set_option maxHeartbeats 4000000 in
set_option maxRecDepth 100000 in
theorem lc_group {p : Program} (l : Launch) {e : Env} {s : State} {m : MethodId} {below : List Frame} {meth : Method} {c : Code} {E : EE} {b L : Nat} {xs : Nat → Int32} {Rel : Nat → Nat → MM → MM → Prop} {N k n : Nat} {A B : MM} {ad am : Nat → Nat} {H : Heap} {locs : List Loc} {ls : Array Slot} {Q : State → Prop} (C : LC E p s m c b L xs) (hi : 7 * k + 7 ≤ L) (hk : k < 512) (hn : n = 117 ∨ n = 233) (I : LI E s n A B ad am H locs) (hR : Rel k n A B) (HS : Sim_group N Rel) (hl : lv_has ls 4 [(0, .ref b), (1, .ref (ad 0)), (2, .ref (am 0)), (3, .int (nI (7 * k)))]) (kk : ∀ (n' : Nat) (A' B' : MM) (ad' : Nat → Nat) (H : Heap) (locs : List Loc), LI E s n' A' B' ad' am H locs → Rel (k + 1) n' A' B' → ad' 0 = ad 0 → W p l e room_1 s m #[Value.ref b] below meth c H locs (cf n') (sf n') Q (F0 m 856 ls [])) : W p l e room_1 s m #[Value.ref b] below meth c H locs (cf n) (sf n) Q (F0 m 320 ls []) := by
  obtain ⟨hI, hIm, ha, hm, hd, hPc, hPm, hS⟩ := I
  have hn7 : 117 ≤ n := by omega
  obtain ⟨r, A', B', h1, h2, hR2⟩ := HS k n A B hk hR (xs (7 * k + 1)) (xs (7 * k + 2)) (xs (7 * k + 3))
  refine lv_aload_n C.1.1 C.1.2.1 dL_law_320 rfl (lv_at hl 1 rfl) ?_
  refine z_argc C hS hl 1 (by omega) rfl (by decide) dL_law_321 dL_law_322 dL_law_323 dL_law_324 dL_law_325 ?_
  refine z_argc C hS hl 2 (by omega) rfl (by decide) dL_law_326 dL_law_327 dL_law_328 dL_law_329 dL_law_330 ?_
  refine z_argc C hS hl 3 (by omega) rfl (by decide) dL_law_331 dL_law_332 dL_law_333 dL_law_334 dL_law_335 ?_
  refine z_call (As := [.int (xs (7 * k + 1)), .int (xs (7 * k + 2)), .int (xs (7 * k + 3))]) C hPc hPm ha hd hS (by omega) (e5 rfl) rfl (K_X5_group l E ad n hI hn7 _ N (xs (7 * k + 1)) (xs (7 * k + 2)) (xs (7 * k + 3)) A r A' h1) (cV 3 C.1 w_co_yX5_group w_in_X5 w_ml_L_39 w_im_yX5_group w_se_yX5_group hd_X5_group ⟨Nat.le_of_ble_eq_true rfl, Nat.le_of_ble_eq_true rfl⟩) hl.1 rfl rfl (Nat.le_of_ble_eq_true rfl) dL_law_336 ⟨Nat.le_trans (cf_le n) (by decide), Nat.le_trans (sf_le n) (by decide)⟩ (fun H locs hPc hPm hS => ?_)
  refine lv_aload_n C.1.1 C.1.2.1 dL_law_339 rfl (lv_at hl 2 rfl) ?_
  refine z_argc C hS hl 1 (by omega) rfl (by decide) dL_law_340 dL_law_341 dL_law_342 dL_law_343 dL_law_344 ?_
  refine z_argc C hS hl 2 (by omega) rfl (by decide) dL_law_345 dL_law_346 dL_law_347 dL_law_348 dL_law_349 ?_
  refine z_argc C hS hl 3 (by omega) rfl (by decide) dL_law_350 dL_law_351 dL_law_352 dL_law_353 dL_law_354 ?_
  refine z_call (As := [.int (xs (7 * k + 1)), .int (xs (7 * k + 2)), .int (xs (7 * k + 3))]) C hPm hPc hm (fun c1 c2 q1 q2 q3 => hd c2 c1 q2 q1 q3.symm) hS (by omega) m0 rfl (K_X6_group l E am hIm _ N (xs (7 * k + 1)) (xs (7 * k + 2)) (xs (7 * k + 3)) B r B' h2) (cV 3 C.1 w_co_yX6_group w_in_X6 w_ml_L_43 w_im_yX6_group w_se_yX6_group hd_X6_group ⟨Nat.le_of_ble_eq_true rfl, Nat.le_of_ble_eq_true rfl⟩) hl.1 rfl rfl (Nat.le_of_ble_eq_true rfl) dL_law_355 ⟨Nat.le_trans (cf_le n) (by decide), Nat.le_trans (sf_le n) (by decide)⟩ (fun H locs hPm hPc hS => ?_)
  refine ll_eq (tgt := 856) C.1 dL_law_358 dL_law_359 (by decide) (fun _ => ?_) (fun q9 => absurd rfl q9)
  exact kk n A' B' ad H locs ⟨hI, hIm, ha, hm, hd, hPc, hPm, hS⟩ hR2 rfl
set_option maxHeartbeats 4000000 in
set_option maxRecDepth 100000 in
theorem lc_set {p : Program} (l : Launch) {e : Env} {s : State} {m : MethodId} {below : List Frame} {meth : Method} {c : Code} {E : EE} {b L : Nat} {xs : Nat → Int32} {Rel : Nat → Nat → MM → MM → Prop} {N k n : Nat} {A B : MM} {ad am : Nat → Nat} {H : Heap} {locs : List Loc} {ls : Array Slot} {Q : State → Prop} (C : LC E p s m c b L xs) (hi : 7 * k + 7 ≤ L) (hk : k < 512) (hn : n = 117 ∨ n = 233) (I : LI E s n A B ad am H locs) (hR : Rel k n A B) (HS : Sim_set N Rel) (hl : lv_has ls 4 [(0, .ref b), (1, .ref (ad 0)), (2, .ref (am 0)), (3, .int (nI (7 * k)))]) (kk : ∀ (n' : Nat) (A' B' : MM) (ad' : Nat → Nat) (H : Heap) (locs : List Loc), LI E s n' A' B' ad' am H locs → Rel (k + 1) n' A' B' → ad' 0 = ad 0 → W p l e room_1 s m #[Value.ref b] below meth c H locs (cf n') (sf n') Q (F0 m 856 ls [])) : W p l e room_1 s m #[Value.ref b] below meth c H locs (cf n) (sf n) Q (F0 m 364 ls []) := by
  obtain ⟨hI, hIm, ha, hm, hd, hPc, hPm, hS⟩ := I
  have hn7 : 117 ≤ n := by omega
  obtain ⟨r, A', B', h1, h2, hR2⟩ := HS k n A B hk hR (xs (7 * k + 1)) (xs (7 * k + 2))
  refine lv_aload_n C.1.1 C.1.2.1 dL_law_364 rfl (lv_at hl 1 rfl) ?_
  refine z_argc C hS hl 1 (by omega) rfl (by decide) dL_law_365 dL_law_366 dL_law_367 dL_law_368 dL_law_369 ?_
  refine z_argc C hS hl 2 (by omega) rfl (by decide) dL_law_370 dL_law_371 dL_law_372 dL_law_373 dL_law_374 ?_
  refine z_call (As := [.int (xs (7 * k + 1)), .int (xs (7 * k + 2))]) C hPc hPm ha hd hS (by omega) (e5 rfl) rfl (K_X5_set l E ad n hI hn7 _ N (xs (7 * k + 1)) (xs (7 * k + 2)) A r A' h1) (cV 2 C.1 w_co_yX5_set w_in_X5 w_ml_L_44 w_im_yX5_set w_se_yX5_set hd_X5_set ⟨Nat.le_of_ble_eq_true rfl, Nat.le_of_ble_eq_true rfl⟩) hl.1 rfl rfl (Nat.le_of_ble_eq_true rfl) dL_law_375 ⟨Nat.le_trans (cf_le n) (by decide), Nat.le_trans (sf_le n) (by decide)⟩ (fun H locs hPc hPm hS => ?_)
  refine lv_aload_n C.1.1 C.1.2.1 dL_law_378 rfl (lv_at hl 2 rfl) ?_
  refine z_argc C hS hl 1 (by omega) rfl (by decide) dL_law_379 dL_law_380 dL_law_381 dL_law_382 dL_law_383 ?_
  refine z_argc C hS hl 2 (by omega) rfl (by decide) dL_law_384 dL_law_385 dL_law_386 dL_law_387 dL_law_388 ?_
  refine z_call (As := [.int (xs (7 * k + 1)), .int (xs (7 * k + 2))]) C hPm hPc hm (fun c1 c2 q1 q2 q3 => hd c2 c1 q2 q1 q3.symm) hS (by omega) m0 rfl (K_X6_set l E am hIm _ N (xs (7 * k + 1)) (xs (7 * k + 2)) B r B' h2) (cV 2 C.1 w_co_yX6_set w_in_X6 w_ml_L_47 w_im_yX6_set w_se_yX6_set hd_X6_set ⟨Nat.le_of_ble_eq_true rfl, Nat.le_of_ble_eq_true rfl⟩) hl.1 rfl rfl (Nat.le_of_ble_eq_true rfl) dL_law_389 ⟨Nat.le_trans (cf_le n) (by decide), Nat.le_trans (sf_le n) (by decide)⟩ (fun H locs hPm hPc hS => ?_)
  refine ll_eq (tgt := 856) C.1 dL_law_392 dL_law_393 (by decide) (fun _ => ?_) (fun q9 => absurd rfl q9)
  exact kk n A' B' ad H locs ⟨hI, hIm, ha, hm, hd, hPc, hPm, hS⟩ hR2 rfl
set_option maxHeartbeats 4000000 in
set_option maxRecDepth 100000 in
theorem lc_buy {p : Program} (l : Launch) {e : Env} {s : State} {m : MethodId} {below : List Frame} {meth : Method} {c : Code} {E : EE} {b L : Nat} {xs : Nat → Int32} {Rel : Nat → Nat → MM → MM → Prop} {N k n : Nat} {A B : MM} {ad am : Nat → Nat} {H : Heap} {locs : List Loc} {ls : Array Slot} {Q : State → Prop} (C : LC E p s m c b L xs) (hi : 7 * k + 7 ≤ L) (hk : k < 512) (hn : n = 117 ∨ n = 233) (I : LI E s n A B ad am H locs) (hR : Rel k n A B) (HS : Sim_buy N Rel) (hl : lv_has ls 4 [(0, .ref b), (1, .ref (ad 0)), (2, .ref (am 0)), (3, .int (nI (7 * k)))]) (kk : ∀ (n' : Nat) (A' B' : MM) (ad' : Nat → Nat) (H : Heap) (locs : List Loc), LI E s n' A' B' ad' am H locs → Rel (k + 1) n' A' B' → ad' 0 = ad 0 → W p l e room_1 s m #[Value.ref b] below meth c H locs (cf n') (sf n') Q (F0 m 856 ls [])) : W p l e room_1 s m #[Value.ref b] below meth c H locs (cf n) (sf n) Q (F0 m 398 ls []) := by
  obtain ⟨hI, hIm, ha, hm, hd, hPc, hPm, hS⟩ := I
  have hn7 : 117 ≤ n := by omega
  obtain ⟨r, A', B', h1, h2, hR2⟩ := HS k n A B hk hR (xs (7 * k + 1)) (xs (7 * k + 2)) (xs (7 * k + 3)) (xs (7 * k + 4)) (xs (7 * k + 5)) (xs (7 * k + 6))
  refine lv_aload_n C.1.1 C.1.2.1 dL_law_398 rfl (lv_at hl 1 rfl) ?_
  refine z_argc C hS hl 1 (by omega) rfl (by decide) dL_law_399 dL_law_400 dL_law_401 dL_law_402 dL_law_403 ?_
  refine z_argc C hS hl 2 (by omega) rfl (by decide) dL_law_404 dL_law_405 dL_law_406 dL_law_407 dL_law_408 ?_
  refine z_argc C hS hl 3 (by omega) rfl (by decide) dL_law_409 dL_law_410 dL_law_411 dL_law_412 dL_law_413 ?_
  refine z_argc C hS hl 4 (by omega) rfl (by decide) dL_law_414 dL_law_415 dL_law_416 dL_law_417 dL_law_418 ?_
  refine z_argc C hS hl 5 (by omega) rfl (by decide) dL_law_419 dL_law_420 dL_law_421 dL_law_422 dL_law_423 ?_
  refine z_argb C hS hl 6 (by omega) rfl (by decide) dL_law_424 dL_law_425 dL_law_426 dL_law_428 dL_law_429 ?_
  refine z_call (As := [.int (xs (7 * k + 1)), .int (xs (7 * k + 2)), .int (xs (7 * k + 3)), .int (xs (7 * k + 4)), .int (xs (7 * k + 5)), .int (xs (7 * k + 6))]) C hPc hPm ha hd hS (by omega) (e5 rfl) rfl (K_X5_buy l E ad n hI hn7 _ N (xs (7 * k + 1)) (xs (7 * k + 2)) (xs (7 * k + 3)) (xs (7 * k + 4)) (xs (7 * k + 5)) (xs (7 * k + 6)) A r A' h1) (cV 6 C.1 w_co_yX5_buy w_in_X5 w_ml_L_48 w_im_yX5_buy w_se_yX5_buy hd_X5_buy ⟨Nat.le_of_ble_eq_true rfl, Nat.le_of_ble_eq_true rfl⟩) hl.1 rfl rfl (Nat.le_of_ble_eq_true rfl) dL_law_430 ⟨Nat.le_trans (cf_le n) (by decide), Nat.le_trans (sf_le n) (by decide)⟩ (fun H locs hPc hPm hS => ?_)
  refine lv_aload_n C.1.1 C.1.2.1 dL_law_433 rfl (lv_at hl 2 rfl) ?_
  refine z_argc C hS hl 1 (by omega) rfl (by decide) dL_law_434 dL_law_435 dL_law_436 dL_law_437 dL_law_438 ?_
  refine z_argc C hS hl 2 (by omega) rfl (by decide) dL_law_439 dL_law_440 dL_law_441 dL_law_442 dL_law_443 ?_
  refine z_argc C hS hl 3 (by omega) rfl (by decide) dL_law_444 dL_law_445 dL_law_446 dL_law_447 dL_law_448 ?_
  refine z_argc C hS hl 4 (by omega) rfl (by decide) dL_law_449 dL_law_450 dL_law_451 dL_law_452 dL_law_453 ?_
  refine z_argc C hS hl 5 (by omega) rfl (by decide) dL_law_454 dL_law_455 dL_law_456 dL_law_457 dL_law_458 ?_
  refine z_argb C hS hl 6 (by omega) rfl (by decide) dL_law_459 dL_law_460 dL_law_461 dL_law_463 dL_law_464 ?_
  refine z_call (As := [.int (xs (7 * k + 1)), .int (xs (7 * k + 2)), .int (xs (7 * k + 3)), .int (xs (7 * k + 4)), .int (xs (7 * k + 5)), .int (xs (7 * k + 6))]) C hPm hPc hm (fun c1 c2 q1 q2 q3 => hd c2 c1 q2 q1 q3.symm) hS (by omega) m0 rfl (K_X6_buy l E am hIm _ N (xs (7 * k + 1)) (xs (7 * k + 2)) (xs (7 * k + 3)) (xs (7 * k + 4)) (xs (7 * k + 5)) (xs (7 * k + 6)) B r B' h2) (cV 6 C.1 w_co_yX6_buy w_in_X6 w_ml_L_52 w_im_yX6_buy w_se_yX6_buy hd_X6_buy ⟨Nat.le_of_ble_eq_true rfl, Nat.le_of_ble_eq_true rfl⟩) hl.1 rfl rfl (Nat.le_of_ble_eq_true rfl) dL_law_465 ⟨Nat.le_trans (cf_le n) (by decide), Nat.le_trans (sf_le n) (by decide)⟩ (fun H locs hPm hPc hS => ?_)
  refine ll_eq (tgt := 856) C.1 dL_law_468 dL_law_469 (by decide) (fun _ => ?_) (fun q9 => absurd rfl q9)
  exact kk n A' B' ad H locs ⟨hI, hIm, ha, hm, hd, hPc, hPm, hS⟩ hR2 rfl
set_option maxHeartbeats 4000000 in
set_option maxRecDepth 100000 in
theorem lc_sell {p : Program} (l : Launch) {e : Env} {s : State} {m : MethodId} {below : List Frame} {meth : Method} {c : Code} {E : EE} {b L : Nat} {xs : Nat → Int32} {Rel : Nat → Nat → MM → MM → Prop} {N k n : Nat} {A B : MM} {ad am : Nat → Nat} {H : Heap} {locs : List Loc} {ls : Array Slot} {Q : State → Prop} (C : LC E p s m c b L xs) (hi : 7 * k + 7 ≤ L) (hk : k < 512) (hn : n = 117 ∨ n = 233) (I : LI E s n A B ad am H locs) (hR : Rel k n A B) (HS : Sim_sell N Rel) (hl : lv_has ls 4 [(0, .ref b), (1, .ref (ad 0)), (2, .ref (am 0)), (3, .int (nI (7 * k)))]) (kk : ∀ (n' : Nat) (A' B' : MM) (ad' : Nat → Nat) (H : Heap) (locs : List Loc), LI E s n' A' B' ad' am H locs → Rel (k + 1) n' A' B' → ad' 0 = ad 0 → W p l e room_1 s m #[Value.ref b] below meth c H locs (cf n') (sf n') Q (F0 m 856 ls [])) : W p l e room_1 s m #[Value.ref b] below meth c H locs (cf n) (sf n) Q (F0 m 474 ls []) := by
  obtain ⟨hI, hIm, ha, hm, hd, hPc, hPm, hS⟩ := I
  have hn7 : 117 ≤ n := by omega
  obtain ⟨r, A', B', h1, h2, hR2⟩ := HS k n A B hk hR (xs (7 * k + 1)) (xs (7 * k + 2))
  refine lv_aload_n C.1.1 C.1.2.1 dL_law_474 rfl (lv_at hl 1 rfl) ?_
  refine z_argc C hS hl 1 (by omega) rfl (by decide) dL_law_475 dL_law_476 dL_law_477 dL_law_478 dL_law_479 ?_
  refine z_argc C hS hl 2 (by omega) rfl (by decide) dL_law_480 dL_law_481 dL_law_482 dL_law_483 dL_law_484 ?_
  refine z_call (As := [.int (xs (7 * k + 1)), .int (xs (7 * k + 2))]) C hPc hPm ha hd hS (by omega) (e5 rfl) rfl (K_X5_sell l E ad n hI hn7 _ N (xs (7 * k + 1)) (xs (7 * k + 2)) A r A' h1) (cV 2 C.1 w_co_yX5_sell w_in_X5 w_ml_L_53 w_im_yX5_sell w_se_yX5_sell hd_X5_sell ⟨Nat.le_of_ble_eq_true rfl, Nat.le_of_ble_eq_true rfl⟩) hl.1 rfl rfl (Nat.le_of_ble_eq_true rfl) dL_law_485 ⟨Nat.le_trans (cf_le n) (by decide), Nat.le_trans (sf_le n) (by decide)⟩ (fun H locs hPc hPm hS => ?_)
  refine lv_aload_n C.1.1 C.1.2.1 dL_law_488 rfl (lv_at hl 2 rfl) ?_
  refine z_argc C hS hl 1 (by omega) rfl (by decide) dL_law_489 dL_law_490 dL_law_491 dL_law_492 dL_law_493 ?_
  refine z_argc C hS hl 2 (by omega) rfl (by decide) dL_law_494 dL_law_495 dL_law_496 dL_law_497 dL_law_498 ?_
  refine z_call (As := [.int (xs (7 * k + 1)), .int (xs (7 * k + 2))]) C hPm hPc hm (fun c1 c2 q1 q2 q3 => hd c2 c1 q2 q1 q3.symm) hS (by omega) m0 rfl (K_X6_sell l E am hIm _ N (xs (7 * k + 1)) (xs (7 * k + 2)) B r B' h2) (cV 2 C.1 w_co_yX6_sell w_in_X6 w_ml_L_56 w_im_yX6_sell w_se_yX6_sell hd_X6_sell ⟨Nat.le_of_ble_eq_true rfl, Nat.le_of_ble_eq_true rfl⟩) hl.1 rfl rfl (Nat.le_of_ble_eq_true rfl) dL_law_499 ⟨Nat.le_trans (cf_le n) (by decide), Nat.le_trans (sf_le n) (by decide)⟩ (fun H locs hPm hPc hS => ?_)
  refine ll_eq (tgt := 856) C.1 dL_law_502 dL_law_503 (by decide) (fun _ => ?_) (fun q9 => absurd rfl q9)
  exact kk n A' B' ad H locs ⟨hI, hIm, ha, hm, hd, hPc, hPm, hS⟩ hR2 rfl
set_option maxHeartbeats 4000000 in
set_option maxRecDepth 100000 in
theorem lc_split {p : Program} (l : Launch) {e : Env} {s : State} {m : MethodId} {below : List Frame} {meth : Method} {c : Code} {E : EE} {b L : Nat} {xs : Nat → Int32} {Rel : Nat → Nat → MM → MM → Prop} {N k n : Nat} {A B : MM} {ad am : Nat → Nat} {H : Heap} {locs : List Loc} {ls : Array Slot} {Q : State → Prop} (C : LC E p s m c b L xs) (hi : 7 * k + 7 ≤ L) (hk : k < 512) (hn : n = 117 ∨ n = 233) (I : LI E s n A B ad am H locs) (hR : Rel k n A B) (HS : Sim_split N Rel) (hl : lv_has ls 4 [(0, .ref b), (1, .ref (ad 0)), (2, .ref (am 0)), (3, .int (nI (7 * k)))]) (kk : ∀ (n' : Nat) (A' B' : MM) (ad' : Nat → Nat) (H : Heap) (locs : List Loc), LI E s n' A' B' ad' am H locs → Rel (k + 1) n' A' B' → ad' 0 = ad 0 → W p l e room_1 s m #[Value.ref b] below meth c H locs (cf n') (sf n') Q (F0 m 856 ls [])) : W p l e room_1 s m #[Value.ref b] below meth c H locs (cf n) (sf n) Q (F0 m 508 ls []) := by
  obtain ⟨hI, hIm, ha, hm, hd, hPc, hPm, hS⟩ := I
  have hn7 : 117 ≤ n := by omega
  obtain ⟨r, A', B', h1, h2, hR2⟩ := HS k n A B hk hR (xs (7 * k + 1)) (xs (7 * k + 2))
  refine lv_aload_n C.1.1 C.1.2.1 dL_law_508 rfl (lv_at hl 1 rfl) ?_
  refine z_argc C hS hl 1 (by omega) rfl (by decide) dL_law_509 dL_law_510 dL_law_511 dL_law_512 dL_law_513 ?_
  refine z_argc C hS hl 2 (by omega) rfl (by decide) dL_law_514 dL_law_515 dL_law_516 dL_law_517 dL_law_518 ?_
  refine z_call (As := [.int (xs (7 * k + 1)), .int (xs (7 * k + 2))]) C hPc hPm ha hd hS (by omega) (e5 rfl) rfl (K_X5_split l E ad n hI hn7 _ N (xs (7 * k + 1)) (xs (7 * k + 2)) A r A' h1) (cV 2 C.1 w_co_yX5_split w_in_X5 w_ml_L_57 w_im_yX5_split w_se_yX5_split hd_X5_split ⟨Nat.le_of_ble_eq_true rfl, Nat.le_of_ble_eq_true rfl⟩) hl.1 rfl rfl (Nat.le_of_ble_eq_true rfl) dL_law_519 ⟨Nat.le_trans (cf_le n) (by decide), Nat.le_trans (sf_le n) (by decide)⟩ (fun H locs hPc hPm hS => ?_)
  refine lv_aload_n C.1.1 C.1.2.1 dL_law_522 rfl (lv_at hl 2 rfl) ?_
  refine z_argc C hS hl 1 (by omega) rfl (by decide) dL_law_523 dL_law_524 dL_law_525 dL_law_526 dL_law_527 ?_
  refine z_argc C hS hl 2 (by omega) rfl (by decide) dL_law_528 dL_law_529 dL_law_530 dL_law_531 dL_law_532 ?_
  refine z_call (As := [.int (xs (7 * k + 1)), .int (xs (7 * k + 2))]) C hPm hPc hm (fun c1 c2 q1 q2 q3 => hd c2 c1 q2 q1 q3.symm) hS (by omega) m0 rfl (K_X6_split l E am hIm _ N (xs (7 * k + 1)) (xs (7 * k + 2)) B r B' h2) (cV 2 C.1 w_co_yX6_split w_in_X6 w_ml_L_60 w_im_yX6_split w_se_yX6_split hd_X6_split ⟨Nat.le_of_ble_eq_true rfl, Nat.le_of_ble_eq_true rfl⟩) hl.1 rfl rfl (Nat.le_of_ble_eq_true rfl) dL_law_533 ⟨Nat.le_trans (cf_le n) (by decide), Nat.le_trans (sf_le n) (by decide)⟩ (fun H locs hPm hPc hS => ?_)
  refine ll_eq (tgt := 856) C.1 dL_law_536 dL_law_537 (by decide) (fun _ => ?_) (fun q9 => absurd rfl q9)
  exact kk n A' B' ad H locs ⟨hI, hIm, ha, hm, hd, hPc, hPm, hS⟩ hR2 rfl
set_option maxHeartbeats 4000000 in
set_option maxRecDepth 100000 in
theorem lc_pledge {p : Program} (l : Launch) {e : Env} {s : State} {m : MethodId} {below : List Frame} {meth : Method} {c : Code} {E : EE} {b L : Nat} {xs : Nat → Int32} {Rel : Nat → Nat → MM → MM → Prop} {N k n : Nat} {A B : MM} {ad am : Nat → Nat} {H : Heap} {locs : List Loc} {ls : Array Slot} {Q : State → Prop} (C : LC E p s m c b L xs) (hi : 7 * k + 7 ≤ L) (hk : k < 512) (hn : n = 117 ∨ n = 233) (I : LI E s n A B ad am H locs) (hR : Rel k n A B) (HS : Sim_pledge N Rel) (hl : lv_has ls 4 [(0, .ref b), (1, .ref (ad 0)), (2, .ref (am 0)), (3, .int (nI (7 * k)))]) (kk : ∀ (n' : Nat) (A' B' : MM) (ad' : Nat → Nat) (H : Heap) (locs : List Loc), LI E s n' A' B' ad' am H locs → Rel (k + 1) n' A' B' → ad' 0 = ad 0 → W p l e room_1 s m #[Value.ref b] below meth c H locs (cf n') (sf n') Q (F0 m 856 ls [])) : W p l e room_1 s m #[Value.ref b] below meth c H locs (cf n) (sf n) Q (F0 m 542 ls []) := by
  obtain ⟨hI, hIm, ha, hm, hd, hPc, hPm, hS⟩ := I
  have hn7 : 117 ≤ n := by omega
  obtain ⟨r, A', B', h1, h2, hR2⟩ := HS k n A B hk hR (xs (7 * k + 1)) (xs (7 * k + 2)) (xs (7 * k + 3))
  refine lv_aload_n C.1.1 C.1.2.1 dL_law_542 rfl (lv_at hl 1 rfl) ?_
  refine z_argc C hS hl 1 (by omega) rfl (by decide) dL_law_543 dL_law_544 dL_law_545 dL_law_546 dL_law_547 ?_
  refine z_argc C hS hl 2 (by omega) rfl (by decide) dL_law_548 dL_law_549 dL_law_550 dL_law_551 dL_law_552 ?_
  refine z_argc C hS hl 3 (by omega) rfl (by decide) dL_law_553 dL_law_554 dL_law_555 dL_law_556 dL_law_557 ?_
  refine z_call (As := [.int (xs (7 * k + 1)), .int (xs (7 * k + 2)), .int (xs (7 * k + 3))]) C hPc hPm ha hd hS (by omega) (e5 rfl) rfl (K_X5_pledge l E ad n hI hn7 _ N (xs (7 * k + 1)) (xs (7 * k + 2)) (xs (7 * k + 3)) A r A' h1) (cV 3 C.1 w_co_yX5_pledge w_in_X5 w_ml_L_61 w_im_yX5_pledge w_se_yX5_pledge hd_X5_pledge ⟨Nat.le_of_ble_eq_true rfl, Nat.le_of_ble_eq_true rfl⟩) hl.1 rfl rfl (Nat.le_of_ble_eq_true rfl) dL_law_558 ⟨Nat.le_trans (cf_le n) (by decide), Nat.le_trans (sf_le n) (by decide)⟩ (fun H locs hPc hPm hS => ?_)
  refine lv_aload_n C.1.1 C.1.2.1 dL_law_561 rfl (lv_at hl 2 rfl) ?_
  refine z_argc C hS hl 1 (by omega) rfl (by decide) dL_law_562 dL_law_563 dL_law_564 dL_law_565 dL_law_566 ?_
  refine z_argc C hS hl 2 (by omega) rfl (by decide) dL_law_567 dL_law_568 dL_law_569 dL_law_570 dL_law_571 ?_
  refine z_argc C hS hl 3 (by omega) rfl (by decide) dL_law_572 dL_law_573 dL_law_574 dL_law_575 dL_law_576 ?_
  refine z_call (As := [.int (xs (7 * k + 1)), .int (xs (7 * k + 2)), .int (xs (7 * k + 3))]) C hPm hPc hm (fun c1 c2 q1 q2 q3 => hd c2 c1 q2 q1 q3.symm) hS (by omega) m0 rfl (K_X6_pledge l E am hIm _ N (xs (7 * k + 1)) (xs (7 * k + 2)) (xs (7 * k + 3)) B r B' h2) (cV 3 C.1 w_co_yX6_pledge w_in_X6 w_ml_L_64 w_im_yX6_pledge w_se_yX6_pledge hd_X6_pledge ⟨Nat.le_of_ble_eq_true rfl, Nat.le_of_ble_eq_true rfl⟩) hl.1 rfl rfl (Nat.le_of_ble_eq_true rfl) dL_law_577 ⟨Nat.le_trans (cf_le n) (by decide), Nat.le_trans (sf_le n) (by decide)⟩ (fun H locs hPm hPc hS => ?_)
  refine ll_eq (tgt := 856) C.1 dL_law_580 dL_law_581 (by decide) (fun _ => ?_) (fun q9 => absurd rfl q9)
  exact kk n A' B' ad H locs ⟨hI, hIm, ha, hm, hd, hPc, hPm, hS⟩ hR2 rfl
set_option maxHeartbeats 4000000 in
set_option maxRecDepth 100000 in
theorem lc_share {p : Program} (l : Launch) {e : Env} {s : State} {m : MethodId} {below : List Frame} {meth : Method} {c : Code} {E : EE} {b L : Nat} {xs : Nat → Int32} {Rel : Nat → Nat → MM → MM → Prop} {N k n : Nat} {A B : MM} {ad am : Nat → Nat} {H : Heap} {locs : List Loc} {ls : Array Slot} {Q : State → Prop} (C : LC E p s m c b L xs) (hi : 7 * k + 7 ≤ L) (hk : k < 512) (hn : n = 117 ∨ n = 233) (I : LI E s n A B ad am H locs) (hR : Rel k n A B) (HS : Sim_share N Rel) (hl : lv_has ls 4 [(0, .ref b), (1, .ref (ad 0)), (2, .ref (am 0)), (3, .int (nI (7 * k)))]) (kk : ∀ (n' : Nat) (A' B' : MM) (ad' : Nat → Nat) (H : Heap) (locs : List Loc), LI E s n' A' B' ad' am H locs → Rel (k + 1) n' A' B' → ad' 0 = ad 0 → W p l e room_1 s m #[Value.ref b] below meth c H locs (cf n') (sf n') Q (F0 m 856 ls [])) : W p l e room_1 s m #[Value.ref b] below meth c H locs (cf n) (sf n) Q (F0 m 586 ls []) := by
  obtain ⟨hI, hIm, ha, hm, hd, hPc, hPm, hS⟩ := I
  have hn7 : 117 ≤ n := by omega
  obtain ⟨r, h1, h2, hR2⟩ := HS k n A B hk hR (xs (7 * k + 1)) (xs (7 * k + 2))
  refine lv_aload_n C.1.1 C.1.2.1 dL_law_586 rfl (lv_at hl 1 rfl) ?_
  refine z_argc C hS hl 1 (by omega) rfl (by decide) dL_law_587 dL_law_588 dL_law_589 dL_law_590 dL_law_591 ?_
  refine z_argc C hS hl 2 (by omega) rfl (by decide) dL_law_592 dL_law_593 dL_law_594 dL_law_595 dL_law_596 ?_
  refine z_call (As := [.int (xs (7 * k + 1)), .int (xs (7 * k + 2))]) C hPc hPm ha hd hS (by omega) (e5 rfl) rfl (K_X5_share l E ad n hI hn7 _ N (xs (7 * k + 1)) (xs (7 * k + 2)) A r h1) (cV 2 C.1 w_co_yX5_share w_in_X5 w_ml_L_65 w_im_yX5_share w_se_yX5_share hd_X5_share ⟨Nat.le_of_ble_eq_true rfl, Nat.le_of_ble_eq_true rfl⟩) hl.1 rfl rfl (Nat.le_of_ble_eq_true rfl) dL_law_597 ⟨Nat.le_trans (cf_le n) (by decide), Nat.le_trans (sf_le n) (by decide)⟩ (fun H locs hPc hPm hS => ?_)
  refine lv_aload_n C.1.1 C.1.2.1 dL_law_600 rfl (lv_at hl 2 rfl) ?_
  refine z_argc C hS hl 1 (by omega) rfl (by decide) dL_law_601 dL_law_602 dL_law_603 dL_law_604 dL_law_605 ?_
  refine z_argc C hS hl 2 (by omega) rfl (by decide) dL_law_606 dL_law_607 dL_law_608 dL_law_609 dL_law_610 ?_
  refine z_call (As := [.int (xs (7 * k + 1)), .int (xs (7 * k + 2))]) C hPm hPc hm (fun c1 c2 q1 q2 q3 => hd c2 c1 q2 q1 q3.symm) hS (by omega) m0 rfl (K_X6_share l E am hIm _ N (xs (7 * k + 1)) (xs (7 * k + 2)) B r h2) (cV 2 C.1 w_co_yX6_share w_in_X6 w_ml_L_68 w_im_yX6_share w_se_yX6_share hd_X6_share ⟨Nat.le_of_ble_eq_true rfl, Nat.le_of_ble_eq_true rfl⟩) hl.1 rfl rfl (Nat.le_of_ble_eq_true rfl) dL_law_611 ⟨Nat.le_trans (cf_le n) (by decide), Nat.le_trans (sf_le n) (by decide)⟩ (fun H locs hPm hPc hS => ?_)
  refine ll_eq (tgt := 856) C.1 dL_law_614 dL_law_615 (by decide) (fun _ => ?_) (fun q9 => absurd rfl q9)
  exact kk n A B ad H locs ⟨hI, hIm, ha, hm, hd, hPc, hPm, hS⟩ hR2 rfl
set_option maxHeartbeats 4000000 in
set_option maxRecDepth 100000 in
theorem lc_drew {p : Program} (l : Launch) {e : Env} {s : State} {m : MethodId} {below : List Frame} {meth : Method} {c : Code} {E : EE} {b L : Nat} {xs : Nat → Int32} {Rel : Nat → Nat → MM → MM → Prop} {N k n : Nat} {A B : MM} {ad am : Nat → Nat} {H : Heap} {locs : List Loc} {ls : Array Slot} {Q : State → Prop} (C : LC E p s m c b L xs) (hi : 7 * k + 7 ≤ L) (hk : k < 512) (hn : n = 117 ∨ n = 233) (I : LI E s n A B ad am H locs) (hR : Rel k n A B) (HS : Sim_drew N Rel) (hl : lv_has ls 4 [(0, .ref b), (1, .ref (ad 0)), (2, .ref (am 0)), (3, .int (nI (7 * k)))]) (kk : ∀ (n' : Nat) (A' B' : MM) (ad' : Nat → Nat) (H : Heap) (locs : List Loc), LI E s n' A' B' ad' am H locs → Rel (k + 1) n' A' B' → ad' 0 = ad 0 → W p l e room_1 s m #[Value.ref b] below meth c H locs (cf n') (sf n') Q (F0 m 856 ls [])) : W p l e room_1 s m #[Value.ref b] below meth c H locs (cf n) (sf n) Q (F0 m 620 ls []) := by
  obtain ⟨hI, hIm, ha, hm, hd, hPc, hPm, hS⟩ := I
  have hn7 : 117 ≤ n := by omega
  obtain ⟨r, h1, h2, hR2⟩ := HS k n A B hk hR (xs (7 * k + 1)) (xs (7 * k + 2))
  refine lv_aload_n C.1.1 C.1.2.1 dL_law_620 rfl (lv_at hl 1 rfl) ?_
  refine z_argc C hS hl 1 (by omega) rfl (by decide) dL_law_621 dL_law_622 dL_law_623 dL_law_624 dL_law_625 ?_
  refine z_argc C hS hl 2 (by omega) rfl (by decide) dL_law_626 dL_law_627 dL_law_628 dL_law_629 dL_law_630 ?_
  refine z_call (As := [.int (xs (7 * k + 1)), .int (xs (7 * k + 2))]) C hPc hPm ha hd hS (by omega) (e5 rfl) rfl (K_X5_drew l E ad n hI hn7 _ N (xs (7 * k + 1)) (xs (7 * k + 2)) A r h1) (cV 2 C.1 w_co_yX5_drew w_in_X5 w_ml_L_69 w_im_yX5_drew w_se_yX5_drew hd_X5_drew ⟨Nat.le_of_ble_eq_true rfl, Nat.le_of_ble_eq_true rfl⟩) hl.1 rfl rfl (Nat.le_of_ble_eq_true rfl) dL_law_631 ⟨Nat.le_trans (cf_le n) (by decide), Nat.le_trans (sf_le n) (by decide)⟩ (fun H locs hPc hPm hS => ?_)
  refine lv_aload_n C.1.1 C.1.2.1 dL_law_634 rfl (lv_at hl 2 rfl) ?_
  refine z_argc C hS hl 1 (by omega) rfl (by decide) dL_law_635 dL_law_636 dL_law_637 dL_law_638 dL_law_639 ?_
  refine z_argc C hS hl 2 (by omega) rfl (by decide) dL_law_640 dL_law_641 dL_law_642 dL_law_643 dL_law_644 ?_
  refine z_call (As := [.int (xs (7 * k + 1)), .int (xs (7 * k + 2))]) C hPm hPc hm (fun c1 c2 q1 q2 q3 => hd c2 c1 q2 q1 q3.symm) hS (by omega) m0 rfl (K_X6_drew l E am hIm _ N (xs (7 * k + 1)) (xs (7 * k + 2)) B r h2) (cV 2 C.1 w_co_yX6_drew w_in_X6 w_ml_L_72 w_im_yX6_drew w_se_yX6_drew hd_X6_drew ⟨Nat.le_of_ble_eq_true rfl, Nat.le_of_ble_eq_true rfl⟩) hl.1 rfl rfl (Nat.le_of_ble_eq_true rfl) dL_law_645 ⟨Nat.le_trans (cf_le n) (by decide), Nat.le_trans (sf_le n) (by decide)⟩ (fun H locs hPm hPc hS => ?_)
  refine ll_eq (tgt := 856) C.1 dL_law_648 dL_law_649 (by decide) (fun _ => ?_) (fun q9 => absurd rfl q9)
  exact kk n A B ad H locs ⟨hI, hIm, ha, hm, hd, hPc, hPm, hS⟩ hR2 rfl
set_option maxHeartbeats 4000000 in
set_option maxRecDepth 100000 in
theorem lc_proof {p : Program} (l : Launch) {e : Env} {s : State} {m : MethodId} {below : List Frame} {meth : Method} {c : Code} {E : EE} {b L : Nat} {xs : Nat → Int32} {Rel : Nat → Nat → MM → MM → Prop} {N k n : Nat} {A B : MM} {ad am : Nat → Nat} {H : Heap} {locs : List Loc} {ls : Array Slot} {Q : State → Prop} (C : LC E p s m c b L xs) (hi : 7 * k + 7 ≤ L) (hk : k < 512) (hn : n = 117 ∨ n = 233) (I : LI E s n A B ad am H locs) (hR : Rel k n A B) (HS : Sim_proof N Rel) (hl : lv_has ls 4 [(0, .ref b), (1, .ref (ad 0)), (2, .ref (am 0)), (3, .int (nI (7 * k)))]) (kk : ∀ (n' : Nat) (A' B' : MM) (ad' : Nat → Nat) (H : Heap) (locs : List Loc), LI E s n' A' B' ad' am H locs → Rel (k + 1) n' A' B' → ad' 0 = ad 0 → W p l e room_1 s m #[Value.ref b] below meth c H locs (cf n') (sf n') Q (F0 m 856 ls [])) : W p l e room_1 s m #[Value.ref b] below meth c H locs (cf n) (sf n) Q (F0 m 654 ls []) := by
  obtain ⟨hI, hIm, ha, hm, hd, hPc, hPm, hS⟩ := I
  have hn7 : 117 ≤ n := by omega
  obtain ⟨r, A', B', h1, h2, hR2⟩ := HS k n A B hk hR (xs (7 * k + 1))
  refine lv_aload_n C.1.1 C.1.2.1 dL_law_654 rfl (lv_at hl 1 rfl) ?_
  refine z_argc C hS hl 1 (by omega) rfl (by decide) dL_law_655 dL_law_656 dL_law_657 dL_law_658 dL_law_659 ?_
  refine z_call (As := [.int (xs (7 * k + 1))]) C hPc hPm ha hd hS (by omega) (e5 rfl) rfl (K_X5_proof l E ad n hI hn7 _ N (xs (7 * k + 1)) A r A' h1) (cV 1 C.1 w_co_yX5_proof w_in_X5 w_ml_L_73 w_im_yX5_proof w_se_yX5_proof hd_X5_proof ⟨Nat.le_of_ble_eq_true rfl, Nat.le_of_ble_eq_true rfl⟩) hl.1 rfl rfl (Nat.le_of_ble_eq_true rfl) dL_law_660 ⟨Nat.le_trans (cf_le n) (by decide), Nat.le_trans (sf_le n) (by decide)⟩ (fun H locs hPc hPm hS => ?_)
  refine lv_aload_n C.1.1 C.1.2.1 dL_law_663 rfl (lv_at hl 2 rfl) ?_
  refine z_argc C hS hl 1 (by omega) rfl (by decide) dL_law_664 dL_law_665 dL_law_666 dL_law_667 dL_law_668 ?_
  refine z_call (As := [.int (xs (7 * k + 1))]) C hPm hPc hm (fun c1 c2 q1 q2 q3 => hd c2 c1 q2 q1 q3.symm) hS (by omega) m0 rfl (K_X6_proof l E am hIm _ N (xs (7 * k + 1)) B r B' h2) (cV 1 C.1 w_co_yX6_proof w_in_X6 w_ml_L_76 w_im_yX6_proof w_se_yX6_proof hd_X6_proof ⟨Nat.le_of_ble_eq_true rfl, Nat.le_of_ble_eq_true rfl⟩) hl.1 rfl rfl (Nat.le_of_ble_eq_true rfl) dL_law_669 ⟨Nat.le_trans (cf_le n) (by decide), Nat.le_trans (sf_le n) (by decide)⟩ (fun H locs hPm hPc hS => ?_)
  refine ll_eq (tgt := 856) C.1 dL_law_672 dL_law_673 (by decide) (fun _ => ?_) (fun q9 => absurd rfl q9)
  exact kk n A' B' ad H locs ⟨hI, hIm, ha, hm, hd, hPc, hPm, hS⟩ hR2 rfl
set_option maxHeartbeats 4000000 in
set_option maxRecDepth 100000 in
theorem lc_death {p : Program} (l : Launch) {e : Env} {s : State} {m : MethodId} {below : List Frame} {meth : Method} {c : Code} {E : EE} {b L : Nat} {xs : Nat → Int32} {Rel : Nat → Nat → MM → MM → Prop} {N k n : Nat} {A B : MM} {ad am : Nat → Nat} {H : Heap} {locs : List Loc} {ls : Array Slot} {Q : State → Prop} (C : LC E p s m c b L xs) (hi : 7 * k + 7 ≤ L) (hk : k < 512) (hn : n = 117 ∨ n = 233) (I : LI E s n A B ad am H locs) (hR : Rel k n A B) (HS : Sim_death N Rel) (hl : lv_has ls 4 [(0, .ref b), (1, .ref (ad 0)), (2, .ref (am 0)), (3, .int (nI (7 * k)))]) (kk : ∀ (n' : Nat) (A' B' : MM) (ad' : Nat → Nat) (H : Heap) (locs : List Loc), LI E s n' A' B' ad' am H locs → Rel (k + 1) n' A' B' → ad' 0 = ad 0 → W p l e room_1 s m #[Value.ref b] below meth c H locs (cf n') (sf n') Q (F0 m 856 ls [])) : W p l e room_1 s m #[Value.ref b] below meth c H locs (cf n) (sf n) Q (F0 m 678 ls []) := by
  obtain ⟨hI, hIm, ha, hm, hd, hPc, hPm, hS⟩ := I
  have hn7 : 117 ≤ n := by omega
  obtain ⟨r, A', B', h1, h2, hR2⟩ := HS k n A B hk hR (xs (7 * k + 1)) (xs (7 * k + 2))
  refine lv_aload_n C.1.1 C.1.2.1 dL_law_678 rfl (lv_at hl 1 rfl) ?_
  refine z_argc C hS hl 1 (by omega) rfl (by decide) dL_law_679 dL_law_680 dL_law_681 dL_law_682 dL_law_683 ?_
  refine z_argc C hS hl 2 (by omega) rfl (by decide) dL_law_684 dL_law_685 dL_law_686 dL_law_687 dL_law_688 ?_
  refine z_call (As := [.int (xs (7 * k + 1)), .int (xs (7 * k + 2))]) C hPc hPm ha hd hS (by omega) (e5 rfl) rfl (K_X5_death l E ad n hI hn7 _ N (xs (7 * k + 1)) (xs (7 * k + 2)) A r A' h1) (cV 2 C.1 w_co_yX5_death w_in_X5 w_ml_L_77 w_im_yX5_death w_se_yX5_death hd_X5_death ⟨Nat.le_of_ble_eq_true rfl, Nat.le_of_ble_eq_true rfl⟩) hl.1 rfl rfl (Nat.le_of_ble_eq_true rfl) dL_law_689 ⟨Nat.le_trans (cf_le n) (by decide), Nat.le_trans (sf_le n) (by decide)⟩ (fun H locs hPc hPm hS => ?_)
  refine lv_aload_n C.1.1 C.1.2.1 dL_law_692 rfl (lv_at hl 2 rfl) ?_
  refine z_argc C hS hl 1 (by omega) rfl (by decide) dL_law_693 dL_law_694 dL_law_695 dL_law_696 dL_law_697 ?_
  refine z_argc C hS hl 2 (by omega) rfl (by decide) dL_law_698 dL_law_699 dL_law_700 dL_law_701 dL_law_702 ?_
  refine z_call (As := [.int (xs (7 * k + 1)), .int (xs (7 * k + 2))]) C hPm hPc hm (fun c1 c2 q1 q2 q3 => hd c2 c1 q2 q1 q3.symm) hS (by omega) m0 rfl (K_X6_death l E am hIm _ N (xs (7 * k + 1)) (xs (7 * k + 2)) B r B' h2) (cV 2 C.1 w_co_yX6_death w_in_X6 w_ml_L_80 w_im_yX6_death w_se_yX6_death hd_X6_death ⟨Nat.le_of_ble_eq_true rfl, Nat.le_of_ble_eq_true rfl⟩) hl.1 rfl rfl (Nat.le_of_ble_eq_true rfl) dL_law_703 ⟨Nat.le_trans (cf_le n) (by decide), Nat.le_trans (sf_le n) (by decide)⟩ (fun H locs hPm hPc hS => ?_)
  refine ll_eq (tgt := 856) C.1 dL_law_706 dL_law_707 (by decide) (fun _ => ?_) (fun q9 => absurd rfl q9)
  exact kk n A' B' ad H locs ⟨hI, hIm, ha, hm, hd, hPc, hPm, hS⟩ hR2 rfl
set_option maxHeartbeats 4000000 in
set_option maxRecDepth 100000 in
theorem lc_close {p : Program} (l : Launch) {e : Env} {s : State} {m : MethodId} {below : List Frame} {meth : Method} {c : Code} {E : EE} {b L : Nat} {xs : Nat → Int32} {Rel : Nat → Nat → MM → MM → Prop} {N k n : Nat} {A B : MM} {ad am : Nat → Nat} {H : Heap} {locs : List Loc} {ls : Array Slot} {Q : State → Prop} (C : LC E p s m c b L xs) (hi : 7 * k + 7 ≤ L) (hk : k < 512) (hn : n = 117 ∨ n = 233) (I : LI E s n A B ad am H locs) (hR : Rel k n A B) (HS : Sim_close N Rel) (hl : lv_has ls 4 [(0, .ref b), (1, .ref (ad 0)), (2, .ref (am 0)), (3, .int (nI (7 * k)))]) (kk : ∀ (n' : Nat) (A' B' : MM) (ad' : Nat → Nat) (H : Heap) (locs : List Loc), LI E s n' A' B' ad' am H locs → Rel (k + 1) n' A' B' → ad' 0 = ad 0 → W p l e room_1 s m #[Value.ref b] below meth c H locs (cf n') (sf n') Q (F0 m 856 ls [])) : W p l e room_1 s m #[Value.ref b] below meth c H locs (cf n) (sf n) Q (F0 m 712 ls []) := by
  obtain ⟨hI, hIm, ha, hm, hd, hPc, hPm, hS⟩ := I
  have hn7 : 117 ≤ n := by omega
  obtain ⟨r, A', B', h1, h2, hR2⟩ := HS k n A B hk hR (xs (7 * k + 1))
  refine lv_aload_n C.1.1 C.1.2.1 dL_law_712 rfl (lv_at hl 1 rfl) ?_
  refine z_argc C hS hl 1 (by omega) rfl (by decide) dL_law_713 dL_law_714 dL_law_715 dL_law_716 dL_law_717 ?_
  refine z_call (As := [.int (xs (7 * k + 1))]) C hPc hPm ha hd hS (by omega) (e5 rfl) rfl (K_X5_close l E ad n hI hn7 _ N (xs (7 * k + 1)) A r A' h1) (cV 1 C.1 w_co_yX5_close w_in_X5 w_ml_L_81 w_im_yX5_close w_se_yX5_close hd_X5_close ⟨Nat.le_of_ble_eq_true rfl, Nat.le_of_ble_eq_true rfl⟩) hl.1 rfl rfl (Nat.le_of_ble_eq_true rfl) dL_law_718 ⟨Nat.le_trans (cf_le n) (by decide), Nat.le_trans (sf_le n) (by decide)⟩ (fun H locs hPc hPm hS => ?_)
  refine lv_aload_n C.1.1 C.1.2.1 dL_law_721 rfl (lv_at hl 2 rfl) ?_
  refine z_argc C hS hl 1 (by omega) rfl (by decide) dL_law_722 dL_law_723 dL_law_724 dL_law_725 dL_law_726 ?_
  refine z_call (As := [.int (xs (7 * k + 1))]) C hPm hPc hm (fun c1 c2 q1 q2 q3 => hd c2 c1 q2 q1 q3.symm) hS (by omega) m0 rfl (K_X6_close l E am hIm _ N (xs (7 * k + 1)) B r B' h2) (cV 1 C.1 w_co_yX6_close w_in_X6 w_ml_L_84 w_im_yX6_close w_se_yX6_close hd_X6_close ⟨Nat.le_of_ble_eq_true rfl, Nat.le_of_ble_eq_true rfl⟩) hl.1 rfl rfl (Nat.le_of_ble_eq_true rfl) dL_law_727 ⟨Nat.le_trans (cf_le n) (by decide), Nat.le_trans (sf_le n) (by decide)⟩ (fun H locs hPm hPc hS => ?_)
  refine ll_eq (tgt := 856) C.1 dL_law_730 dL_law_731 (by decide) (fun _ => ?_) (fun q9 => absurd rfl q9)
  exact kk n A' B' ad H locs ⟨hI, hIm, ha, hm, hd, hPc, hPm, hS⟩ hR2 rfl
set_option maxHeartbeats 4000000 in
set_option maxRecDepth 100000 in
theorem lc_of {p : Program} (l : Launch) {e : Env} {s : State} {m : MethodId} {below : List Frame} {meth : Method} {c : Code} {E : EE} {b L : Nat} {xs : Nat → Int32} {Rel : Nat → Nat → MM → MM → Prop} {N k n : Nat} {A B : MM} {ad am : Nat → Nat} {H : Heap} {locs : List Loc} {ls : Array Slot} {Q : State → Prop} (C : LC E p s m c b L xs) (hi : 7 * k + 7 ≤ L) (hk : k < 512) (hn : n = 117 ∨ n = 233) (I : LI E s n A B ad am H locs) (hR : Rel k n A B) (HS : Sim_of N Rel) (hl : lv_has ls 4 [(0, .ref b), (1, .ref (ad 0)), (2, .ref (am 0)), (3, .int (nI (7 * k)))]) (kk : ∀ (n' : Nat) (A' B' : MM) (ad' : Nat → Nat) (H : Heap) (locs : List Loc), LI E s n' A' B' ad' am H locs → Rel (k + 1) n' A' B' → ad' 0 = ad 0 → W p l e room_1 s m #[Value.ref b] below meth c H locs (cf n') (sf n') Q (F0 m 856 ls [])) : W p l e room_1 s m #[Value.ref b] below meth c H locs (cf n) (sf n) Q (F0 m 736 ls []) := by
  obtain ⟨hI, hIm, ha, hm, hd, hPc, hPm, hS⟩ := I
  have hn7 : 117 ≤ n := by omega
  obtain ⟨r, h1, h2, hR2⟩ := HS k n A B hk hR (xs (7 * k + 1)) (xs (7 * k + 2))
  refine lv_aload_n C.1.1 C.1.2.1 dL_law_736 rfl (lv_at hl 1 rfl) ?_
  refine z_argc C hS hl 1 (by omega) rfl (by decide) dL_law_737 dL_law_738 dL_law_739 dL_law_740 dL_law_741 ?_
  refine z_argc C hS hl 2 (by omega) rfl (by decide) dL_law_742 dL_law_743 dL_law_744 dL_law_745 dL_law_746 ?_
  refine z_call (As := [.int (xs (7 * k + 1)), .int (xs (7 * k + 2))]) C hPc hPm ha hd hS (by omega) (e5 rfl) rfl (K_X5_of l E ad n hI hn7 _ N (xs (7 * k + 1)) (xs (7 * k + 2)) A r h1) (cV 2 C.1 w_co_yX5_of w_in_X5 w_ml_L_85 w_im_yX5_of w_se_yX5_of hd_X5_of ⟨Nat.le_of_ble_eq_true rfl, Nat.le_of_ble_eq_true rfl⟩) hl.1 rfl rfl (Nat.le_of_ble_eq_true rfl) dL_law_747 ⟨Nat.le_trans (cf_le n) (by decide), Nat.le_trans (sf_le n) (by decide)⟩ (fun H locs hPc hPm hS => ?_)
  refine lv_aload_n C.1.1 C.1.2.1 dL_law_750 rfl (lv_at hl 2 rfl) ?_
  refine z_argc C hS hl 1 (by omega) rfl (by decide) dL_law_751 dL_law_752 dL_law_753 dL_law_754 dL_law_755 ?_
  refine z_argc C hS hl 2 (by omega) rfl (by decide) dL_law_756 dL_law_757 dL_law_758 dL_law_759 dL_law_760 ?_
  refine z_call (As := [.int (xs (7 * k + 1)), .int (xs (7 * k + 2))]) C hPm hPc hm (fun c1 c2 q1 q2 q3 => hd c2 c1 q2 q1 q3.symm) hS (by omega) m0 rfl (K_X6_of l E am hIm _ N (xs (7 * k + 1)) (xs (7 * k + 2)) B r h2) (cV 2 C.1 w_co_yX6_of w_in_X6 w_ml_L_88 w_im_yX6_of w_se_yX6_of hd_X6_of ⟨Nat.le_of_ble_eq_true rfl, Nat.le_of_ble_eq_true rfl⟩) hl.1 rfl rfl (Nat.le_of_ble_eq_true rfl) dL_law_761 ⟨Nat.le_trans (cf_le n) (by decide), Nat.le_trans (sf_le n) (by decide)⟩ (fun H locs hPm hPc hS => ?_)
  refine ll_eq (tgt := 856) C.1 dL_law_764 dL_law_765 (by decide) (fun _ => ?_) (fun q9 => absurd rfl q9)
  exact kk n A B ad H locs ⟨hI, hIm, ha, hm, hd, hPc, hPm, hS⟩ hR2 rfl
set_option maxHeartbeats 4000000 in
set_option maxRecDepth 100000 in
theorem lc_about {p : Program} (l : Launch) {e : Env} {s : State} {m : MethodId} {below : List Frame} {meth : Method} {c : Code} {E : EE} {b L : Nat} {xs : Nat → Int32} {Rel : Nat → Nat → MM → MM → Prop} {N k n : Nat} {A B : MM} {ad am : Nat → Nat} {H : Heap} {locs : List Loc} {ls : Array Slot} {Q : State → Prop} (C : LC E p s m c b L xs) (hi : 7 * k + 7 ≤ L) (hk : k < 512) (hn : n = 117 ∨ n = 233) (I : LI E s n A B ad am H locs) (hR : Rel k n A B) (HS : Sim_about N Rel) (hl : lv_has ls 4 [(0, .ref b), (1, .ref (ad 0)), (2, .ref (am 0)), (3, .int (nI (7 * k)))]) (kk : ∀ (n' : Nat) (A' B' : MM) (ad' : Nat → Nat) (H : Heap) (locs : List Loc), LI E s n' A' B' ad' am H locs → Rel (k + 1) n' A' B' → ad' 0 = ad 0 → W p l e room_1 s m #[Value.ref b] below meth c H locs (cf n') (sf n') Q (F0 m 856 ls [])) : W p l e room_1 s m #[Value.ref b] below meth c H locs (cf n) (sf n) Q (F0 m 770 ls []) := by
  obtain ⟨hI, hIm, ha, hm, hd, hPc, hPm, hS⟩ := I
  have hn7 : 117 ≤ n := by omega
  obtain ⟨r, h1, h2, hR2⟩ := HS k n A B hk hR (xs (7 * k + 1)) (xs (7 * k + 2))
  refine lv_aload_n C.1.1 C.1.2.1 dL_law_770 rfl (lv_at hl 1 rfl) ?_
  refine z_argc C hS hl 1 (by omega) rfl (by decide) dL_law_771 dL_law_772 dL_law_773 dL_law_774 dL_law_775 ?_
  refine z_argc C hS hl 2 (by omega) rfl (by decide) dL_law_776 dL_law_777 dL_law_778 dL_law_779 dL_law_780 ?_
  refine z_call (As := [.int (xs (7 * k + 1)), .int (xs (7 * k + 2))]) C hPc hPm ha hd hS (by omega) (e5 rfl) rfl (K_X5_about l E ad n hI hn7 _ N (xs (7 * k + 1)) (xs (7 * k + 2)) A r h1) (cV 2 C.1 w_co_yX5_about w_in_X5 w_ml_L_89 w_im_yX5_about w_se_yX5_about hd_X5_about ⟨Nat.le_of_ble_eq_true rfl, Nat.le_of_ble_eq_true rfl⟩) hl.1 rfl rfl (Nat.le_of_ble_eq_true rfl) dL_law_781 ⟨Nat.le_trans (cf_le n) (by decide), Nat.le_trans (sf_le n) (by decide)⟩ (fun H locs hPc hPm hS => ?_)
  refine lv_aload_n C.1.1 C.1.2.1 dL_law_784 rfl (lv_at hl 2 rfl) ?_
  refine z_argc C hS hl 1 (by omega) rfl (by decide) dL_law_785 dL_law_786 dL_law_787 dL_law_788 dL_law_789 ?_
  refine z_argc C hS hl 2 (by omega) rfl (by decide) dL_law_790 dL_law_791 dL_law_792 dL_law_793 dL_law_794 ?_
  refine z_call (As := [.int (xs (7 * k + 1)), .int (xs (7 * k + 2))]) C hPm hPc hm (fun c1 c2 q1 q2 q3 => hd c2 c1 q2 q1 q3.symm) hS (by omega) m0 rfl (K_X6_about l E am hIm _ N (xs (7 * k + 1)) (xs (7 * k + 2)) B r h2) (cV 2 C.1 w_co_yX6_about w_in_X6 w_ml_L_92 w_im_yX6_about w_se_yX6_about hd_X6_about ⟨Nat.le_of_ble_eq_true rfl, Nat.le_of_ble_eq_true rfl⟩) hl.1 rfl rfl (Nat.le_of_ble_eq_true rfl) dL_law_795 ⟨Nat.le_trans (cf_le n) (by decide), Nat.le_trans (sf_le n) (by decide)⟩ (fun H locs hPm hPc hS => ?_)
  refine ll_eq (tgt := 856) C.1 dL_law_798 dL_law_799 (by decide) (fun _ => ?_) (fun q9 => absurd rfl q9)
  exact kk n A B ad H locs ⟨hI, hIm, ha, hm, hd, hPc, hPm, hS⟩ hR2 rfl
set_option maxHeartbeats 4000000 in
set_option maxRecDepth 100000 in
theorem lc_told {p : Program} (l : Launch) {e : Env} {s : State} {m : MethodId} {below : List Frame} {meth : Method} {c : Code} {E : EE} {b L : Nat} {xs : Nat → Int32} {Rel : Nat → Nat → MM → MM → Prop} {N k n : Nat} {A B : MM} {ad am : Nat → Nat} {H : Heap} {locs : List Loc} {ls : Array Slot} {Q : State → Prop} (C : LC E p s m c b L xs) (hi : 7 * k + 7 ≤ L) (hk : k < 512) (hn : n = 117 ∨ n = 233) (I : LI E s n A B ad am H locs) (hR : Rel k n A B) (HS : Sim_told N Rel) (hl : lv_has ls 4 [(0, .ref b), (1, .ref (ad 0)), (2, .ref (am 0)), (3, .int (nI (7 * k)))]) (kk : ∀ (n' : Nat) (A' B' : MM) (ad' : Nat → Nat) (H : Heap) (locs : List Loc), LI E s n' A' B' ad' am H locs → Rel (k + 1) n' A' B' → ad' 0 = ad 0 → W p l e room_1 s m #[Value.ref b] below meth c H locs (cf n') (sf n') Q (F0 m 856 ls [])) : W p l e room_1 s m #[Value.ref b] below meth c H locs (cf n) (sf n) Q (F0 m 804 ls []) := by
  obtain ⟨hI, hIm, ha, hm, hd, hPc, hPm, hS⟩ := I
  have hn7 : 117 ≤ n := by omega
  obtain ⟨r, h1, h2, hR2⟩ := HS k n A B hk hR (xs (7 * k + 1))
  refine lv_aload_n C.1.1 C.1.2.1 dL_law_804 rfl (lv_at hl 1 rfl) ?_
  refine z_argc C hS hl 1 (by omega) rfl (by decide) dL_law_805 dL_law_806 dL_law_807 dL_law_808 dL_law_809 ?_
  refine z_call (As := [.int (xs (7 * k + 1))]) C hPc hPm ha hd hS (by omega) (e5 rfl) rfl (K_X5_told l E ad n hI hn7 _ N (xs (7 * k + 1)) A r h1) (cV 1 C.1 w_co_yX5_told w_in_X5 w_ml_L_93 w_im_yX5_told w_se_yX5_told hd_X5_told ⟨Nat.le_of_ble_eq_true rfl, Nat.le_of_ble_eq_true rfl⟩) hl.1 rfl rfl (Nat.le_of_ble_eq_true rfl) dL_law_810 ⟨Nat.le_trans (cf_le n) (by decide), Nat.le_trans (sf_le n) (by decide)⟩ (fun H locs hPc hPm hS => ?_)
  refine lv_aload_n C.1.1 C.1.2.1 dL_law_813 rfl (lv_at hl 2 rfl) ?_
  refine z_argc C hS hl 1 (by omega) rfl (by decide) dL_law_814 dL_law_815 dL_law_816 dL_law_817 dL_law_818 ?_
  refine z_call (As := [.int (xs (7 * k + 1))]) C hPm hPc hm (fun c1 c2 q1 q2 q3 => hd c2 c1 q2 q1 q3.symm) hS (by omega) m0 rfl (K_X6_told l E am hIm _ N (xs (7 * k + 1)) B r h2) (cV 1 C.1 w_co_yX6_told w_in_X6 w_ml_L_96 w_im_yX6_told w_se_yX6_told hd_X6_told ⟨Nat.le_of_ble_eq_true rfl, Nat.le_of_ble_eq_true rfl⟩) hl.1 rfl rfl (Nat.le_of_ble_eq_true rfl) dL_law_819 ⟨Nat.le_trans (cf_le n) (by decide), Nat.le_trans (sf_le n) (by decide)⟩ (fun H locs hPm hPc hS => ?_)
  refine ll_eq (tgt := 856) C.1 dL_law_822 dL_law_823 (by decide) (fun _ => ?_) (fun q9 => absurd rfl q9)
  exact kk n A B ad H locs ⟨hI, hIm, ha, hm, hd, hPc, hPm, hS⟩ hR2 rfl
set_option maxHeartbeats 4000000 in
set_option maxRecDepth 100000 in
theorem lc_keep {p : Program} (l : Launch) {e : Env} {s : State} {m : MethodId} {below : List Frame} {meth : Method} {c : Code} {E : EE} {b L : Nat} {xs : Nat → Int32} {Rel : Nat → Nat → MM → MM → Prop} {N k n : Nat} {A B : MM} {ad am : Nat → Nat} {H : Heap} {locs : List Loc} {ls : Array Slot} {Q : State → Prop} (C : LC E p s m c b L xs) (hi : 7 * k + 7 ≤ L) (hk : k < 512) (hn : n = 117 ∨ n = 233) (I : LI E s n A B ad am H locs) (hR : Rel k n A B) (HS : Sim_keep N Rel) (hl : lv_has ls 4 [(0, .ref b), (1, .ref (ad 0)), (2, .ref (am 0)), (3, .int (nI (7 * k)))]) (kk : ∀ (n' : Nat) (A' B' : MM) (ad' : Nat → Nat) (H : Heap) (locs : List Loc), LI E s n' A' B' ad' am H locs → Rel (k + 1) n' A' B' → ad' 0 = ad 0 → W p l e room_1 s m #[Value.ref b] below meth c H locs (cf n') (sf n') Q (F0 m 856 ls [])) : W p l e room_1 s m #[Value.ref b] below meth c H locs (cf n) (sf n) Q (F0 m 828 ls []) := by
  obtain ⟨hI, hIm, ha, hm, hd, hPc, hPm, hS⟩ := I
  refine lv_aload_n C.1.1 C.1.2.1 dL_law_828 rfl (lv_at hl 1 rfl) ?_
  rcases hn with rfl | rfl
  · obtain ⟨A', B', h1, h2, hR2⟩ := (HS k 117 A B hk hR).1 rfl
    have hAA : ∀ q, AA ad 117 H.size q → s.heap.size ≤ q := by
      rintro q (⟨c, hc, rfl⟩ | h)
      · exact ha c hc
      · exact Nat.le_trans hS.1 h
    have hsH := hS.1
    have hK := C.2.1
    have hN := C.2.2.1
    have hO := C.2.2.2.1
    refine va_calll (va_runV (As := []) (rest := []) C.1 (K_keep1 l E ad hI H.size N A A' h1) ⟨callB_of 0 C.1.2.2.2.2 (bg_ok w_co_yX5_keep) rfl rfl rfl (C.1.2.2.2.2 _ w_in_X5) (C.1.2.2.2.2 _ w_ml_L_97) hd_X5_keep ⟨Nat.le_of_ble_eq_true rfl, Nat.le_of_ble_eq_true rfl⟩, C.1.2.2.2.2 _ w_im_yX5_keep, C.1.2.2.2.2 _ w_se_yX5_keep⟩ ⟨fun a U g2 mk q9 => by obtain ⟨q0, ⟨q1, qP, qK, qN⟩, qO⟩ := q9; exact ⟨q0, ⟨q1, qP, va_K.moved (u := U) (U := U.calling g2 mk a) (Vm.Alike.refl U.vm) qK, NW.same (s := U) (U := U.calling g2 mk a) rfl qN⟩, AO3.moved (u := U) (U := U.calling g2 mk a) (Vm.Alike.refl U.vm) qO⟩, va_recv hK hPc (ci := 5) (q0 := 0) rfl (mw_at (by decide) (e5 rfl)), fun U hU hW => ⟨rfl, ⟨by rw [hU], by rw [hU]; exact hPc, va_K.moved hW.alike hK, NW.warm hW hN⟩, AO3.moved hW.alike hO⟩⟩ rfl rfl hl.1 rfl (lv_room (Nat.le_of_ble_eq_true rfl)) dL_law_829 ⟨by decide, by decide⟩) hS (fun q _ h => hAA q h) hAA (fun r0 ad2 t H1 locs ht _ hr hB _ hk1 hS => ?_)
    obtain ⟨rfl, a0, hI2, a2⟩ := hr
    have hPm : va_P E.1 vwCl (mw (entM E am B) am 7) H1 := hPm.kept (fun j q hj => by
      obtain ⟨hj1, rfl⟩ := mw_get hj
      refine hk1 (am j) (hPm j _ hj).lt ?_
      rintro (⟨c, hc, h⟩ | h)
      · exact hd c j hc hj1 h.symm
      · exact absurd (hPm j _ hj).lt (by show ¬ am j < H.size; omega))
    have hPc : va_P E.1 vwCl (mw (entC E ad2 233 A') ad2 233) H1 := by subst ht; exact hB
    have ha2 : ∀ c, c < 233 → s.heap.size ≤ ad2 c := fun c hc => by
      by_cases h : c < 117
      · rw [a0 c h]; exact ha c h
      · exact Nat.le_trans hsH (a2 c (by omega) hc)
    have hmlt : ∀ c, c < 7 → am c < H.size := fun c hc => P_lt (by assumption) c _ (mw_at hc rfl)
    have hd : ∀ c c', c < 233 → c' < 7 → ad2 c ≠ am c' := fun c c' hc hc' h => by
      by_cases h9 : c < 117
      · rw [a0 c h9] at h
        exact hd c c' h9 hc' h
      · have q1 := a2 c (by omega) hc
        have q2 := hmlt c' hc'
        omega
    refine W.widen (k := cf 233) (n := sf 233) (by decide) (by decide) ?_
    refine lv_aload_n C.1.1 C.1.2.1 dL_law_832 rfl (lv_at hl 2 rfl) ?_
    refine z_call (As := []) C hPm hPc hm (fun c1 c2 q1 q2 q3 => hd c2 c1 q2 q1 q3.symm) hS (by omega) m0 rfl (K_X6_keep l E am hIm _ N B 1 B' h2) (cV 0 C.1 w_co_yX6_keep w_in_X6 w_ml_L_101 w_im_yX6_keep w_se_yX6_keep hd_X6_keep ⟨Nat.le_of_ble_eq_true rfl, Nat.le_of_ble_eq_true rfl⟩) hl.1 rfl rfl (Nat.le_of_ble_eq_true rfl) dL_law_833 ⟨by decide, by decide⟩ (fun H locs hPm hPc hS => ?_)
    refine ll_eq (tgt := 856) C.1 dL_law_836 dL_law_837 (by decide) (fun _ => ?_) (fun q9 => absurd rfl q9)
    exact kk 233 A' B' ad2 H locs ⟨hI2, hIm, ha2, hm, hd, hPc, hPm, hS⟩ hR2 (a0 0 (by decide))
  · obtain ⟨A', B', h1, h2, hR2⟩ := (HS k 233 A B hk hR).2 rfl
    refine z_call (As := []) C hPc hPm ha hd hS (by omega) (e5 rfl) rfl (K_keep2 l E ad hI _ N A A' h1) (cV 0 C.1 w_co_yX5_keep w_in_X5 w_ml_L_97 w_im_yX5_keep w_se_yX5_keep hd_X5_keep ⟨Nat.le_of_ble_eq_true rfl, Nat.le_of_ble_eq_true rfl⟩) hl.1 rfl rfl (Nat.le_of_ble_eq_true rfl) dL_law_829 ⟨by decide, by decide⟩ (fun H locs hPc hPm hS => ?_)
    refine lv_aload_n C.1.1 C.1.2.1 dL_law_832 rfl (lv_at hl 2 rfl) ?_
    refine z_call (As := []) C hPm hPc hm (fun c1 c2 q1 q2 q3 => hd c2 c1 q2 q1 q3.symm) hS (by omega) m0 rfl (K_X6_keep l E am hIm _ N B 1 B' h2) (cV 0 C.1 w_co_yX6_keep w_in_X6 w_ml_L_101 w_im_yX6_keep w_se_yX6_keep hd_X6_keep ⟨Nat.le_of_ble_eq_true rfl, Nat.le_of_ble_eq_true rfl⟩) hl.1 rfl rfl (Nat.le_of_ble_eq_true rfl) dL_law_833 ⟨by decide, by decide⟩ (fun H locs hPm hPc hS => ?_)
    refine ll_eq (tgt := 856) C.1 dL_law_836 dL_law_837 (by decide) (fun _ => ?_) (fun q9 => absurd rfl q9)
    exact kk 233 A' B' ad H locs ⟨hI, hIm, ha, hm, hd, hPc, hPm, hS⟩ hR2 rfl
set_option maxHeartbeats 4000000 in
set_option maxRecDepth 100000 in
theorem lc_back {p : Program} (l : Launch) {e : Env} {s : State} {m : MethodId} {below : List Frame} {meth : Method} {c : Code} {E : EE} {b L : Nat} {xs : Nat → Int32} {Rel : Nat → Nat → MM → MM → Prop} {N k n : Nat} {A B : MM} {ad am : Nat → Nat} {H : Heap} {locs : List Loc} {ls : Array Slot} {Q : State → Prop} (C : LC E p s m c b L xs) (hi : 7 * k + 7 ≤ L) (hk : k < 512) (hn : n = 117 ∨ n = 233) (I : LI E s n A B ad am H locs) (hR : Rel k n A B) (HS : Sim_back N Rel) (hl : lv_has ls 4 [(0, .ref b), (1, .ref (ad 0)), (2, .ref (am 0)), (3, .int (nI (7 * k)))]) (kk : ∀ (n' : Nat) (A' B' : MM) (ad' : Nat → Nat) (H : Heap) (locs : List Loc), LI E s n' A' B' ad' am H locs → Rel (k + 1) n' A' B' → ad' 0 = ad 0 → W p l e room_1 s m #[Value.ref b] below meth c H locs (cf n') (sf n') Q (F0 m 856 ls [])) : W p l e room_1 s m #[Value.ref b] below meth c H locs (cf n) (sf n) Q (F0 m 842 ls []) := by
  obtain ⟨hI, hIm, ha, hm, hd, hPc, hPm, hS⟩ := I
  refine lv_aload_n C.1.1 C.1.2.1 dL_law_842 rfl (lv_at hl 1 rfl) ?_
  rcases hn with rfl | rfl
  · obtain ⟨B', h2, hR2⟩ := (HS k 117 A B hk hR).1 rfl
    refine z_call (As := []) C hPc hPm ha hd hS (by omega) (e5 rfl) rfl (K_back1 l E ad hI _ A) (cV 0 C.1 w_co_yX5_back w_in_X5 w_ml_L_102 w_im_yX5_back w_se_yX5_back hd_X5_back ⟨Nat.le_of_ble_eq_true rfl, Nat.le_of_ble_eq_true rfl⟩) hl.1 rfl rfl (Nat.le_of_ble_eq_true rfl) dL_law_843 ⟨by decide, by decide⟩ (fun H locs hPc hPm hS => ?_)
    refine lv_aload_n C.1.1 C.1.2.1 dL_law_846 rfl (lv_at hl 2 rfl) ?_
    refine z_call (As := []) C hPm hPc hm (fun c1 c2 q1 q2 q3 => hd c2 c1 q2 q1 q3.symm) hS (by omega) m0 rfl (K_X6_back l E am hIm _ N B (-1000000000000000) B' h2) (cV 0 C.1 w_co_yX6_back w_in_X6 w_ml_L_105 w_im_yX6_back w_se_yX6_back hd_X6_back ⟨Nat.le_of_ble_eq_true rfl, Nat.le_of_ble_eq_true rfl⟩) hl.1 rfl rfl (Nat.le_of_ble_eq_true rfl) dL_law_847 ⟨by decide, by decide⟩ (fun H locs hPm hPc hS => ?_)
    refine ll_eq (tgt := 856) C.1 dL_law_850 dL_law_851 (by decide) (fun _ => ?_) (fun q9 => absurd rfl q9)
    exact kk 117 A B' ad H locs ⟨hI, hIm, ha, hm, hd, hPc, hPm, hS⟩ hR2 rfl
  · obtain ⟨A', B', h1, h2, hR2⟩ := (HS k 233 A B hk hR).2 rfl
    refine z_call (As := []) C hPc hPm ha hd hS (by omega) (e5 rfl) rfl (K_back2 l E ad hI _ N A A' h1) (cV 0 C.1 w_co_yX5_back w_in_X5 w_ml_L_102 w_im_yX5_back w_se_yX5_back hd_X5_back ⟨Nat.le_of_ble_eq_true rfl, Nat.le_of_ble_eq_true rfl⟩) hl.1 rfl rfl (Nat.le_of_ble_eq_true rfl) dL_law_843 ⟨by decide, by decide⟩ (fun H locs hPc hPm hS => ?_)
    refine lv_aload_n C.1.1 C.1.2.1 dL_law_846 rfl (lv_at hl 2 rfl) ?_
    refine z_call (As := []) C hPm hPc hm (fun c1 c2 q1 q2 q3 => hd c2 c1 q2 q1 q3.symm) hS (by omega) m0 rfl (K_X6_back l E am hIm _ N B 1 B' h2) (cV 0 C.1 w_co_yX6_back w_in_X6 w_ml_L_105 w_im_yX6_back w_se_yX6_back hd_X6_back ⟨Nat.le_of_ble_eq_true rfl, Nat.le_of_ble_eq_true rfl⟩) hl.1 rfl rfl (Nat.le_of_ble_eq_true rfl) dL_law_847 ⟨by decide, by decide⟩ (fun H locs hPm hPc hS => ?_)
    refine ll_eq (tgt := 856) C.1 dL_law_850 dL_law_851 (by decide) (fun _ => ?_) (fun q9 => absurd rfl q9)
    exact kk 233 A' B' ad H locs ⟨hI, hIm, ha, hm, hd, hPc, hPm, hS⟩ hR2 rfl

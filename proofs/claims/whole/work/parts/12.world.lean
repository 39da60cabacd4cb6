def fsX0 (ad : Nat → Nat) (M : MM) (c : Nat) : List Value := [.ref (ad (c + 1)), .ref (ad (c + 3)), .ref (ad (c + 4)), .ref (ad (c + 5)), .int (gI M c 4), .int (gI M c 5), .int (gI M c 6), .int (gI M c 7), .int (gI M c 8), .int (gI M c 9), .long (gL M c 10), .long (gL M c 11), .long (gL M c 12)]
def fsX1 (ad : Nat → Nat) (M : MM) (c : Nat) : List Value := [.int (gI M c 0), .long (gL M c 1), .long (gL M c 2), .int (gI M c 3), .int (bo (gI M c 4)), .int (bo (gI M c 5)), .int (gI M c 6)]
def fsX2 (ad : Nat → Nat) (M : MM) (c : Nat) : List Value := [.int (gI M c 0), .int (gI M c 1), .int (gI M c 2), .long (gL M c 3), .long (gL M c 4), .long (gL M c 5)]
def fsX3 (ad : Nat → Nat) (M : MM) (c : Nat) : List Value := [.int (gI M c 0), .int (gI M c 1), .int (gI M c 2), .int (gI M c 3), .int (gI M c 4), .int (gI M c 5), .long (gL M c 6), .long (gL M c 7), .int (gI M c 8), .int (gI M c 9), .int (gI M c 10), .long (gL M c 11), .int (gI M c 12), .int (bo (gI M c 13)), .int (gI M c 14), .ref (ad (c + 40))]
def fsX4 (ad : Nat → Nat) (M : MM) (c : Nat) : List Value := [.ref (ad (c + 1))]
def fsX5 (ad : Nat → Nat) (n : Nat) : List Value := [.ref (ad 1), if n ≤ 117 then .null else .ref (ad 117)]
def kd (c : Nat) : Nat := if c = 0 then 5 else if (c - 1) % 116 = 0 then 0 else if (c - 1) % 116 = 1 then 4 else if (c - 1) % 116 = 2 then 7 else if (c - 1) % 116 = 3 then 9 else if (c - 1) % 116 = 4 then 10 else if (c - 1) % 116 = 5 then 11 else if (c - 1) % 116 < 30 then 1 else if (c - 1) % 116 < 36 then 2 else if (c - 1) % 116 < 76 then 3 else 8
def entC (E : EE) (ad : Nat → Nat) (n : Nat) (M : MM) (c : Nat) : va_E :=
  if kd c = 0 then .inr (0, fsX0 ad M c) else if kd c = 1 then .inr (1, fsX1 ad M c) else if kd c = 2 then .inr (2, fsX2 ad M c) else if kd c = 3 then .inr (3, fsX3 ad M c) else if kd c = 4 then .inr (4, fsX4 ad M c) else if kd c = 5 then .inr (5, fsX5 ad n)
  else if kd c = 7 then .inl (E.2 0, 111, .inl (gI M c)) else if kd c = 8 then .inl (E.2 1, 60, .inr (.inl (gL M c)))
  else if kd c = 9 then .inl (E.2 2, 24, .inr (.inr (.inr (.inr (fun i => some (ad (c + 3 + i)))))))
  else if kd c = 10 then .inl (E.2 3, 6, .inr (.inr (.inr (.inr (fun i => some (ad (c + 26 + i)))))))
  else .inl (E.2 4, 40, .inr (.inr (.inr (.inr (fun i => some (ad (c + 31 + i)))))))
section EntC
variable {E : EE} {ad : Nat → Nat} {n : Nat} {M : MM} {c : Nat}
theorem e0 (h : kd c = 0) : entC E ad n M c = .inr (0, fsX0 ad M c) := by simp [entC, h]
theorem e1 (h : kd c = 1) : entC E ad n M c = .inr (1, fsX1 ad M c) := by simp [entC, h]
theorem e2 (h : kd c = 2) : entC E ad n M c = .inr (2, fsX2 ad M c) := by simp [entC, h]
theorem e3 (h : kd c = 3) : entC E ad n M c = .inr (3, fsX3 ad M c) := by simp [entC, h]
theorem e4 (h : kd c = 4) : entC E ad n M c = .inr (4, fsX4 ad M c) := by simp [entC, h]
theorem e5 (h : kd c = 5) : entC E ad n M c = .inr (5, fsX5 ad n) := by simp [entC, h]
theorem e7 (h : kd c = 7) : entC E ad n M c = .inl (E.2 0, 111, .inl (gI M c)) := by simp [entC, h]
theorem e8 (h : kd c = 8) : entC E ad n M c = .inl (E.2 1, 60, .inr (.inl (gL M c))) := by simp [entC, h]
theorem e9 (h : kd c = 9) : entC E ad n M c = .inl (E.2 2, 24, .inr (.inr (.inr (.inr (fun i => some (ad (c + 3 + i))))))) := by simp [entC, h]
theorem e10 (h : kd c = 10) : entC E ad n M c = .inl (E.2 3, 6, .inr (.inr (.inr (.inr (fun i => some (ad (c + 26 + i))))))) := by simp [entC, h]
theorem e11 (h : kd c = 11) : entC E ad n M c = .inl (E.2 4, 40, .inr (.inr (.inr (.inr (fun i => some (ad (c + 31 + i))))))) := by simp [entC, h]
theorem e9_1 : entC E ad n M 4 = .inl (E.2 2, 24, .inr (.inr (.inr (.inr (fun i => some (ad (7 + i))))))) := e9 rfl
theorem e10_1 : entC E ad n M 5 = .inl (E.2 3, 6, .inr (.inr (.inr (.inr (fun i => some (ad (31 + i))))))) := e10 rfl
theorem e11_1 : entC E ad n M 6 = .inl (E.2 4, 40, .inr (.inr (.inr (.inr (fun i => some (ad (37 + i))))))) := e11 rfl
theorem gI_ne {k : Nat} {v : Int32} {c' : Nat} (h : c' ≠ c) : gI (sI M c k v) c' = gI M c' := by funext j; simp [gI, sI, h]
theorem gL_ne {k : Nat} {v : Int64} {c' : Nat} (h : c' ≠ c) : gL (sL M c k v) c' = gL M c' := by funext j; simp [gL, sL, h]
theorem gL_sI {k : Nat} {v : Int32} : gL (sI M c k v) = gL M := rfl
theorem gI_sL {k : Nat} {v : Int64} : gI (sL M c k v) = gI M := rfl
theorem gI_upd {k : Nat} {v : Int32} : gI (sI M c k v) c = upd (gI M c) k v := by funext j; simp [gI, sI, upd]
theorem gL_upd {k : Nat} {v : Int64} : gL (sL M c k v) c = vp_updL (gL M c) k v := by funext j; simp [gL, sL, vp_updL]
theorem entC_sI {k : Nat} {v : Int32} (c' : Nat) (h : c' ≠ c) : entC E ad n (sI M c k v) c' = entC E ad n M c' := by
  simp only [entC, fsX0, fsX1, fsX2, fsX3, fsX4, gI_ne h, gL_sI]
theorem entC_sL {k : Nat} {v : Int64} (c' : Nat) (h : c' ≠ c) : entC E ad n (sL M c k v) c' = entC E ad n M c' := by
  simp only [entC, fsX0, fsX1, fsX2, fsX3, fsX4, gL_ne h, gI_sL]
theorem h1_X0_4 {v : Int32} (h : kd c = 0) : entC E ad n (sI M c 4 v) c = .inr (0, (fsX0 ad M c).set 4 (.int v)) := by rw [e0 h]; simp [fsX0, gI, gL, sI]
theorem h1_X0_5 {v : Int32} (h : kd c = 0) : entC E ad n (sI M c 5 v) c = .inr (0, (fsX0 ad M c).set 5 (.int v)) := by rw [e0 h]; simp [fsX0, gI, gL, sI]
theorem h1_X0_6 {v : Int32} (h : kd c = 0) : entC E ad n (sI M c 6 v) c = .inr (0, (fsX0 ad M c).set 6 (.int v)) := by rw [e0 h]; simp [fsX0, gI, gL, sI]
theorem h1_X0_7 {v : Int32} (h : kd c = 0) : entC E ad n (sI M c 7 v) c = .inr (0, (fsX0 ad M c).set 7 (.int v)) := by rw [e0 h]; simp [fsX0, gI, gL, sI]
theorem h1_X0_8 {v : Int32} (h : kd c = 0) : entC E ad n (sI M c 8 v) c = .inr (0, (fsX0 ad M c).set 8 (.int v)) := by rw [e0 h]; simp [fsX0, gI, gL, sI]
theorem h1_X0_9 {v : Int32} (h : kd c = 0) : entC E ad n (sI M c 9 v) c = .inr (0, (fsX0 ad M c).set 9 (.int v)) := by rw [e0 h]; simp [fsX0, gI, gL, sI]
theorem h1_X0_10 {v : Int64} (h : kd c = 0) : entC E ad n (sL M c 10 v) c = .inr (0, (fsX0 ad M c).set 10 (.long v)) := by rw [e0 h]; simp [fsX0, gI, gL, sL]
theorem h1_X0_11 {v : Int64} (h : kd c = 0) : entC E ad n (sL M c 11 v) c = .inr (0, (fsX0 ad M c).set 11 (.long v)) := by rw [e0 h]; simp [fsX0, gI, gL, sL]
theorem h1_X0_12 {v : Int64} (h : kd c = 0) : entC E ad n (sL M c 12 v) c = .inr (0, (fsX0 ad M c).set 12 (.long v)) := by rw [e0 h]; simp [fsX0, gI, gL, sL]
theorem h1_X1_0 {v : Int32} (h : kd c = 1) : entC E ad n (sI M c 0 v) c = .inr (1, (fsX1 ad M c).set 0 (.int v)) := by rw [e1 h]; simp [fsX1, gI, gL, sI]
theorem h1_X1_1 {v : Int64} (h : kd c = 1) : entC E ad n (sL M c 1 v) c = .inr (1, (fsX1 ad M c).set 1 (.long v)) := by rw [e1 h]; simp [fsX1, gI, gL, sL]
theorem h1_X1_2 {v : Int64} (h : kd c = 1) : entC E ad n (sL M c 2 v) c = .inr (1, (fsX1 ad M c).set 2 (.long v)) := by rw [e1 h]; simp [fsX1, gI, gL, sL]
theorem h1_X1_3 {v : Int32} (h : kd c = 1) : entC E ad n (sI M c 3 v) c = .inr (1, (fsX1 ad M c).set 3 (.int v)) := by rw [e1 h]; simp [fsX1, gI, gL, sI]
theorem h1_X1_4 {v : Int32} (h : kd c = 1) (hv : bo v = v) : entC E ad n (sI M c 4 v) c = .inr (1, (fsX1 ad M c).set 4 (.int v)) := by rw [e1 h]; simp [fsX1, gI, gL, sI, hv]
theorem h1_X1_5 {v : Int32} (h : kd c = 1) (hv : bo v = v) : entC E ad n (sI M c 5 v) c = .inr (1, (fsX1 ad M c).set 5 (.int v)) := by rw [e1 h]; simp [fsX1, gI, gL, sI, hv]
theorem h1_X1_6 {v : Int32} (h : kd c = 1) : entC E ad n (sI M c 6 v) c = .inr (1, (fsX1 ad M c).set 6 (.int v)) := by rw [e1 h]; simp [fsX1, gI, gL, sI]
theorem h1_X2_0 {v : Int32} (h : kd c = 2) : entC E ad n (sI M c 0 v) c = .inr (2, (fsX2 ad M c).set 0 (.int v)) := by rw [e2 h]; simp [fsX2, gI, gL, sI]
theorem h1_X2_1 {v : Int32} (h : kd c = 2) : entC E ad n (sI M c 1 v) c = .inr (2, (fsX2 ad M c).set 1 (.int v)) := by rw [e2 h]; simp [fsX2, gI, gL, sI]
theorem h1_X2_2 {v : Int32} (h : kd c = 2) : entC E ad n (sI M c 2 v) c = .inr (2, (fsX2 ad M c).set 2 (.int v)) := by rw [e2 h]; simp [fsX2, gI, gL, sI]
theorem h1_X2_3 {v : Int64} (h : kd c = 2) : entC E ad n (sL M c 3 v) c = .inr (2, (fsX2 ad M c).set 3 (.long v)) := by rw [e2 h]; simp [fsX2, gI, gL, sL]
theorem h1_X2_4 {v : Int64} (h : kd c = 2) : entC E ad n (sL M c 4 v) c = .inr (2, (fsX2 ad M c).set 4 (.long v)) := by rw [e2 h]; simp [fsX2, gI, gL, sL]
theorem h1_X2_5 {v : Int64} (h : kd c = 2) : entC E ad n (sL M c 5 v) c = .inr (2, (fsX2 ad M c).set 5 (.long v)) := by rw [e2 h]; simp [fsX2, gI, gL, sL]
theorem h1_X3_0 {v : Int32} (h : kd c = 3) : entC E ad n (sI M c 0 v) c = .inr (3, (fsX3 ad M c).set 0 (.int v)) := by rw [e3 h]; simp [fsX3, gI, gL, sI]
theorem h1_X3_1 {v : Int32} (h : kd c = 3) : entC E ad n (sI M c 1 v) c = .inr (3, (fsX3 ad M c).set 1 (.int v)) := by rw [e3 h]; simp [fsX3, gI, gL, sI]
theorem h1_X3_2 {v : Int32} (h : kd c = 3) : entC E ad n (sI M c 2 v) c = .inr (3, (fsX3 ad M c).set 2 (.int v)) := by rw [e3 h]; simp [fsX3, gI, gL, sI]
theorem h1_X3_3 {v : Int32} (h : kd c = 3) : entC E ad n (sI M c 3 v) c = .inr (3, (fsX3 ad M c).set 3 (.int v)) := by rw [e3 h]; simp [fsX3, gI, gL, sI]
theorem h1_X3_4 {v : Int32} (h : kd c = 3) : entC E ad n (sI M c 4 v) c = .inr (3, (fsX3 ad M c).set 4 (.int v)) := by rw [e3 h]; simp [fsX3, gI, gL, sI]
theorem h1_X3_5 {v : Int32} (h : kd c = 3) : entC E ad n (sI M c 5 v) c = .inr (3, (fsX3 ad M c).set 5 (.int v)) := by rw [e3 h]; simp [fsX3, gI, gL, sI]
theorem h1_X3_6 {v : Int64} (h : kd c = 3) : entC E ad n (sL M c 6 v) c = .inr (3, (fsX3 ad M c).set 6 (.long v)) := by rw [e3 h]; simp [fsX3, gI, gL, sL]
theorem h1_X3_7 {v : Int64} (h : kd c = 3) : entC E ad n (sL M c 7 v) c = .inr (3, (fsX3 ad M c).set 7 (.long v)) := by rw [e3 h]; simp [fsX3, gI, gL, sL]
theorem h1_X3_8 {v : Int32} (h : kd c = 3) : entC E ad n (sI M c 8 v) c = .inr (3, (fsX3 ad M c).set 8 (.int v)) := by rw [e3 h]; simp [fsX3, gI, gL, sI]
theorem h1_X3_9 {v : Int32} (h : kd c = 3) : entC E ad n (sI M c 9 v) c = .inr (3, (fsX3 ad M c).set 9 (.int v)) := by rw [e3 h]; simp [fsX3, gI, gL, sI]
theorem h1_X3_10 {v : Int32} (h : kd c = 3) : entC E ad n (sI M c 10 v) c = .inr (3, (fsX3 ad M c).set 10 (.int v)) := by rw [e3 h]; simp [fsX3, gI, gL, sI]
theorem h1_X3_11 {v : Int64} (h : kd c = 3) : entC E ad n (sL M c 11 v) c = .inr (3, (fsX3 ad M c).set 11 (.long v)) := by rw [e3 h]; simp [fsX3, gI, gL, sL]
theorem h1_X3_12 {v : Int32} (h : kd c = 3) : entC E ad n (sI M c 12 v) c = .inr (3, (fsX3 ad M c).set 12 (.int v)) := by rw [e3 h]; simp [fsX3, gI, gL, sI]
theorem h1_X3_13 {v : Int32} (h : kd c = 3) (hv : bo v = v) : entC E ad n (sI M c 13 v) c = .inr (3, (fsX3 ad M c).set 13 (.int v)) := by rw [e3 h]; simp [fsX3, gI, gL, sI, hv]
theorem h1_X3_14 {v : Int32} (h : kd c = 3) : entC E ad n (sI M c 14 v) c = .inr (3, (fsX3 ad M c).set 14 (.int v)) := by rw [e3 h]; simp [fsX3, gI, gL, sI]
theorem h1_7 {v : Int32} {k : Nat} (h : kd c = 7) : entC E ad n (sI M c k v) c = .inl (E.2 0, 111, .inl (upd (gI M c) k v)) := by rw [e7 h, gI_upd]
theorem h1_8 {v : Int64} {k : Nat} (h : kd c = 8) : entC E ad n (sL M c k v) c = .inl (E.2 1, 60, .inr (.inl (vp_updL (gL M c) k v))) := by rw [e8 h, gL_upd]
end EntC
def ext (k : Nat) : Nat := if k = 3 then 40 else if k = 0 then 115 else if k = 4 then 1 else if k = 9 then 26 else if k = 10 then 31 else if k = 11 then 110 else 0
def ok (k n c : Nat) : Prop := kd c = k ∧ c + ext k < n
theorem ok_lt {k n c : Nat} (h : ok k n c) : c < n := Nat.lt_of_le_of_lt (Nat.le_add_right _ _) h.2
theorem kd_0 {c : Nat} : kd c = 0 ↔ c ≠ 0 ∧ (c - 1) % 116 = 0 := by
  unfold kd
  repeat' split
  all_goals omega
theorem kd_4 {c : Nat} : kd c = 4 ↔ c ≠ 0 ∧ (c - 1) % 116 = 1 := by
  unfold kd
  repeat' split
  all_goals omega
theorem kd_7 {c : Nat} : kd c = 7 ↔ c ≠ 0 ∧ (c - 1) % 116 = 2 := by
  unfold kd
  repeat' split
  all_goals omega
theorem kd_9 {c : Nat} : kd c = 9 ↔ c ≠ 0 ∧ (c - 1) % 116 = 3 := by
  unfold kd
  repeat' split
  all_goals omega
theorem kd_10 {c : Nat} : kd c = 10 ↔ c ≠ 0 ∧ (c - 1) % 116 = 4 := by
  unfold kd
  repeat' split
  all_goals omega
theorem kd_11 {c : Nat} : kd c = 11 ↔ c ≠ 0 ∧ (c - 1) % 116 = 5 := by
  unfold kd
  repeat' split
  all_goals omega
theorem kd_1 {c : Nat} : kd c = 1 ↔ c ≠ 0 ∧ 6 ≤ (c - 1) % 116 ∧ (c - 1) % 116 < 30 := by
  unfold kd
  repeat' split
  all_goals omega
theorem kd_2 {c : Nat} : kd c = 2 ↔ c ≠ 0 ∧ 30 ≤ (c - 1) % 116 ∧ (c - 1) % 116 < 36 := by
  unfold kd
  repeat' split
  all_goals omega
theorem kd_3 {c : Nat} : kd c = 3 ↔ c ≠ 0 ∧ 36 ≤ (c - 1) % 116 ∧ (c - 1) % 116 < 76 := by
  unfold kd
  repeat' split
  all_goals omega
theorem kd_8 {c : Nat} : kd c = 8 ↔ c ≠ 0 ∧ 76 ≤ (c - 1) % 116 := by
  unfold kd
  repeat' split
  all_goals omega
theorem ok_tab {n c : Nat} (h : ok 0 n c) : ok 4 n (c + 1) := by
  obtain ⟨h1, h2⟩ := h
  have h3 := kd_0.mp h1
  refine ⟨kd_4.mpr ?_, ?_⟩
  · omega
  · have h4 : c + 115 < n := h2
    show c + 1 + 1 < n
    omega
theorem ok_ma {n c : Nat} (h : ok 0 n c) : ok 9 n (c + 3) := by
  obtain ⟨h1, h2⟩ := h
  have h3 := kd_0.mp h1
  refine ⟨kd_9.mpr ?_, ?_⟩
  · omega
  · have h4 : c + 115 < n := h2
    show c + 3 + 26 < n
    omega
theorem ok_ra {n c : Nat} (h : ok 0 n c) : ok 10 n (c + 4) := by
  obtain ⟨h1, h2⟩ := h
  have h3 := kd_0.mp h1
  refine ⟨kd_10.mpr ?_, ?_⟩
  · omega
  · have h4 : c + 115 < n := h2
    show c + 4 + 31 < n
    omega
theorem ok_sa {n c : Nat} (h : ok 0 n c) : ok 11 n (c + 5) := by
  obtain ⟨h1, h2⟩ := h
  have h3 := kd_0.mp h1
  refine ⟨kd_11.mpr ?_, ?_⟩
  · omega
  · have h4 : c + 115 < n := h2
    show c + 5 + 110 < n
    omega
theorem ok_al {n c : Nat} (h : ok 4 n c) : ok 7 n (c + 1) := by
  obtain ⟨h1, h2⟩ := h
  have h3 := kd_4.mp h1
  refine ⟨kd_7.mpr ?_, ?_⟩
  · omega
  · have h4 : c + 1 < n := h2
    show c + 1 + 0 < n
    omega
theorem ok_dr {n c : Nat} (h : ok 3 n c) : ok 8 n (c + 40) := by
  obtain ⟨h1, h2⟩ := h
  have h3 := kd_3.mp h1
  refine ⟨kd_8.mpr ?_, ?_⟩
  · omega
  · have h4 : c + 40 < n := h2
    show c + 40 + 0 < n
    omega
theorem ok_mi {n c : Nat} {i : Nat} (h : ok 9 n c) (hi : i < 24) : ok 1 n (c + 3 + i) := by
  obtain ⟨h1, h2⟩ := h
  have h3 := kd_9.mp h1
  refine ⟨kd_1.mpr ?_, ?_⟩
  · omega
  · have h4 : c + 26 < n := h2
    show c + 3 + i + 0 < n
    omega
theorem ok_ri {n c : Nat} {i : Nat} (h : ok 10 n c) (hi : i < 6) : ok 2 n (c + 26 + i) := by
  obtain ⟨h1, h2⟩ := h
  have h3 := kd_10.mp h1
  refine ⟨kd_2.mpr ?_, ?_⟩
  · omega
  · have h4 : c + 31 < n := h2
    show c + 26 + i + 0 < n
    omega
theorem ok_si {n c : Nat} {i : Nat} (h : ok 11 n c) (hi : i < 40) : ok 3 n (c + 31 + i) := by
  obtain ⟨h1, h2⟩ := h
  have h3 := kd_11.mp h1
  refine ⟨kd_3.mpr ?_, ?_⟩
  · omega
  · have h4 : c + 110 < n := h2
    show c + 31 + i + 40 < n
    omega
theorem ok_b1 {n : Nat} (hn : 117 ≤ n) : ok 0 n 1 := ⟨rfl, show 1 + 115 < n by omega⟩
theorem ok_t1 {n : Nat} (hn : 117 ≤ n) : ok 4 n 2 := ok_tab (ok_b1 hn)
theorem ok_a1 {n : Nat} (hn : 117 ≤ n) : ok 7 n 3 := ok_al (ok_t1 hn)
theorem ok_ma1 {n : Nat} (hn : 117 ≤ n) : ok 9 n 4 := ok_ma (ok_b1 hn)
theorem ok_ra1 {n : Nat} (hn : 117 ≤ n) : ok 10 n 5 := ok_ra (ok_b1 hn)
theorem ok_sa1 {n : Nat} (hn : 117 ≤ n) : ok 11 n 6 := ok_sa (ok_b1 hn)
theorem ok_m1 {n i : Nat} (hn : 117 ≤ n) (hi : i < 24) : ok 1 n (7 + i) := ok_mi (ok_ma1 hn) hi
theorem ok_r1 {n i : Nat} (hn : 117 ≤ n) (hi : i < 6) : ok 2 n (31 + i) := ok_ri (ok_ra1 hn) hi
theorem ok_s1 {n i : Nat} (hn : 117 ≤ n) (hi : i < 40) : ok 3 n (37 + i) := ok_si (ok_sa1 hn) hi
theorem ok_p {n : Nat} (hn : 117 ≤ n) : ok 5 n 0 := ⟨rfl, show 0 + 0 < n by omega⟩
def fsX6 (ad : Nat → Nat) (M : MM) : List Value := [.ref (ad 1), .ref (ad 2), .int (bo (gI M 0 2)), .ref (ad 3), .ref (ad 4), .ref (ad 5), .ref (ad 6)]
def mlen (c : Nat) : Nat := if c = 1 then 5672 else if c = 2 then 5672 else if c = 3 then 7 else if c = 4 then 6 else 40
def entM (E : EE) (ad : Nat → Nat) (M : MM) (c : Nat) : va_E := if c = 0 then .inr (6, fsX6 ad M) else if c = 6 then .inl (E.2 0, 40, .inl (gI M 6)) else .inl (E.2 1, mlen c, .inr (.inl (gL M c)))
section EntM
variable {E : EE} {ad : Nat → Nat} {M : MM}
theorem m0 : entM E ad M 0 = .inr (6, fsX6 ad M) := rfl
theorem m1 : entM E ad M 1 = .inl (E.2 1, 5672, .inr (.inl (gL M 1))) := rfl
theorem m2 : entM E ad M 2 = .inl (E.2 1, 5672, .inr (.inl (gL M 2))) := rfl
theorem m3 : entM E ad M 3 = .inl (E.2 1, 7, .inr (.inl (gL M 3))) := rfl
theorem m4 : entM E ad M 4 = .inl (E.2 1, 6, .inr (.inl (gL M 4))) := rfl
theorem m5 : entM E ad M 5 = .inl (E.2 1, 40, .inr (.inl (gL M 5))) := rfl
theorem m6 : entM E ad M 6 = .inl (E.2 0, 40, .inl (gI M 6)) := rfl
theorem entM_sI {c k : Nat} {v : Int32} (c' : Nat) (h : c' ≠ c) : entM E ad (sI M c k v) c' = entM E ad M c' := by
  unfold entM
  split
  · subst c'; simp only [fsX6, gI_ne h]
  · split
    · subst c'; simp only [gI_ne h]
    · simp only [gL_sI]
theorem entM_sL {c k : Nat} {v : Int64} (c' : Nat) (h : c' ≠ c) : entM E ad (sL M c k v) c' = entM E ad M c' := by
  unfold entM
  split
  · subst c'; simp only [fsX6, gI_sL]
  · split
    · subst c'; simp only [gI_sL]
    · simp only [gL_ne h]
theorem n1 {v : Int64} {k : Nat} : entM E ad (sL M 1 k v) 1 = .inl (E.2 1, 5672, .inr (.inl (vp_updL (gL M 1) k v))) := by rw [m1, gL_upd]
theorem n2 {v : Int64} {k : Nat} : entM E ad (sL M 2 k v) 2 = .inl (E.2 1, 5672, .inr (.inl (vp_updL (gL M 2) k v))) := by rw [m2, gL_upd]
theorem n3 {v : Int64} {k : Nat} : entM E ad (sL M 3 k v) 3 = .inl (E.2 1, 7, .inr (.inl (vp_updL (gL M 3) k v))) := by rw [m3, gL_upd]
theorem n4 {v : Int64} {k : Nat} : entM E ad (sL M 4 k v) 4 = .inl (E.2 1, 6, .inr (.inl (vp_updL (gL M 4) k v))) := by rw [m4, gL_upd]
theorem n5 {v : Int64} {k : Nat} : entM E ad (sL M 5 k v) 5 = .inl (E.2 1, 40, .inr (.inl (vp_updL (gL M 5) k v))) := by rw [m5, gL_upd]
theorem n6 {v : Int32} {k : Nat} : entM E ad (sI M 6 k v) 6 = .inl (E.2 0, 40, .inl (upd (gI M 6) k v)) := by rw [m6, gI_upd]
theorem h1_X6_2 {v : Int32} (hv : bo v = v) : entM E ad (sI M 0 2 v) 0 = .inr (6, (fsX6 ad M).set 2 (.int v)) := by rw [m0]; simp [fsX6, gI, sI, hv]
end EntM
theorem swn {x k : Int32} {a : Int} (h : ¬ x = k) (hk : k.toInt = a) : ¬ x.toInt = a := lv_neT h hk

-- the desk's small methods
def DK (h : Hp) : Prop := hK h 3 = 8 ∧ hR h 3 0 = some 4 ∧ hR h 3 1 = some 6 ∧ hR h 3 2 = some 12 ∧ hR h 3 3 = some 29 ∧ hR h 3 4 = some 46 ∧ hR h 3 5 = some 48 ∧ hK h 4 = 6 ∧ hR h 4 0 = some 5 ∧ hK h 5 = 21 ∧ hL h 5 = 150 ∧ hK h 46 = 5 ∧ hR h 46 0 = some 47 ∧ hK h 47 = 20 ∧ hL h 47 = 16 ∧ hK h 48 = 24 ∧ hL h 48 = 40
section DC
variable {xs : Nat → Int32} {L d : Nat} {h h2 h3 : Hp} {res : Res}
theorem ch_nar {c : Int32} (h1 : 32 ≤ c) (h2 : c ≤ 126) : vp_nar .char c = c := by
  have e1 : (32 : Int32).toInt ≤ c.toInt := Int32.le_iff_toInt_le.mp h1
  have e2 : c.toInt ≤ (126 : Int32).toInt := Int32.le_iff_toInt_le.mp h2
  have e3 : (32 : Int32).toInt = 32 := by decide
  have e4 : (126 : Int32).toInt = 126 := by decide
  have e5 : c = nI c.toInt.toNat := by rw [← Int32.toInt_inj, nI_toInt (by omega)]; omega
  have e6 : ∀ j, j < 127 → vp_nar .char (nI j) = nI j := by decide
  rw [e5]
  exact e6 _ (by omega)
theorem d_write1 {c : Int32} {n : Nat} (hD : DK h) (hn : hI h 4 1 = nI n) (hn2 : n < 150) (h1 : 32 ≤ c) (h2 : c ≤ 126) : Rn xs L (d + 2) 51 [.inr (some 3), .inl c] h (some (.inl 1), sI (sI h 5 n c) 4 1 (nI (n + 1))) := by
  obtain ⟨k3, r0, r1, r2, r3, r4, r5, k4, r40, k5, l5, k46, r46, k47, l47, k48, l48⟩ := hD
  have q1 : ¬ (150 : Int32) ≤ nI n := nI_ge (b := 150) hn2 (by decide)
  have q2 : ¬ c < 32 := Int32.not_lt.mpr h1
  have q3 : vp_in (nI n) 150 := vin hn2 (by decide)
  have hr : Rn xs L (d + 1) 26 [.inr (some 4), .inl c] h (some (.inl 1), sI (sI h 5 n c) 4 1 (nI (n + 1))) := by
    rw [i_rn]
    show X xs L d 26 (0, [some (.inr (some 4)), some (.inl c)], [], h) _
    simp only [e_26_0, e_26_1, e_26_4, e_26_7, e_26_10, e_26_11, e_26_13, e_26_16, e_26_17, e_26_19, e_26_22, e_26_23, e_26_24, e_26_25, e_26_28, e_26_29, e_26_32, e_26_33, e_26_34, e_26_35, e_26_36, e_26_39, e_26_40, e_26_41, e_26_44, e_26_45, true_and, and_true, and_self, false_and, and_false, if_true, if_false, ↓reduceIte, Nat.add_eq_left, Nat.left_eq_add, Nat.add_left_cancel_iff, not_false_eq_true, not_true_eq_false, i_pc, List.cons_append, List.nil_append, List.length_cons, List.length_nil, Nat.reduceEqDiff, Nat.reduceAdd, Nat.reduceMul, Nat.reduceSub, Nat.reduceLeDiff, Nat.reduceLT, Int32.reduceLT, Int32.reduceLE, Int32.reduceAdd, Int32.reduceSub, reduceCtorEq, true_or, or_true, or_false, false_or, ne_eq, Nat.zero_le, hK_sI, hL_sI, hR_sI, hI_sI, hN_sI, hU_sI, hK_sR, hL_sR, hI_sR, hR_sR, hN_sR, hU_sR, hK_sA, hL_sA, hR_sA, hI_sA, hN_sA, hU_sA, k4, r40, k5, l5, hn, q1, q2, q3, h2, ch_nar h1 h2, nI_1, nI_cl (show n < 2 ^ 31 by omega)]
  rw [i_rn]
  show X xs L (d + 1) 51 (0, [some (.inr (some 3)), some (.inl c)], [], h) _
  simp only [e_51_0, e_51_1, e_51_4, e_51_5, true_and, and_true, and_self, false_and, and_false, if_true, if_false, ↓reduceIte, Nat.add_eq_left, Nat.left_eq_add, Nat.add_left_cancel_iff, not_false_eq_true, not_true_eq_false, i_pc, List.cons_append, List.nil_append, List.length_cons, List.length_nil, Nat.reduceEqDiff, Nat.reduceAdd, Nat.reduceMul, Nat.reduceSub, Nat.reduceLeDiff, Nat.reduceLT, Int32.reduceLT, Int32.reduceLE, Int32.reduceAdd, Int32.reduceSub, reduceCtorEq, true_or, or_true, or_false, false_or, ne_eq, Nat.zero_le, k3, r0, k4]
  refine ⟨_, hr, ?_⟩
  simp only [e_51_8, true_and, and_true, and_self, false_and, and_false, if_true, if_false, ↓reduceIte, Nat.add_eq_left, Nat.left_eq_add, Nat.add_left_cancel_iff, not_false_eq_true, not_true_eq_false, i_pc, List.cons_append, List.nil_append, List.length_cons, List.length_nil, Nat.reduceEqDiff, Nat.reduceAdd, Nat.reduceMul, Nat.reduceSub, Nat.reduceLeDiff, Nat.reduceLT, Int32.reduceLT, Int32.reduceLE, Int32.reduceAdd, Int32.reduceSub, reduceCtorEq, true_or, or_true, or_false, false_or, ne_eq, Nat.zero_le, Option.toList]
theorem d_write0 {c : Int32} {n : Nat} (hD : DK h) (hn : hI h 4 1 = nI n) (hn2 : n ≤ 150) (h1 : n = 150 ∨ c < 32 ∨ 126 < c) : Rn xs L (d + 2) 51 [.inr (some 3), .inl c] h (some (.inl 0), h) := by
  obtain ⟨k3, r0, r1, r2, r3, r4, r5, k4, r40, k5, l5, k46, r46, k47, l47, k48, l48⟩ := hD
  have hr : Rn xs L (d + 1) 26 [.inr (some 4), .inl c] h (some (.inl 0), h) := by
    rw [i_rn]
    show X xs L d 26 (0, [some (.inr (some 4)), some (.inl c)], [], h) _
    by_cases c1 : n = 150
    · subst c1
      simp only [e_26_0, e_26_1, e_26_4, e_26_7, e_26_22, e_26_23, true_and, and_true, and_self, false_and, and_false, if_true, if_false, ↓reduceIte, Nat.add_eq_left, Nat.left_eq_add, Nat.add_left_cancel_iff, not_false_eq_true, not_true_eq_false, i_pc, List.cons_append, List.nil_append, List.length_cons, List.length_nil, Nat.reduceEqDiff, Nat.reduceAdd, Nat.reduceMul, Nat.reduceSub, Nat.reduceLeDiff, Nat.reduceLT, Int32.reduceLT, Int32.reduceLE, Int32.reduceAdd, Int32.reduceSub, reduceCtorEq, true_or, or_true, or_false, false_or, ne_eq, Nat.zero_le, k4, hn, show ((150 : Int32) ≤ nI 150) = True from by decide]
    · have q1 : ¬ (150 : Int32) ≤ nI n := nI_ge (b := 150) (by omega) (by decide)
      by_cases c2 : c < 32
      · simp only [e_26_0, e_26_1, e_26_4, e_26_7, e_26_10, e_26_11, e_26_13, e_26_22, e_26_23, true_and, and_true, and_self, false_and, and_false, if_true, if_false, ↓reduceIte, Nat.add_eq_left, Nat.left_eq_add, Nat.add_left_cancel_iff, not_false_eq_true, not_true_eq_false, i_pc, List.cons_append, List.nil_append, List.length_cons, List.length_nil, Nat.reduceEqDiff, Nat.reduceAdd, Nat.reduceMul, Nat.reduceSub, Nat.reduceLeDiff, Nat.reduceLT, Int32.reduceLT, Int32.reduceLE, Int32.reduceAdd, Int32.reduceSub, reduceCtorEq, true_or, or_true, or_false, false_or, ne_eq, Nat.zero_le, k4, hn, q1, c2]
      · have c3 : ¬ c ≤ 126 := Int32.not_le.mpr ((h1.resolve_left c1).resolve_left c2)
        simp only [e_26_0, e_26_1, e_26_4, e_26_7, e_26_10, e_26_11, e_26_13, e_26_16, e_26_17, e_26_19, e_26_22, e_26_23, true_and, and_true, and_self, false_and, and_false, if_true, if_false, ↓reduceIte, Nat.add_eq_left, Nat.left_eq_add, Nat.add_left_cancel_iff, not_false_eq_true, not_true_eq_false, i_pc, List.cons_append, List.nil_append, List.length_cons, List.length_nil, Nat.reduceEqDiff, Nat.reduceAdd, Nat.reduceMul, Nat.reduceSub, Nat.reduceLeDiff, Nat.reduceLT, Int32.reduceLT, Int32.reduceLE, Int32.reduceAdd, Int32.reduceSub, reduceCtorEq, true_or, or_true, or_false, false_or, ne_eq, Nat.zero_le, k4, hn, q1, c2, c3]
  rw [i_rn]
  show X xs L (d + 1) 51 (0, [some (.inr (some 3)), some (.inl c)], [], h) _
  simp only [e_51_0, e_51_1, e_51_4, e_51_5, true_and, and_true, and_self, false_and, and_false, if_true, if_false, ↓reduceIte, Nat.add_eq_left, Nat.left_eq_add, Nat.add_left_cancel_iff, not_false_eq_true, not_true_eq_false, i_pc, List.cons_append, List.nil_append, List.length_cons, List.length_nil, Nat.reduceEqDiff, Nat.reduceAdd, Nat.reduceMul, Nat.reduceSub, Nat.reduceLeDiff, Nat.reduceLT, Int32.reduceLT, Int32.reduceLE, Int32.reduceAdd, Int32.reduceSub, reduceCtorEq, true_or, or_true, or_false, false_or, ne_eq, Nat.zero_le, k3, r0, k4]
  refine ⟨_, hr, ?_⟩
  simp only [e_51_8, true_and, and_true, and_self, false_and, and_false, if_true, if_false, ↓reduceIte, Nat.add_eq_left, Nat.left_eq_add, Nat.add_left_cancel_iff, not_false_eq_true, not_true_eq_false, i_pc, List.cons_append, List.nil_append, List.length_cons, List.length_nil, Nat.reduceEqDiff, Nat.reduceAdd, Nat.reduceMul, Nat.reduceSub, Nat.reduceLeDiff, Nat.reduceLT, Int32.reduceLT, Int32.reduceLE, Int32.reduceAdd, Int32.reduceSub, reduceCtorEq, true_or, or_true, or_false, false_or, ne_eq, Nat.zero_le, Option.toList]
theorem d_state (hD : DK h) (hM : MI 12 h) : Rn xs L (d + 1) 54 [.inr (some 3)] h (some (.inl (hI h 12 4)), h) := by
  have k3 := hD.1
  have r2 := hD.2.2.2.1
  have k0 := hM.1
  rw [i_rn]
  show X xs L d 54 (0, [some (.inr (some 3))], [], h) _
  simp only [e_54_0, e_54_1, e_54_4, e_54_7, true_and, and_true, and_self, false_and, and_false, if_true, if_false, ↓reduceIte, Nat.add_eq_left, Nat.left_eq_add, Nat.add_left_cancel_iff, not_false_eq_true, not_true_eq_false, i_pc, List.cons_append, List.nil_append, List.length_cons, List.length_nil, Nat.reduceEqDiff, Nat.reduceAdd, Nat.reduceMul, Nat.reduceSub, Nat.reduceLeDiff, Nat.reduceLT, Int32.reduceLT, Int32.reduceLE, Int32.reduceAdd, Int32.reduceSub, reduceCtorEq, true_or, or_true, or_false, false_or, ne_eq, Nat.zero_le, k3, r2, k0]
theorem d_result (hD : DK h) (hM : MI 12 h) : Rn xs L (d + 1) 55 [.inr (some 3)] h (some (.inl (hI h 12 5)), h) := by
  have k3 := hD.1
  have r2 := hD.2.2.2.1
  have k0 := hM.1
  rw [i_rn]
  show X xs L d 55 (0, [some (.inr (some 3))], [], h) _
  simp only [e_55_0, e_55_1, e_55_4, e_55_7, true_and, and_true, and_self, false_and, and_false, if_true, if_false, ↓reduceIte, Nat.add_eq_left, Nat.left_eq_add, Nat.add_left_cancel_iff, not_false_eq_true, not_true_eq_false, i_pc, List.cons_append, List.nil_append, List.length_cons, List.length_nil, Nat.reduceEqDiff, Nat.reduceAdd, Nat.reduceMul, Nat.reduceSub, Nat.reduceLeDiff, Nat.reduceLT, Int32.reduceLT, Int32.reduceLE, Int32.reduceAdd, Int32.reduceSub, reduceCtorEq, true_or, or_true, or_false, false_or, ne_eq, Nat.zero_le, k3, r2, k0]
theorem d_points (hD : DK h) (hM : MI 12 h) : Rn xs L (d + 1) 61 [.inr (some 3)] h (some (.inl (hI h 12 8)), h) := by
  have k3 := hD.1
  have r2 := hD.2.2.2.1
  have k0 := hM.1
  rw [i_rn]
  show X xs L d 61 (0, [some (.inr (some 3))], [], h) _
  simp only [e_61_0, e_61_1, e_61_4, e_61_7, true_and, and_true, and_self, false_and, and_false, if_true, if_false, ↓reduceIte, Nat.add_eq_left, Nat.left_eq_add, Nat.add_left_cancel_iff, not_false_eq_true, not_true_eq_false, i_pc, List.cons_append, List.nil_append, List.length_cons, List.length_nil, Nat.reduceEqDiff, Nat.reduceAdd, Nat.reduceMul, Nat.reduceSub, Nat.reduceLeDiff, Nat.reduceLT, Int32.reduceLT, Int32.reduceLE, Int32.reduceAdd, Int32.reduceSub, reduceCtorEq, true_or, or_true, or_false, false_or, ne_eq, Nat.zero_le, k3, r2, k0]
theorem d_depth (hD : DK h) (hM : MI 12 h) : Rn xs L (d + 1) 62 [.inr (some 3)] h (some (.inl (hI h 12 6)), h) := by
  have k3 := hD.1
  have r2 := hD.2.2.2.1
  have k0 := hM.1
  rw [i_rn]
  show X xs L d 62 (0, [some (.inr (some 3))], [], h) _
  simp only [e_62_0, e_62_1, e_62_4, e_62_7, true_and, and_true, and_self, false_and, and_false, if_true, if_false, ↓reduceIte, Nat.add_eq_left, Nat.left_eq_add, Nat.add_left_cancel_iff, not_false_eq_true, not_true_eq_false, i_pc, List.cons_append, List.nil_append, List.length_cons, List.length_nil, Nat.reduceEqDiff, Nat.reduceAdd, Nat.reduceMul, Nat.reduceSub, Nat.reduceLeDiff, Nat.reduceLT, Int32.reduceLT, Int32.reduceLE, Int32.reduceAdd, Int32.reduceSub, reduceCtorEq, true_or, or_true, or_false, false_or, ne_eq, Nat.zero_le, k3, r2, k0]
theorem d_value (hD : DK h) : Rn xs L (d + 1) 68 [.inr (some 3)] h (some (.inl (hI h 3 8)), h) := by
  have k3 := hD.1
  rw [i_rn]
  show X xs L d 68 (0, [some (.inr (some 3))], [], h) _
  simp only [e_68_0, e_68_1, e_68_4, true_and, and_true, and_self, false_and, and_false, if_true, if_false, ↓reduceIte, Nat.add_eq_left, Nat.left_eq_add, Nat.add_left_cancel_iff, not_false_eq_true, not_true_eq_false, i_pc, List.cons_append, List.nil_append, List.length_cons, List.length_nil, Nat.reduceEqDiff, Nat.reduceAdd, Nat.reduceMul, Nat.reduceSub, Nat.reduceLeDiff, Nat.reduceLT, Int32.reduceLT, Int32.reduceLE, Int32.reduceAdd, Int32.reduceSub, reduceCtorEq, true_or, or_true, or_false, false_or, ne_eq, Nat.zero_le, k3]
theorem d_watch {b : Int32} (hD : DK h) (hb : b = 0 ∨ b = 1) : Rn xs L (d + 1) 59 [.inr (some 3), .inl b] h (none, sI h 3 7 b) := by
  have k3 := hD.1
  rw [i_rn]
  show X xs L d 59 (0, [some (.inr (some 3)), some (.inl b)], [], h) _
  simp only [e_59_0, e_59_1, e_59_2, e_59_5, true_and, and_true, and_self, false_and, and_false, if_true, if_false, ↓reduceIte, Nat.add_eq_left, Nat.left_eq_add, Nat.add_left_cancel_iff, not_false_eq_true, not_true_eq_false, i_pc, List.cons_append, List.nil_append, List.length_cons, List.length_nil, Nat.reduceEqDiff, Nat.reduceAdd, Nat.reduceMul, Nat.reduceSub, Nat.reduceLeDiff, Nat.reduceLT, Int32.reduceLT, Int32.reduceLE, Int32.reduceAdd, Int32.reduceSub, reduceCtorEq, true_or, or_true, or_false, false_or, ne_eq, Nat.zero_le, k3, hb]
/-- how a Tail answers -/
def tbv (τ n : Nat) (v : Int32) (h : Hp) : Int32 := if v = -1 then nI n else if v < 0 then 0 else if 16 ≤ v then 0 else if v < nI n then hI h (τ + 1) ((n - 1 - v.toNatClampNeg) % 16) else 0
theorem d_output {v : Int32} {n : Nat} (hD : DK h) (hM : MI 12 h) (hn : hI h 27 1 = nI n) (hb : n < 2 ^ 31) : Rn xs L (d + 2) 69 [.inr (some 3), .inl v] h (some (.inl (tbv 27 n v h)), h) := by
  have k3 := hD.1
  have r2 := hD.2.2.2.1
  have k0 := hM.1
  have r22 : hR h 12 2 = some 27 := hM.2.2.2.1
  have k27 : hK h 27 = 5 := hM.2.2.2.2.2.2.2.2.1
  rw [i_rn]
  show X xs L (d + 1) 69 (0, [some (.inr (some 3)), some (.inl v)], [], h) _
  simp only [e_69_0, e_69_1, e_69_4, e_69_7, e_69_8, true_and, and_true, and_self, false_and, and_false, if_true, if_false, ↓reduceIte, Nat.add_eq_left, Nat.left_eq_add, Nat.add_left_cancel_iff, not_false_eq_true, not_true_eq_false, i_pc, List.cons_append, List.nil_append, List.length_cons, List.length_nil, Nat.reduceEqDiff, Nat.reduceAdd, Nat.reduceMul, Nat.reduceSub, Nat.reduceLeDiff, Nat.reduceLT, Int32.reduceLT, Int32.reduceLE, Int32.reduceAdd, Int32.reduceSub, reduceCtorEq, true_or, or_true, or_false, false_or, ne_eq, Nat.zero_le, k3, r2, k0, r22, k27]
  refine ⟨_, r_tbefore (τ := 27) k27 hM.2.2.2.2.2.2.2.2.2.1 hM.2.2.2.2.2.2.2.2.2.2.1 hM.2.2.2.2.2.2.2.2.2.2.2.1 hn hb, ?_⟩
  simp only [e_69_11, true_and, and_true, and_self, false_and, and_false, if_true, if_false, ↓reduceIte, Nat.add_eq_left, Nat.left_eq_add, Nat.add_left_cancel_iff, not_false_eq_true, not_true_eq_false, i_pc, List.cons_append, List.nil_append, List.length_cons, List.length_nil, Nat.reduceEqDiff, Nat.reduceAdd, Nat.reduceMul, Nat.reduceSub, Nat.reduceLeDiff, Nat.reduceLT, Int32.reduceLT, Int32.reduceLE, Int32.reduceAdd, Int32.reduceSub, reduceCtorEq, true_or, or_true, or_false, false_or, ne_eq, Nat.zero_le, Option.toList, tbv]
theorem d_note {v : Int32} {n : Nat} (hD : DK h) (hn : hI h 46 1 = nI n) (hb : n < 2 ^ 31) : Rn xs L (d + 2) 70 [.inr (some 3), .inl v] h (some (.inl (tbv 46 n v h)), h) := by
  obtain ⟨k3, r0, r1, r2, r3, r4, r5, k4, r40, k5, l5, k46, r46, k47, l47, k48, l48⟩ := hD
  rw [i_rn]
  show X xs L (d + 1) 70 (0, [some (.inr (some 3)), some (.inl v)], [], h) _
  simp only [e_70_0, e_70_1, e_70_4, e_70_5, true_and, and_true, and_self, false_and, and_false, if_true, if_false, ↓reduceIte, Nat.add_eq_left, Nat.left_eq_add, Nat.add_left_cancel_iff, not_false_eq_true, not_true_eq_false, i_pc, List.cons_append, List.nil_append, List.length_cons, List.length_nil, Nat.reduceEqDiff, Nat.reduceAdd, Nat.reduceMul, Nat.reduceSub, Nat.reduceLeDiff, Nat.reduceLT, Int32.reduceLT, Int32.reduceLE, Int32.reduceAdd, Int32.reduceSub, reduceCtorEq, true_or, or_true, or_false, false_or, ne_eq, Nat.zero_le, k3, r4, k46]
  refine ⟨_, r_tbefore (τ := 46) k46 r46 k47 l47 hn hb, ?_⟩
  simp only [e_70_8, true_and, and_true, and_self, false_and, and_false, if_true, if_false, ↓reduceIte, Nat.add_eq_left, Nat.left_eq_add, Nat.add_left_cancel_iff, not_false_eq_true, not_true_eq_false, i_pc, List.cons_append, List.nil_append, List.length_cons, List.length_nil, Nat.reduceEqDiff, Nat.reduceAdd, Nat.reduceMul, Nat.reduceSub, Nat.reduceLeDiff, Nat.reduceLT, Int32.reduceLT, Int32.reduceLE, Int32.reduceAdd, Int32.reduceSub, reduceCtorEq, true_or, or_true, or_false, false_or, ne_eq, Nat.zero_le, Option.toList, tbv]
theorem d_has_no {b : Int32} (hD : DK h) (hp : hR h 3 6 = none) : Rn xs L (d + 1) 71 [.inr (some 3), .inl b] h (some (.inl 0), h) := by
  have k3 := hD.1
  rw [i_rn]
  show X xs L d 71 (0, [some (.inr (some 3)), some (.inl b)], [], h) _
  simp only [e_71_0, e_71_1, e_71_4, e_71_26, e_71_27, true_and, and_true, and_self, false_and, and_false, if_true, if_false, ↓reduceIte, Nat.add_eq_left, Nat.left_eq_add, Nat.add_left_cancel_iff, not_false_eq_true, not_true_eq_false, i_pc, List.cons_append, List.nil_append, List.length_cons, List.length_nil, Nat.reduceEqDiff, Nat.reduceAdd, Nat.reduceMul, Nat.reduceSub, Nat.reduceLeDiff, Nat.reduceLT, Int32.reduceLT, Int32.reduceLE, Int32.reduceAdd, Int32.reduceSub, reduceCtorEq, true_or, or_true, or_false, false_or, ne_eq, Nat.zero_le, k3, hp]
theorem d_has {b v : Int32} {pg : Nat} (hD : DK h) (hp : hR h 3 6 = some pg) (kp : hK h pg = 4) (hv : hI h pg 3 = v) : Rn xs L (d + 1) 71 [.inr (some 3), .inl b] h (some (.inl (bI (decide (¬ b < 0 ∧ b < v)))), h) := by
  have k3 := hD.1
  rw [i_rn]
  show X xs L d 71 (0, [some (.inr (some 3)), some (.inl b)], [], h) _
  by_cases c1 : b < 0
  · rw [bI_f (fun z => z.1 c1)]
    simp only [e_71_0, e_71_1, e_71_4, e_71_7, e_71_8, e_71_26, e_71_27, true_and, and_true, and_self, false_and, and_false, if_true, if_false, ↓reduceIte, Nat.add_eq_left, Nat.left_eq_add, Nat.add_left_cancel_iff, not_false_eq_true, not_true_eq_false, i_pc, List.cons_append, List.nil_append, List.length_cons, List.length_nil, Nat.reduceEqDiff, Nat.reduceAdd, Nat.reduceMul, Nat.reduceSub, Nat.reduceLeDiff, Nat.reduceLT, Int32.reduceLT, Int32.reduceLE, Int32.reduceAdd, Int32.reduceSub, reduceCtorEq, true_or, or_true, or_false, false_or, ne_eq, Nat.zero_le, k3, hp, c1]
  · by_cases c2 : v ≤ b
    · rw [bI_f (fun z => absurd z.2 (Int32.not_lt.mpr c2))]
      simp only [e_71_0, e_71_1, e_71_4, e_71_7, e_71_8, e_71_11, e_71_12, e_71_13, e_71_16, e_71_19, e_71_22, e_71_23, e_71_26, e_71_27, true_and, and_true, and_self, false_and, and_false, if_true, if_false, ↓reduceIte, Nat.add_eq_left, Nat.left_eq_add, Nat.add_left_cancel_iff, not_false_eq_true, not_true_eq_false, i_pc, List.cons_append, List.nil_append, List.length_cons, List.length_nil, Nat.reduceEqDiff, Nat.reduceAdd, Nat.reduceMul, Nat.reduceSub, Nat.reduceLeDiff, Nat.reduceLT, Int32.reduceLT, Int32.reduceLE, Int32.reduceAdd, Int32.reduceSub, reduceCtorEq, true_or, or_true, or_false, false_or, ne_eq, Nat.zero_le, k3, hp, kp, hv, c1, c2]
    · rw [bI_t ⟨c1, Int32.not_le.mp c2⟩]
      simp only [e_71_0, e_71_1, e_71_4, e_71_7, e_71_8, e_71_11, e_71_12, e_71_13, e_71_16, e_71_19, e_71_22, e_71_23, e_71_26, e_71_27, true_and, and_true, and_self, false_and, and_false, if_true, if_false, ↓reduceIte, Nat.add_eq_left, Nat.left_eq_add, Nat.add_left_cancel_iff, not_false_eq_true, not_true_eq_false, i_pc, List.cons_append, List.nil_append, List.length_cons, List.length_nil, Nat.reduceEqDiff, Nat.reduceAdd, Nat.reduceMul, Nat.reduceSub, Nat.reduceLeDiff, Nat.reduceLT, Int32.reduceLT, Int32.reduceLE, Int32.reduceAdd, Int32.reduceSub, reduceCtorEq, true_or, or_true, or_false, false_or, ne_eq, Nat.zero_le, k3, hp, kp, hv, c1, c2]
end DC

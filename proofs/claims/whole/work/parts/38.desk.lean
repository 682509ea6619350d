-- the class machine's calls from the desk; the desk's small methods
section DA
variable {xs : Nat → Int32} {L d : Nat} {h h2 h3 : Hp} {res : Res} {μ : Nat}
def fgH (μ : Nat) (h : Hp) : Hp := sI (sI (sI (sI (sI (sI h μ 4 0) μ 5 0) μ 6 0) μ 7 0) μ 8 0) (μ + 15) 1 0
theorem r_forget (hM : MI μ h) : Rn xs L (d + 2) 7 [.inr (some μ)] h (none, fgH μ h) := by
  have k0 : hK h μ = 3 := hM.1
  have r2 : hR h μ 2 = some (μ + 15) := hM.2.2.2.1
  have kt : hK h (μ + 15) = 5 := hM.2.2.2.2.2.2.2.2.1
  rw [i_rn]
  show X xs L (d + 1) 7 (0, [some (.inr (some μ))], [], h) _
  simp only [e_7_0, e_7_1, e_7_2, e_7_5, e_7_6, e_7_7, e_7_10, e_7_11, e_7_12, e_7_15, e_7_16, e_7_17, e_7_20, e_7_21, e_7_22, e_7_25, e_7_26, e_7_29, true_and, and_true, and_self, false_and, and_false, if_true, if_false, ↓reduceIte, Nat.add_eq_left, Nat.left_eq_add, Nat.add_left_cancel_iff, not_false_eq_true, not_true_eq_false, i_pc, List.cons_append, List.nil_append, List.length_cons, List.length_nil, Nat.reduceEqDiff, Nat.reduceAdd, Nat.reduceMul, Nat.reduceSub, Nat.reduceLeDiff, Nat.reduceLT, Int32.reduceLT, Int32.reduceLE, Int32.reduceAdd, Int32.reduceSub, reduceCtorEq, true_or, or_true, or_false, false_or, ne_eq, Nat.zero_le, hK_sI, hR_sI, k0, r2, kt]
  refine ⟨_, r_tclear (by simp only [hK_sI]; exact kt), ?_⟩
  simp only [e_7_32, true_and, and_true, and_self, false_and, and_false, if_true, if_false, ↓reduceIte, Nat.add_eq_left, Nat.left_eq_add, Nat.add_left_cancel_iff, not_false_eq_true, not_true_eq_false, i_pc, List.cons_append, List.nil_append, List.length_cons, List.length_nil, Nat.reduceEqDiff, Nat.reduceAdd, Nat.reduceMul, Nat.reduceSub, Nat.reduceLeDiff, Nat.reduceLT, Int32.reduceLT, Int32.reduceLE, Int32.reduceAdd, Int32.reduceSub, reduceCtorEq, true_or, or_true, or_false, false_or, ne_eq, Nat.zero_le, Option.toList, fgH]
theorem r_begin {pg : Nat} (hM : MI μ h) (hr : Rn xs L (d + 2) 15 [.inr (some μ), .inl (nI 0)] (sR (fgH μ h) μ 3 (some pg)) (none, h2)) (k2 : hK h2 μ = 3) (hr2 : Rn xs L (d + 2) 12 [.inr (some μ)] h2 (none, h3)) : Rn xs L (d + 3) 8 [.inr (some μ), .inr (some pg)] h (none, h3) := by
  have k0 : hK h μ = 3 := hM.1
  have k1 : hK (fgH μ h) μ = 3 := k0
  rw [i_rn]
  show X xs L (d + 2) 8 (0, [some (.inr (some μ)), some (.inr (some pg))], [], h) _
  simp only [e_8_0, e_8_1, true_and, and_true, and_self, false_and, and_false, if_true, if_false, ↓reduceIte, Nat.add_eq_left, Nat.left_eq_add, Nat.add_left_cancel_iff, not_false_eq_true, not_true_eq_false, i_pc, List.cons_append, List.nil_append, List.length_cons, List.length_nil, Nat.reduceEqDiff, Nat.reduceAdd, Nat.reduceMul, Nat.reduceSub, Nat.reduceLeDiff, Nat.reduceLT, Int32.reduceLT, Int32.reduceLE, Int32.reduceAdd, Int32.reduceSub, reduceCtorEq, true_or, or_true, or_false, false_or, ne_eq, Nat.zero_le, k0]
  refine ⟨_, r_forget hM, ?_⟩
  simp only [e_8_4, e_8_5, e_8_6, e_8_9, e_8_10, e_8_11, true_and, and_true, and_self, false_and, and_false, if_true, if_false, ↓reduceIte, Nat.add_eq_left, Nat.left_eq_add, Nat.add_left_cancel_iff, not_false_eq_true, not_true_eq_false, i_pc, List.cons_append, List.nil_append, List.length_cons, List.length_nil, Nat.reduceEqDiff, Nat.reduceAdd, Nat.reduceMul, Nat.reduceSub, Nat.reduceLeDiff, Nat.reduceLT, Int32.reduceLT, Int32.reduceLE, Int32.reduceAdd, Int32.reduceSub, reduceCtorEq, true_or, or_true, or_false, false_or, ne_eq, Nat.zero_le, Option.toList, hK_sR, k1]
  refine ⟨_, hr, ?_⟩
  simp only [e_8_14, e_8_15, true_and, and_true, and_self, false_and, and_false, if_true, if_false, ↓reduceIte, Nat.add_eq_left, Nat.left_eq_add, Nat.add_left_cancel_iff, not_false_eq_true, not_true_eq_false, i_pc, List.cons_append, List.nil_append, List.length_cons, List.length_nil, Nat.reduceEqDiff, Nat.reduceAdd, Nat.reduceMul, Nat.reduceSub, Nat.reduceLeDiff, Nat.reduceLT, Int32.reduceLT, Int32.reduceLE, Int32.reduceAdd, Int32.reduceSub, reduceCtorEq, true_or, or_true, or_false, false_or, ne_eq, Nat.zero_le, Option.toList, k2]
  refine ⟨_, hr2, ?_⟩
  simp only [e_8_18, true_and, and_true, and_self, false_and, and_false, if_true, if_false, ↓reduceIte, Nat.add_eq_left, Nat.left_eq_add, Nat.add_left_cancel_iff, not_false_eq_true, not_true_eq_false, i_pc, List.cons_append, List.nil_append, List.length_cons, List.length_nil, Nat.reduceEqDiff, Nat.reduceAdd, Nat.reduceMul, Nat.reduceSub, Nat.reduceLeDiff, Nat.reduceLT, Int32.reduceLT, Int32.reduceLE, Int32.reduceAdd, Int32.reduceSub, reduceCtorEq, true_or, or_true, or_false, false_or, ne_eq, Nat.zero_le, Option.toList]
theorem r_pass (hM : MI μ h) (hr : Rn xs L d 12 [.inr (some μ)] (sI h μ 8 (hI h μ 8 + 1)) (none, h2)) : Rn xs L (d + 1) 9 [.inr (some μ)] h (none, h2) := by
  have k0 : hK h μ = 3 := hM.1
  rw [i_rn]
  show X xs L d 9 (0, [some (.inr (some μ))], [], h) _
  simp only [e_9_0, e_9_1, e_9_2, e_9_5, e_9_6, e_9_7, e_9_10, e_9_11, true_and, and_true, and_self, false_and, and_false, if_true, if_false, ↓reduceIte, Nat.add_eq_left, Nat.left_eq_add, Nat.add_left_cancel_iff, not_false_eq_true, not_true_eq_false, i_pc, List.cons_append, List.nil_append, List.length_cons, List.length_nil, Nat.reduceEqDiff, Nat.reduceAdd, Nat.reduceMul, Nat.reduceSub, Nat.reduceLeDiff, Nat.reduceLT, Int32.reduceLT, Int32.reduceLE, Int32.reduceAdd, Int32.reduceSub, reduceCtorEq, true_or, or_true, or_false, false_or, ne_eq, Nat.zero_le, hK_sI, k0]
  refine ⟨_, hr, ?_⟩
  simp only [e_9_14, true_and, and_true, and_self, false_and, and_false, if_true, if_false, ↓reduceIte, Nat.add_eq_left, Nat.left_eq_add, Nat.add_left_cancel_iff, not_false_eq_true, not_true_eq_false, i_pc, List.cons_append, List.nil_append, List.length_cons, List.length_nil, Nat.reduceEqDiff, Nat.reduceAdd, Nat.reduceMul, Nat.reduceSub, Nat.reduceLeDiff, Nat.reduceLT, Int32.reduceLT, Int32.reduceLE, Int32.reduceAdd, Int32.reduceSub, reduceCtorEq, true_or, or_true, or_false, false_or, ne_eq, Nat.zero_le, Option.toList]
theorem r_below_no {b : Int32} {t : Nat} (hM : MI μ h) (hd : hI h μ 6 = nI t) (hb : b < 0 ∨ nI t ≤ b) : Rn xs L (d + 1) 11 [.inr (some μ), .inl b] h (some (.inr none), h) := by
  have k0 : hK h μ = 3 := hM.1
  rw [i_rn]
  show X xs L d 11 (0, [some (.inr (some μ)), some (.inl b)], [], h) _
  by_cases c1 : b < 0
  · simp only [e_11_0, e_11_1, e_11_28, e_11_29, true_and, and_true, and_self, false_and, and_false, if_true, if_false, ↓reduceIte, Nat.add_eq_left, Nat.left_eq_add, Nat.add_left_cancel_iff, not_false_eq_true, not_true_eq_false, i_pc, List.cons_append, List.nil_append, List.length_cons, List.length_nil, Nat.reduceEqDiff, Nat.reduceAdd, Nat.reduceMul, Nat.reduceSub, Nat.reduceLeDiff, Nat.reduceLT, Int32.reduceLT, Int32.reduceLE, Int32.reduceAdd, Int32.reduceSub, reduceCtorEq, true_or, or_true, or_false, false_or, ne_eq, Nat.zero_le, c1]
  · have c2 : nI t ≤ b := hb.resolve_left c1
    simp only [e_11_0, e_11_1, e_11_4, e_11_5, e_11_6, e_11_9, e_11_28, e_11_29, true_and, and_true, and_self, false_and, and_false, if_true, if_false, ↓reduceIte, Nat.add_eq_left, Nat.left_eq_add, Nat.add_left_cancel_iff, not_false_eq_true, not_true_eq_false, i_pc, List.cons_append, List.nil_append, List.length_cons, List.length_nil, Nat.reduceEqDiff, Nat.reduceAdd, Nat.reduceMul, Nat.reduceSub, Nat.reduceLeDiff, Nat.reduceLT, Int32.reduceLT, Int32.reduceLE, Int32.reduceAdd, Int32.reduceSub, reduceCtorEq, true_or, or_true, or_false, false_or, ne_eq, Nat.zero_le, c1, c2, k0, hd]
theorem r_below {b t : Nat} (hM : MI μ h) (hd : hI h μ 6 = nI t) (ht : t ≤ 6) (hb : b < t) (hF : hR h (μ + 1) (t - 1 - b) = some (μ + (2 + 2 * (t - 1 - b)))) : Rn xs L (d + 1) 11 [.inr (some μ), .inl (nI b)] h (some (.inr (some (μ + (2 + 2 * (t - 1 - b))))), h) := by
  have k0 : hK h μ = 3 := hM.1
  have r0 : hR h μ 0 = some (μ + 1) := hM.2.1
  have k1 : hK h (μ + 1) = 23 := hM.2.2.2.2.1
  have l1 : hL h (μ + 1) = 6 := hM.2.2.2.2.2.1
  have c1 : ¬ nI b < 0 := Int32.not_lt.mpr (nI_le (a := 0) (by omega) (by omega))
  have c2 : ¬ nI t ≤ nI b := nI_ge hb (by omega)
  have e1 : nI t - 1 - nI b = nI (t - 1 - b) := by rw [show (1 : Int32) = nI 1 from rfl, pk_sub (by omega), pk_sub (by omega)]
  have c3 : vp_in (nI (t - 1 - b)) 6 := vin (by omega) (by decide)
  rw [i_rn]
  show X xs L d 11 (0, [some (.inr (some μ)), some (.inl (nI b))], [], h) _
  simp only [e_11_0, e_11_1, e_11_4, e_11_5, e_11_6, e_11_9, e_11_12, e_11_13, e_11_16, e_11_17, e_11_20, e_11_21, e_11_22, e_11_23, e_11_24, e_11_25, e_11_28, e_11_29, true_and, and_true, and_self, false_and, and_false, if_true, if_false, ↓reduceIte, Nat.add_eq_left, Nat.left_eq_add, Nat.add_left_cancel_iff, not_false_eq_true, not_true_eq_false, i_pc, List.cons_append, List.nil_append, List.length_cons, List.length_nil, Nat.reduceEqDiff, Nat.reduceAdd, Nat.reduceMul, Nat.reduceSub, Nat.reduceLeDiff, Nat.reduceLT, Int32.reduceLT, Int32.reduceLE, Int32.reduceAdd, Int32.reduceSub, reduceCtorEq, true_or, or_true, or_false, false_or, ne_eq, Nat.zero_le, c1, c2, c3, k0, r0, k1, l1, hd, e1, hF, nI_cl (show t - 1 - b < 2 ^ 31 by omega)]
end DA

-- the model's small methods
section MJ
variable {xs : Nat → Int32} {L d : Nat} {h h2 : Hp} {res : Res}
theorem m_write1 {c : Int32} {n : Nat} (hO : MO h) (hn : hI h 49 0 = nI n) (hn2 : n < 150) (h1 : 32 ≤ c) (h2 : c ≤ 126) : Rn xs L (d + 1) 76 [.inr (some 49), .inl c] h (some (.inl 1), sI (sI h 50 n c) 49 0 (nI (n + 1))) := by
  have q1 : ¬ nI n = 150 := fun e => by have := (nI_eq (a := n) (b := 150) (by omega) (by decide)).mp e; omega
  have q2 : ¬ c < 32 := Int32.not_lt.mpr h1
  have q3 : vp_in (nI n) 150 := vin hn2 (by decide)
  rw [i_rn]
  show X xs L d 76 (0, [some (.inr (some 49)), some (.inl c)], [], h) _
  simp only [e_76_0, e_76_1, e_76_4, e_76_7, e_76_10, e_76_11, e_76_13, e_76_16, e_76_17, e_76_19, e_76_22, e_76_23, e_76_24, e_76_25, e_76_28, e_76_29, e_76_32, e_76_33, e_76_34, e_76_35, e_76_36, e_76_39, e_76_40, e_76_41, e_76_44, e_76_45, true_and, and_true, and_self, false_and, and_false, if_true, if_false, ↓reduceIte, Nat.add_eq_left, Nat.left_eq_add, Nat.add_left_cancel_iff, not_false_eq_true, not_true_eq_false, i_pc, List.cons_append, List.nil_append, List.length_cons, List.length_nil, Nat.reduceEqDiff, Nat.reduceAdd, Nat.reduceMul, Nat.reduceSub, Nat.reduceLeDiff, Nat.reduceLT, Int32.reduceLT, Int32.reduceLE, Int32.reduceAdd, Int32.reduceSub, reduceCtorEq, true_or, or_true, or_false, false_or, ne_eq, Nat.zero_le, hK_sI, hL_sI, hR_sI, hI_sI, hN_sI, hU_sI, hK_sR, hL_sR, hI_sR, hR_sR, hN_sR, hU_sR, hK_sA, hL_sA, hR_sA, hI_sA, hN_sA, hU_sA, mo_k hO, mo_r50 hO, mo_k50 hO, mo_l50 hO, hn, q1, q2, q3, h2, ch_nar h1 h2, nI_1, nI_cl (show n < 2 ^ 31 by omega)]
theorem m_write0 {c : Int32} {n : Nat} (hO : MO h) (hn : hI h 49 0 = nI n) (hn2 : n ≤ 150) (h1 : n = 150 ∨ c < 32 ∨ 126 < c) : Rn xs L (d + 1) 76 [.inr (some 49), .inl c] h (some (.inl 0), h) := by
  rw [i_rn]
  show X xs L d 76 (0, [some (.inr (some 49)), some (.inl c)], [], h) _
  by_cases c1 : n = 150
  · subst c1
    simp only [e_76_0, e_76_1, e_76_4, e_76_7, e_76_22, e_76_23, true_and, and_true, and_self, false_and, and_false, if_true, if_false, ↓reduceIte, Nat.add_eq_left, Nat.left_eq_add, Nat.add_left_cancel_iff, not_false_eq_true, not_true_eq_false, i_pc, List.cons_append, List.nil_append, List.length_cons, List.length_nil, Nat.reduceEqDiff, Nat.reduceAdd, Nat.reduceMul, Nat.reduceSub, Nat.reduceLeDiff, Nat.reduceLT, Int32.reduceLT, Int32.reduceLE, Int32.reduceAdd, Int32.reduceSub, reduceCtorEq, true_or, or_true, or_false, false_or, ne_eq, Nat.zero_le, mo_k hO, hn, show (nI 150 = 150) = True from by decide]
  · have q1 : ¬ nI n = 150 := fun e => by have := (nI_eq (a := n) (b := 150) (by omega) (by decide)).mp e; omega
    by_cases c2 : c < 32
    · simp only [e_76_0, e_76_1, e_76_4, e_76_7, e_76_10, e_76_11, e_76_13, e_76_22, e_76_23, true_and, and_true, and_self, false_and, and_false, if_true, if_false, ↓reduceIte, Nat.add_eq_left, Nat.left_eq_add, Nat.add_left_cancel_iff, not_false_eq_true, not_true_eq_false, i_pc, List.cons_append, List.nil_append, List.length_cons, List.length_nil, Nat.reduceEqDiff, Nat.reduceAdd, Nat.reduceMul, Nat.reduceSub, Nat.reduceLeDiff, Nat.reduceLT, Int32.reduceLT, Int32.reduceLE, Int32.reduceAdd, Int32.reduceSub, reduceCtorEq, true_or, or_true, or_false, false_or, ne_eq, Nat.zero_le, mo_k hO, hn, q1, c2]
    · have c3 : ¬ c ≤ 126 := Int32.not_le.mpr ((h1.resolve_left c1).resolve_left c2)
      simp only [e_76_0, e_76_1, e_76_4, e_76_7, e_76_10, e_76_11, e_76_13, e_76_16, e_76_17, e_76_19, e_76_22, e_76_23, true_and, and_true, and_self, false_and, and_false, if_true, if_false, ↓reduceIte, Nat.add_eq_left, Nat.left_eq_add, Nat.add_left_cancel_iff, not_false_eq_true, not_true_eq_false, i_pc, List.cons_append, List.nil_append, List.length_cons, List.length_nil, Nat.reduceEqDiff, Nat.reduceAdd, Nat.reduceMul, Nat.reduceSub, Nat.reduceLeDiff, Nat.reduceLT, Int32.reduceLT, Int32.reduceLE, Int32.reduceAdd, Int32.reduceSub, reduceCtorEq, true_or, or_true, or_false, false_or, ne_eq, Nat.zero_le, mo_k hO, hn, q1, c2, c3]
theorem m_state (hO : MO h) : Rn xs L (d + 1) 114 [.inr (some 49)] h (some (.inl (hI h 49 30)), h) := by
  rw [i_rn]
  show X xs L d 114 (0, [some (.inr (some 49))], [], h) _
  simp only [e_114_0, e_114_1, e_114_4, true_and, and_true, and_self, false_and, and_false, if_true, if_false, ↓reduceIte, Nat.add_eq_left, Nat.left_eq_add, Nat.add_left_cancel_iff, not_false_eq_true, not_true_eq_false, i_pc, List.cons_append, List.nil_append, List.length_cons, List.length_nil, Nat.reduceEqDiff, Nat.reduceAdd, Nat.reduceMul, Nat.reduceSub, Nat.reduceLeDiff, Nat.reduceLT, Int32.reduceLT, Int32.reduceLE, Int32.reduceAdd, Int32.reduceSub, reduceCtorEq, true_or, or_true, or_false, false_or, ne_eq, Nat.zero_le, mo_k hO]
theorem m_result (hO : MO h) : Rn xs L (d + 1) 115 [.inr (some 49)] h (some (.inl (hI h 49 31)), h) := by
  rw [i_rn]
  show X xs L d 115 (0, [some (.inr (some 49))], [], h) _
  simp only [e_115_0, e_115_1, e_115_4, true_and, and_true, and_self, false_and, and_false, if_true, if_false, ↓reduceIte, Nat.add_eq_left, Nat.left_eq_add, Nat.add_left_cancel_iff, not_false_eq_true, not_true_eq_false, i_pc, List.cons_append, List.nil_append, List.length_cons, List.length_nil, Nat.reduceEqDiff, Nat.reduceAdd, Nat.reduceMul, Nat.reduceSub, Nat.reduceLeDiff, Nat.reduceLT, Int32.reduceLT, Int32.reduceLE, Int32.reduceAdd, Int32.reduceSub, reduceCtorEq, true_or, or_true, or_false, false_or, ne_eq, Nat.zero_le, mo_k hO]
theorem m_points (hO : MO h) : Rn xs L (d + 1) 116 [.inr (some 49)] h (some (.inl (hI h 49 32)), h) := by
  rw [i_rn]
  show X xs L d 116 (0, [some (.inr (some 49))], [], h) _
  simp only [e_116_0, e_116_1, e_116_4, true_and, and_true, and_self, false_and, and_false, if_true, if_false, ↓reduceIte, Nat.add_eq_left, Nat.left_eq_add, Nat.add_left_cancel_iff, not_false_eq_true, not_true_eq_false, i_pc, List.cons_append, List.nil_append, List.length_cons, List.length_nil, Nat.reduceEqDiff, Nat.reduceAdd, Nat.reduceMul, Nat.reduceSub, Nat.reduceLeDiff, Nat.reduceLT, Int32.reduceLT, Int32.reduceLE, Int32.reduceAdd, Int32.reduceSub, reduceCtorEq, true_or, or_true, or_false, false_or, ne_eq, Nat.zero_le, mo_k hO]
theorem m_value (hO : MO h) : Rn xs L (d + 1) 124 [.inr (some 49)] h (some (.inl (hI h 49 34)), h) := by
  rw [i_rn]
  show X xs L d 124 (0, [some (.inr (some 49))], [], h) _
  simp only [e_124_0, e_124_1, e_124_4, true_and, and_true, and_self, false_and, and_false, if_true, if_false, ↓reduceIte, Nat.add_eq_left, Nat.left_eq_add, Nat.add_left_cancel_iff, not_false_eq_true, not_true_eq_false, i_pc, List.cons_append, List.nil_append, List.length_cons, List.length_nil, Nat.reduceEqDiff, Nat.reduceAdd, Nat.reduceMul, Nat.reduceSub, Nat.reduceLeDiff, Nat.reduceLT, Int32.reduceLT, Int32.reduceLE, Int32.reduceAdd, Int32.reduceSub, reduceCtorEq, true_or, or_true, or_false, false_or, ne_eq, Nat.zero_le, mo_k hO]
theorem m_isLine {b : Int32} (hO : MO h) : Rn xs L (d + 1) 108 [.inr (some 49), .inl b] h (some (.inl (bI (decide (¬ hI h 49 4 = 0 ∧ ¬ b < 0 ∧ b < hI h 49 5)))), h) := by
  rw [i_rn]
  show X xs L d 108 (0, [some (.inr (some 49)), some (.inl b)], [], h) _
  by_cases c0 : hI h 49 4 = 0
  · rw [bI_f (fun z => z.1 c0)]
    simp only [e_108_0, e_108_1, e_108_4, e_108_23, e_108_24, true_and, and_true, and_self, false_and, and_false, if_true, if_false, ↓reduceIte, Nat.add_eq_left, Nat.left_eq_add, Nat.add_left_cancel_iff, not_false_eq_true, not_true_eq_false, i_pc, List.cons_append, List.nil_append, List.length_cons, List.length_nil, Nat.reduceEqDiff, Nat.reduceAdd, Nat.reduceMul, Nat.reduceSub, Nat.reduceLeDiff, Nat.reduceLT, Int32.reduceLT, Int32.reduceLE, Int32.reduceAdd, Int32.reduceSub, reduceCtorEq, true_or, or_true, or_false, false_or, ne_eq, Nat.zero_le, mo_k hO, c0]
  by_cases c1 : b < 0
  · rw [bI_f (fun z => z.2.1 c1)]
    simp only [e_108_0, e_108_1, e_108_4, e_108_7, e_108_8, e_108_23, e_108_24, true_and, and_true, and_self, false_and, and_false, if_true, if_false, ↓reduceIte, Nat.add_eq_left, Nat.left_eq_add, Nat.add_left_cancel_iff, not_false_eq_true, not_true_eq_false, i_pc, List.cons_append, List.nil_append, List.length_cons, List.length_nil, Nat.reduceEqDiff, Nat.reduceAdd, Nat.reduceMul, Nat.reduceSub, Nat.reduceLeDiff, Nat.reduceLT, Int32.reduceLT, Int32.reduceLE, Int32.reduceAdd, Int32.reduceSub, reduceCtorEq, true_or, or_true, or_false, false_or, ne_eq, Nat.zero_le, mo_k hO, c0, c1]
  · by_cases c2 : hI h 49 5 ≤ b
    · rw [bI_f (fun z => absurd z.2.2 (Int32.not_lt.mpr c2))]
      simp only [e_108_0, e_108_1, e_108_4, e_108_7, e_108_8, e_108_11, e_108_12, e_108_13, e_108_16, e_108_19, e_108_20, e_108_23, e_108_24, true_and, and_true, and_self, false_and, and_false, if_true, if_false, ↓reduceIte, Nat.add_eq_left, Nat.left_eq_add, Nat.add_left_cancel_iff, not_false_eq_true, not_true_eq_false, i_pc, List.cons_append, List.nil_append, List.length_cons, List.length_nil, Nat.reduceEqDiff, Nat.reduceAdd, Nat.reduceMul, Nat.reduceSub, Nat.reduceLeDiff, Nat.reduceLT, Int32.reduceLT, Int32.reduceLE, Int32.reduceAdd, Int32.reduceSub, reduceCtorEq, true_or, or_true, or_false, false_or, ne_eq, Nat.zero_le, mo_k hO, c0, c1, c2]
    · rw [bI_t ⟨c0, c1, Int32.not_le.mp c2⟩]
      simp only [e_108_0, e_108_1, e_108_4, e_108_7, e_108_8, e_108_11, e_108_12, e_108_13, e_108_16, e_108_19, e_108_20, e_108_23, e_108_24, true_and, and_true, and_self, false_and, and_false, if_true, if_false, ↓reduceIte, Nat.add_eq_left, Nat.left_eq_add, Nat.add_left_cancel_iff, not_false_eq_true, not_true_eq_false, i_pc, List.cons_append, List.nil_append, List.length_cons, List.length_nil, Nat.reduceEqDiff, Nat.reduceAdd, Nat.reduceMul, Nat.reduceSub, Nat.reduceLeDiff, Nat.reduceLT, Int32.reduceLT, Int32.reduceLE, Int32.reduceAdd, Int32.reduceSub, reduceCtorEq, true_or, or_true, or_false, false_or, ne_eq, Nat.zero_le, mo_k hO, c0, c1, c2]
end MJ

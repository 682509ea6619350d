-- the model's small methods: watch, hits, variables
section MN
variable {xs : Nat → Int32} {L d : Nat} {h h2 : Hp} {res : Res} {t n : Nat}
theorem m_watch {b : Int32} (hO : MO h) (hb : b = 0 ∨ b = 1) : Rn xs L (d + 1) 113 [.inr (some 49), .inl b] h (none, sI h 49 33 b) := by
  rw [i_rn]
  show X xs L d 113 (0, [some (.inr (some 49)), some (.inl b)], [], h) _
  simp only [e_113_0, e_113_1, e_113_2, e_113_5, true_and, and_true, and_self, false_and, and_false, if_true, if_false, ↓reduceIte, Nat.add_eq_left, Nat.left_eq_add, Nat.add_left_cancel_iff, not_false_eq_true, not_true_eq_false, i_pc, List.cons_append, List.nil_append, List.length_cons, List.length_nil, Nat.reduceEqDiff, Nat.reduceAdd, Nat.reduceMul, Nat.reduceSub, Nat.reduceLeDiff, Nat.reduceLT, Int32.reduceLT, Int32.reduceLE, Int32.reduceAdd, Int32.reduceSub, reduceCtorEq, true_or, or_true, or_false, false_or, ne_eq, Nat.zero_le, mo_k hO, hb]
theorem m_var_no {b v : Int32} (hO : MO h) (hb : ¬ hI h 49 30 = 1 ∨ b < 0 ∨ hI h 62 0 ≤ b) : Rn xs L (d + 2) 121 [.inr (some 49), .inl b, .inl v] h (some (.inl 0), h) := by
  rw [i_rn]
  show X xs L (d + 1) 121 (0, [some (.inr (some 49)), some (.inl b), some (.inl v), none], [], h) _
  simp only [e_121_0, e_121_1, e_121_2, true_and, and_true, and_self, false_and, and_false, if_true, if_false, ↓reduceIte, Nat.add_eq_left, Nat.left_eq_add, Nat.add_left_cancel_iff, not_false_eq_true, not_true_eq_false, i_pc, List.cons_append, List.nil_append, List.length_cons, List.length_nil, Nat.reduceEqDiff, Nat.reduceAdd, Nat.reduceMul, Nat.reduceSub, Nat.reduceLeDiff, Nat.reduceLT, Int32.reduceLT, Int32.reduceLE, Int32.reduceAdd, Int32.reduceSub, reduceCtorEq, true_or, or_true, or_false, false_or, ne_eq, Nat.zero_le, mo_k hO]
  refine ⟨_, m_frame_no hO hb, ?_⟩
  simp only [e_121_5, e_121_6, e_121_7, e_121_19, e_121_20, e_121_34, true_and, and_true, and_self, false_and, and_false, if_true, if_false, ↓reduceIte, Nat.add_eq_left, Nat.left_eq_add, Nat.add_left_cancel_iff, not_false_eq_true, not_true_eq_false, i_pc, List.cons_append, List.nil_append, List.length_cons, List.length_nil, Nat.reduceEqDiff, Nat.reduceAdd, Nat.reduceMul, Nat.reduceSub, Nat.reduceLeDiff, Nat.reduceLT, Int32.reduceLT, Int32.reduceLE, Int32.reduceAdd, Int32.reduceSub, reduceCtorEq, true_or, or_true, or_false, false_or, ne_eq, Nat.zero_le, Option.toList, show ((-1 : Int32) < 0) = True from by decide]
theorem m_set_no {b v w : Int32} (hO : MO h) (hb : ¬ hI h 49 30 = 1 ∨ b < 0 ∨ hI h 62 0 ≤ b) : Rn xs L (d + 2) 122 [.inr (some 49), .inl b, .inl v, .inl w] h (some (.inl 0), h) := by
  rw [i_rn]
  show X xs L (d + 1) 122 (0, [some (.inr (some 49)), some (.inl b), some (.inl v), some (.inl w), none], [], h) _
  simp only [e_122_0, e_122_1, e_122_2, true_and, and_true, and_self, false_and, and_false, if_true, if_false, ↓reduceIte, Nat.add_eq_left, Nat.left_eq_add, Nat.add_left_cancel_iff, not_false_eq_true, not_true_eq_false, i_pc, List.cons_append, List.nil_append, List.length_cons, List.length_nil, Nat.reduceEqDiff, Nat.reduceAdd, Nat.reduceMul, Nat.reduceSub, Nat.reduceLeDiff, Nat.reduceLT, Int32.reduceLT, Int32.reduceLE, Int32.reduceAdd, Int32.reduceSub, reduceCtorEq, true_or, or_true, or_false, false_or, ne_eq, Nat.zero_le, mo_k hO]
  refine ⟨_, m_frame_no hO hb, ?_⟩
  simp only [e_122_5, e_122_7, e_122_9, e_122_21, e_122_22, true_and, and_true, and_self, false_and, and_false, if_true, if_false, ↓reduceIte, Nat.add_eq_left, Nat.left_eq_add, Nat.add_left_cancel_iff, not_false_eq_true, not_true_eq_false, i_pc, List.cons_append, List.nil_append, List.length_cons, List.length_nil, Nat.reduceEqDiff, Nat.reduceAdd, Nat.reduceMul, Nat.reduceSub, Nat.reduceLeDiff, Nat.reduceLT, Int32.reduceLT, Int32.reduceLE, Int32.reduceAdd, Int32.reduceSub, reduceCtorEq, true_or, or_true, or_false, false_or, ne_eq, Nat.zero_le, Option.toList, show ((-1 : Int32) < 0) = True from by decide]
theorem v_lim {v : Int32} (c1 : ¬ v < 0) (c2 : ¬ 6 ≤ v) : v ≤ 5 ∧ ∃ j, j < 6 ∧ v = nI j := by
  have q : v ≤ 5 := Int32.not_lt.mp (fun z => c2 (Int32.not_lt.mp (fun z2 => by
    have q1 := Int32.lt_iff_toInt_lt.mp z
    have q2 := Int32.lt_iff_toInt_lt.mp z2
    rw [show (5 : Int32).toInt = 5 from by decide] at q1
    rw [show (6 : Int32).toInt = 6 from by decide] at q2
    omega)))
  obtain ⟨j, hj, e⟩ := nI_of2 (M := 5) (n := 5) (by decide) c1 q
  exact ⟨q, j, by omega, e⟩
theorem m_var {b : Nat} {v : Int32} (hO : MO h) (hs : hI h 49 30 = 1) (hd : hI h 62 0 = nI t) (ht : t ≤ 6) (hb : b < t) : Rn xs L (d + 2) 121 [.inr (some 49), .inl (nI b), .inl v] h (some (.inl (if v < 0 then 0 else if 6 ≤ v then 0 else hI h 66 (6 * (t - 1 - b) + v.toNatClampNeg))), h) := by
  have c0 : ¬ nI (t - 1 - b) < 0 := Int32.not_lt.mpr (nI_le (a := 0) (by omega) (by omega))
  rw [i_rn]
  show X xs L (d + 1) 121 (0, [some (.inr (some 49)), some (.inl (nI b)), some (.inl v), none], [], h) _
  simp only [e_121_0, e_121_1, e_121_2, true_and, and_true, and_self, false_and, and_false, if_true, if_false, ↓reduceIte, Nat.add_eq_left, Nat.left_eq_add, Nat.add_left_cancel_iff, not_false_eq_true, not_true_eq_false, i_pc, List.cons_append, List.nil_append, List.length_cons, List.length_nil, Nat.reduceEqDiff, Nat.reduceAdd, Nat.reduceMul, Nat.reduceSub, Nat.reduceLeDiff, Nat.reduceLT, Int32.reduceLT, Int32.reduceLE, Int32.reduceAdd, Int32.reduceSub, reduceCtorEq, true_or, or_true, or_false, false_or, ne_eq, Nat.zero_le, mo_k hO]
  refine ⟨_, m_frame hO hs hd ht hb, ?_⟩
  by_cases c1 : v < 0
  · simp only [e_121_5, e_121_6, e_121_7, e_121_10, e_121_11, e_121_19, e_121_20, e_121_34, true_and, and_true, and_self, false_and, and_false, if_true, if_false, ↓reduceIte, Nat.add_eq_left, Nat.left_eq_add, Nat.add_left_cancel_iff, not_false_eq_true, not_true_eq_false, i_pc, List.cons_append, List.nil_append, List.length_cons, List.length_nil, Nat.reduceEqDiff, Nat.reduceAdd, Nat.reduceMul, Nat.reduceSub, Nat.reduceLeDiff, Nat.reduceLT, Int32.reduceLT, Int32.reduceLE, Int32.reduceAdd, Int32.reduceSub, reduceCtorEq, true_or, or_true, or_false, false_or, ne_eq, Nat.zero_le, Option.toList, c0, c1]
  by_cases c2 : 6 ≤ v
  · have c3 : ¬ v ≤ 5 := Int32.not_le.mpr (Int32.lt_of_lt_of_le (by decide) c2)
    simp only [e_121_5, e_121_6, e_121_7, e_121_10, e_121_11, e_121_14, e_121_15, e_121_16, e_121_19, e_121_20, e_121_34, true_and, and_true, and_self, false_and, and_false, if_true, if_false, ↓reduceIte, Nat.add_eq_left, Nat.left_eq_add, Nat.add_left_cancel_iff, not_false_eq_true, not_true_eq_false, i_pc, List.cons_append, List.nil_append, List.length_cons, List.length_nil, Nat.reduceEqDiff, Nat.reduceAdd, Nat.reduceMul, Nat.reduceSub, Nat.reduceLeDiff, Nat.reduceLT, Int32.reduceLT, Int32.reduceLE, Int32.reduceAdd, Int32.reduceSub, reduceCtorEq, true_or, or_true, or_false, false_or, ne_eq, Nat.zero_le, Option.toList, c0, c1, c2, c3]
  obtain ⟨c3, j, hj, rfl⟩ := v_lim c1 c2
  have c4 : vp_in (nI (6 * (t - 1 - b) + j)) 72 := vin (by omega) (by decide)
  simp only [e_121_5, e_121_6, e_121_7, e_121_10, e_121_11, e_121_14, e_121_15, e_121_16, e_121_23, e_121_24, e_121_27, e_121_29, e_121_30, e_121_31, e_121_32, e_121_33, e_121_34, true_and, and_true, and_self, false_and, and_false, if_true, if_false, ↓reduceIte, Nat.add_eq_left, Nat.left_eq_add, Nat.add_left_cancel_iff, not_false_eq_true, not_true_eq_false, i_pc, List.cons_append, List.nil_append, List.length_cons, List.length_nil, Nat.reduceEqDiff, Nat.reduceAdd, Nat.reduceMul, Nat.reduceSub, Nat.reduceLeDiff, Nat.reduceLT, Int32.reduceLT, Int32.reduceLE, Int32.reduceAdd, Int32.reduceSub, reduceCtorEq, true_or, or_true, or_false, false_or, ne_eq, Nat.zero_le, Option.toList, mo_k hO, mo_r66 hO, mo_k66 hO, mo_l66 hO, c0, c1, c2, c3, c4, six, nI_cl (show j < 2 ^ 31 by omega), nI_cl (show 6 * (t - 1 - b) + j < 2 ^ 31 by omega)]
theorem m_set {b : Nat} {v w : Int32} (hO : MO h) (hs : hI h 49 30 = 1) (hd : hI h 62 0 = nI t) (ht : t ≤ 6) (hb : b < t) : Rn xs L (d + 2) 122 [.inr (some 49), .inl (nI b), .inl v, .inl w] h (if v < 0 then (some (.inl 0), h) else if 6 ≤ v then (some (.inl 0), h) else (some (.inl 1), sI h 66 (6 * (t - 1 - b) + v.toNatClampNeg) w)) := by
  have c0 : ¬ nI (t - 1 - b) < 0 := Int32.not_lt.mpr (nI_le (a := 0) (by omega) (by omega))
  rw [i_rn]
  show X xs L (d + 1) 122 (0, [some (.inr (some 49)), some (.inl (nI b)), some (.inl v), some (.inl w), none], [], h) _
  simp only [e_122_0, e_122_1, e_122_2, true_and, and_true, and_self, false_and, and_false, if_true, if_false, ↓reduceIte, Nat.add_eq_left, Nat.left_eq_add, Nat.add_left_cancel_iff, not_false_eq_true, not_true_eq_false, i_pc, List.cons_append, List.nil_append, List.length_cons, List.length_nil, Nat.reduceEqDiff, Nat.reduceAdd, Nat.reduceMul, Nat.reduceSub, Nat.reduceLeDiff, Nat.reduceLT, Int32.reduceLT, Int32.reduceLE, Int32.reduceAdd, Int32.reduceSub, reduceCtorEq, true_or, or_true, or_false, false_or, ne_eq, Nat.zero_le, mo_k hO]
  refine ⟨_, m_frame hO hs hd ht hb, ?_⟩
  by_cases c1 : v < 0
  · simp only [e_122_5, e_122_7, e_122_9, e_122_12, e_122_13, e_122_21, e_122_22, true_and, and_true, and_self, false_and, and_false, if_true, if_false, ↓reduceIte, Nat.add_eq_left, Nat.left_eq_add, Nat.add_left_cancel_iff, not_false_eq_true, not_true_eq_false, i_pc, List.cons_append, List.nil_append, List.length_cons, List.length_nil, Nat.reduceEqDiff, Nat.reduceAdd, Nat.reduceMul, Nat.reduceSub, Nat.reduceLeDiff, Nat.reduceLT, Int32.reduceLT, Int32.reduceLE, Int32.reduceAdd, Int32.reduceSub, reduceCtorEq, true_or, or_true, or_false, false_or, ne_eq, Nat.zero_le, Option.toList, c0, c1]
  by_cases c2 : 6 ≤ v
  · have c3 : ¬ v ≤ 5 := Int32.not_le.mpr (Int32.lt_of_lt_of_le (by decide) c2)
    simp only [e_122_5, e_122_7, e_122_9, e_122_12, e_122_13, e_122_16, e_122_17, e_122_18, e_122_21, e_122_22, true_and, and_true, and_self, false_and, and_false, if_true, if_false, ↓reduceIte, Nat.add_eq_left, Nat.left_eq_add, Nat.add_left_cancel_iff, not_false_eq_true, not_true_eq_false, i_pc, List.cons_append, List.nil_append, List.length_cons, List.length_nil, Nat.reduceEqDiff, Nat.reduceAdd, Nat.reduceMul, Nat.reduceSub, Nat.reduceLeDiff, Nat.reduceLT, Int32.reduceLT, Int32.reduceLE, Int32.reduceAdd, Int32.reduceSub, reduceCtorEq, true_or, or_true, or_false, false_or, ne_eq, Nat.zero_le, Option.toList, c0, c1, c2, c3]
  obtain ⟨c3, j, hj, rfl⟩ := v_lim c1 c2
  have c4 : vp_in (nI (6 * (t - 1 - b) + j)) 72 := vin (by omega) (by decide)
  simp only [e_122_5, e_122_7, e_122_9, e_122_12, e_122_13, e_122_16, e_122_17, e_122_18, e_122_23, e_122_24, e_122_27, e_122_29, e_122_31, e_122_32, e_122_33, e_122_34, e_122_35, e_122_36, e_122_37, true_and, and_true, and_self, false_and, and_false, if_true, if_false, ↓reduceIte, Nat.add_eq_left, Nat.left_eq_add, Nat.add_left_cancel_iff, not_false_eq_true, not_true_eq_false, i_pc, List.cons_append, List.nil_append, List.length_cons, List.length_nil, Nat.reduceEqDiff, Nat.reduceAdd, Nat.reduceMul, Nat.reduceSub, Nat.reduceLeDiff, Nat.reduceLT, Int32.reduceLT, Int32.reduceLE, Int32.reduceAdd, Int32.reduceSub, reduceCtorEq, true_or, or_true, or_false, false_or, ne_eq, Nat.zero_le, Option.toList, mo_k hO, mo_r66 hO, mo_k66 hO, mo_l66 hO, c0, c1, c2, c3, c4, six, nI_cl (show j < 2 ^ 31 by omega), nI_cl (show 6 * (t - 1 - b) + j < 2 ^ 31 by omega)]
theorem m_start_no (hO : MO h) (hl : hI h 49 4 = 0) : Rn xs L (d + 1) 104 [.inr (some 49)] h (some (.inl (-1)), h) := by
  rw [i_rn]
  show X xs L d 104 (0, [some (.inr (some 49)), none], [], h) _
  simp only [e_104_0, e_104_1, e_104_4, e_104_7, e_104_8, true_and, and_true, and_self, false_and, and_false, if_true, if_false, ↓reduceIte, Nat.add_eq_left, Nat.left_eq_add, Nat.add_left_cancel_iff, not_false_eq_true, not_true_eq_false, i_pc, List.cons_append, List.nil_append, List.length_cons, List.length_nil, Nat.reduceEqDiff, Nat.reduceAdd, Nat.reduceMul, Nat.reduceSub, Nat.reduceLeDiff, Nat.reduceLT, Int32.reduceLT, Int32.reduceLE, Int32.reduceAdd, Int32.reduceSub, reduceCtorEq, true_or, or_true, or_false, false_or, ne_eq, Nat.zero_le, mo_k hO, hl]
end MN

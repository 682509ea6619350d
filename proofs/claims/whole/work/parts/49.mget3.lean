-- the model's small methods: tails, variables
section ML
variable {xs : Nat → Int32} {L d : Nat} {h h2 : Hp} {res : Res} {t n : Nat}
theorem m_output {v : Int32} (hO : MO h) (hn : hI h 49 40 = nI n) (hb : n < 2 ^ 31) : Rn xs L (d + 1) 125 [.inr (some 49), .inl v] h (some (.inl (tbv 77 n v h)), h) := by
  rw [i_rn]
  show X xs L d 125 (0, [some (.inr (some 49)), some (.inl v)], [], h) _
  unfold tbv
  by_cases c1 : v = -1
  · simp only [e_125_0, e_125_1, e_125_2, e_125_5, e_125_6, e_125_9, e_125_50, true_and, and_true, and_self, false_and, and_false, if_true, if_false, ↓reduceIte, Nat.add_eq_left, Nat.left_eq_add, Nat.add_left_cancel_iff, not_false_eq_true, not_true_eq_false, i_pc, List.cons_append, List.nil_append, List.length_cons, List.length_nil, Nat.reduceEqDiff, Nat.reduceAdd, Nat.reduceMul, Nat.reduceSub, Nat.reduceLeDiff, Nat.reduceLT, Int32.reduceLT, Int32.reduceLE, Int32.reduceAdd, Int32.reduceSub, reduceCtorEq, true_or, or_true, or_false, false_or, ne_eq, Nat.zero_le, mo_k hO, c1, hn]
  by_cases c2 : v < 0
  · simp only [e_125_0, e_125_1, e_125_2, e_125_12, e_125_13, e_125_30, e_125_31, e_125_50, true_and, and_true, and_self, false_and, and_false, if_true, if_false, ↓reduceIte, Nat.add_eq_left, Nat.left_eq_add, Nat.add_left_cancel_iff, not_false_eq_true, not_true_eq_false, i_pc, List.cons_append, List.nil_append, List.length_cons, List.length_nil, Nat.reduceEqDiff, Nat.reduceAdd, Nat.reduceMul, Nat.reduceSub, Nat.reduceLeDiff, Nat.reduceLT, Int32.reduceLT, Int32.reduceLE, Int32.reduceAdd, Int32.reduceSub, reduceCtorEq, true_or, or_true, or_false, false_or, ne_eq, Nat.zero_le, c1, c2]
  by_cases c3 : 16 ≤ v
  · have c4 : 15 < v := Int32.lt_of_lt_of_le (by decide) c3
    simp only [e_125_0, e_125_1, e_125_2, e_125_12, e_125_13, e_125_16, e_125_17, e_125_19, e_125_30, e_125_31, e_125_50, true_and, and_true, and_self, false_and, and_false, if_true, if_false, ↓reduceIte, Nat.add_eq_left, Nat.left_eq_add, Nat.add_left_cancel_iff, not_false_eq_true, not_true_eq_false, i_pc, List.cons_append, List.nil_append, List.length_cons, List.length_nil, Nat.reduceEqDiff, Nat.reduceAdd, Nat.reduceMul, Nat.reduceSub, Nat.reduceLeDiff, Nat.reduceLT, Int32.reduceLT, Int32.reduceLE, Int32.reduceAdd, Int32.reduceSub, reduceCtorEq, true_or, or_true, or_false, false_or, ne_eq, Nat.zero_le, c1, c2, c3, c4]
  have c4 : ¬ 15 < v := fun z => c3 (Int32.not_lt.mp (fun z2 => by
    have q1 := Int32.lt_iff_toInt_lt.mp z
    have q2 := Int32.lt_iff_toInt_lt.mp z2
    rw [show (15 : Int32).toInt = 15 from by decide] at q1
    rw [show (16 : Int32).toInt = 16 from by decide] at q2
    omega))
  obtain ⟨j, hj, rfl⟩ := nI_of2 (M := 15) (n := 15) (by decide) c2 (Int32.not_lt.mp c4)
  by_cases c5 : nI j < nI n
  · have hjn : j < n := by
      have q1 := Int32.lt_iff_toInt_lt.mp c5
      rw [nI_toInt (by omega), nI_toInt hb] at q1
      omega
    have e1 : nI n - 1 - nI j = nI (n - 1 - j) := by rw [show (1 : Int32) = nI 1 from rfl, pk_sub (by omega), pk_sub (by omega)]
    have e2 := rem16 (u := n - 1 - j) (by omega)
    have c6 : vp_in (nI ((n - 1 - j) % 16)) 16 := vin (by omega) (by decide)
    simp only [e_125_0, e_125_1, e_125_2, e_125_12, e_125_13, e_125_16, e_125_17, e_125_19, e_125_22, e_125_23, e_125_24, e_125_27, e_125_34, e_125_35, e_125_38, e_125_39, e_125_42, e_125_43, e_125_44, e_125_45, e_125_46, e_125_48, e_125_49, e_125_50, true_and, and_true, and_self, false_and, and_false, if_true, if_false, ↓reduceIte, Nat.add_eq_left, Nat.left_eq_add, Nat.add_left_cancel_iff, not_false_eq_true, not_true_eq_false, i_pc, List.cons_append, List.nil_append, List.length_cons, List.length_nil, Nat.reduceEqDiff, Nat.reduceAdd, Nat.reduceMul, Nat.reduceSub, Nat.reduceLeDiff, Nat.reduceLT, Int32.reduceLT, Int32.reduceLE, Int32.reduceAdd, Int32.reduceSub, reduceCtorEq, true_or, or_true, or_false, false_or, ne_eq, Nat.zero_le, mo_k hO, mo_r78 hO, mo_k78 hO, mo_l78 hO, hn, c1, c2, c3, c4, c5, e1, e2, c6, nI_cl (show j < 2 ^ 31 by omega), nI_cl (show (n - 1 - j) % 16 < 2 ^ 31 by omega), show ((16 : Int32) = 0) = False from by decide]
  · simp only [e_125_0, e_125_1, e_125_2, e_125_12, e_125_13, e_125_16, e_125_17, e_125_19, e_125_22, e_125_23, e_125_24, e_125_27, e_125_30, e_125_31, e_125_50, true_and, and_true, and_self, false_and, and_false, if_true, if_false, ↓reduceIte, Nat.add_eq_left, Nat.left_eq_add, Nat.add_left_cancel_iff, not_false_eq_true, not_true_eq_false, i_pc, List.cons_append, List.nil_append, List.length_cons, List.length_nil, Nat.reduceEqDiff, Nat.reduceAdd, Nat.reduceMul, Nat.reduceSub, Nat.reduceLeDiff, Nat.reduceLT, Int32.reduceLT, Int32.reduceLE, Int32.reduceAdd, Int32.reduceSub, reduceCtorEq, true_or, or_true, or_false, false_or, ne_eq, Nat.zero_le, mo_k hO, hn, c1, c2, c3, c4, c5]
theorem m_note {v : Int32} (hO : MO h) (hn : hI h 49 42 = nI n) (hb : n < 2 ^ 31) : Rn xs L (d + 1) 126 [.inr (some 49), .inl v] h (some (.inl (tbv 78 n v h)), h) := by
  rw [i_rn]
  show X xs L d 126 (0, [some (.inr (some 49)), some (.inl v)], [], h) _
  unfold tbv
  by_cases c1 : v = -1
  · simp only [e_126_0, e_126_1, e_126_2, e_126_5, e_126_6, e_126_9, e_126_50, true_and, and_true, and_self, false_and, and_false, if_true, if_false, ↓reduceIte, Nat.add_eq_left, Nat.left_eq_add, Nat.add_left_cancel_iff, not_false_eq_true, not_true_eq_false, i_pc, List.cons_append, List.nil_append, List.length_cons, List.length_nil, Nat.reduceEqDiff, Nat.reduceAdd, Nat.reduceMul, Nat.reduceSub, Nat.reduceLeDiff, Nat.reduceLT, Int32.reduceLT, Int32.reduceLE, Int32.reduceAdd, Int32.reduceSub, reduceCtorEq, true_or, or_true, or_false, false_or, ne_eq, Nat.zero_le, mo_k hO, c1, hn]
  by_cases c2 : v < 0
  · simp only [e_126_0, e_126_1, e_126_2, e_126_12, e_126_13, e_126_30, e_126_31, e_126_50, true_and, and_true, and_self, false_and, and_false, if_true, if_false, ↓reduceIte, Nat.add_eq_left, Nat.left_eq_add, Nat.add_left_cancel_iff, not_false_eq_true, not_true_eq_false, i_pc, List.cons_append, List.nil_append, List.length_cons, List.length_nil, Nat.reduceEqDiff, Nat.reduceAdd, Nat.reduceMul, Nat.reduceSub, Nat.reduceLeDiff, Nat.reduceLT, Int32.reduceLT, Int32.reduceLE, Int32.reduceAdd, Int32.reduceSub, reduceCtorEq, true_or, or_true, or_false, false_or, ne_eq, Nat.zero_le, c1, c2]
  by_cases c3 : 16 ≤ v
  · have c4 : 15 < v := Int32.lt_of_lt_of_le (by decide) c3
    simp only [e_126_0, e_126_1, e_126_2, e_126_12, e_126_13, e_126_16, e_126_17, e_126_19, e_126_30, e_126_31, e_126_50, true_and, and_true, and_self, false_and, and_false, if_true, if_false, ↓reduceIte, Nat.add_eq_left, Nat.left_eq_add, Nat.add_left_cancel_iff, not_false_eq_true, not_true_eq_false, i_pc, List.cons_append, List.nil_append, List.length_cons, List.length_nil, Nat.reduceEqDiff, Nat.reduceAdd, Nat.reduceMul, Nat.reduceSub, Nat.reduceLeDiff, Nat.reduceLT, Int32.reduceLT, Int32.reduceLE, Int32.reduceAdd, Int32.reduceSub, reduceCtorEq, true_or, or_true, or_false, false_or, ne_eq, Nat.zero_le, c1, c2, c3, c4]
  have c4 : ¬ 15 < v := fun z => c3 (Int32.not_lt.mp (fun z2 => by
    have q1 := Int32.lt_iff_toInt_lt.mp z
    have q2 := Int32.lt_iff_toInt_lt.mp z2
    rw [show (15 : Int32).toInt = 15 from by decide] at q1
    rw [show (16 : Int32).toInt = 16 from by decide] at q2
    omega))
  obtain ⟨j, hj, rfl⟩ := nI_of2 (M := 15) (n := 15) (by decide) c2 (Int32.not_lt.mp c4)
  by_cases c5 : nI j < nI n
  · have hjn : j < n := by
      have q1 := Int32.lt_iff_toInt_lt.mp c5
      rw [nI_toInt (by omega), nI_toInt hb] at q1
      omega
    have e1 : nI n - 1 - nI j = nI (n - 1 - j) := by rw [show (1 : Int32) = nI 1 from rfl, pk_sub (by omega), pk_sub (by omega)]
    have e2 := rem16 (u := n - 1 - j) (by omega)
    have c6 : vp_in (nI ((n - 1 - j) % 16)) 16 := vin (by omega) (by decide)
    simp only [e_126_0, e_126_1, e_126_2, e_126_12, e_126_13, e_126_16, e_126_17, e_126_19, e_126_22, e_126_23, e_126_24, e_126_27, e_126_34, e_126_35, e_126_38, e_126_39, e_126_42, e_126_43, e_126_44, e_126_45, e_126_46, e_126_48, e_126_49, e_126_50, true_and, and_true, and_self, false_and, and_false, if_true, if_false, ↓reduceIte, Nat.add_eq_left, Nat.left_eq_add, Nat.add_left_cancel_iff, not_false_eq_true, not_true_eq_false, i_pc, List.cons_append, List.nil_append, List.length_cons, List.length_nil, Nat.reduceEqDiff, Nat.reduceAdd, Nat.reduceMul, Nat.reduceSub, Nat.reduceLeDiff, Nat.reduceLT, Int32.reduceLT, Int32.reduceLE, Int32.reduceAdd, Int32.reduceSub, reduceCtorEq, true_or, or_true, or_false, false_or, ne_eq, Nat.zero_le, mo_k hO, mo_r79 hO, mo_k79 hO, mo_l79 hO, hn, c1, c2, c3, c4, c5, e1, e2, c6, nI_cl (show j < 2 ^ 31 by omega), nI_cl (show (n - 1 - j) % 16 < 2 ^ 31 by omega), show ((16 : Int32) = 0) = False from by decide]
  · simp only [e_126_0, e_126_1, e_126_2, e_126_12, e_126_13, e_126_16, e_126_17, e_126_19, e_126_22, e_126_23, e_126_24, e_126_27, e_126_30, e_126_31, e_126_50, true_and, and_true, and_self, false_and, and_false, if_true, if_false, ↓reduceIte, Nat.add_eq_left, Nat.left_eq_add, Nat.add_left_cancel_iff, not_false_eq_true, not_true_eq_false, i_pc, List.cons_append, List.nil_append, List.length_cons, List.length_nil, Nat.reduceEqDiff, Nat.reduceAdd, Nat.reduceMul, Nat.reduceSub, Nat.reduceLeDiff, Nat.reduceLT, Int32.reduceLT, Int32.reduceLE, Int32.reduceAdd, Int32.reduceSub, reduceCtorEq, true_or, or_true, or_false, false_or, ne_eq, Nat.zero_le, mo_k hO, hn, c1, c2, c3, c4, c5]
end ML

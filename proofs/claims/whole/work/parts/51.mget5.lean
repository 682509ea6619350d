-- the model's small methods: hits, unstop, start
section MP
variable {xs : Nat → Int32} {L d : Nat} {h h1 h2 h3 : Hp} {res : Res} {l : Nat}
theorem m_hits_no {b : Int32} (hO : MO h) (hb : ¬ (¬ hI h 49 4 = 0 ∧ ¬ b < 0 ∧ b < hI h 49 5)) : Rn xs L (d + 2) 112 [.inr (some 49), .inl b] h (some (.inl (-1)), h) := by
  rw [i_rn]
  show X xs L (d + 1) 112 (0, [some (.inr (some 49)), some (.inl b)], [], h) _
  simp only [e_112_0, e_112_1, e_112_2, true_and, and_true, and_self, false_and, and_false, if_true, if_false, ↓reduceIte, Nat.add_eq_left, Nat.left_eq_add, Nat.add_left_cancel_iff, not_false_eq_true, not_true_eq_false, i_pc, List.cons_append, List.nil_append, List.length_cons, List.length_nil, Nat.reduceEqDiff, Nat.reduceAdd, Nat.reduceMul, Nat.reduceSub, Nat.reduceLeDiff, Nat.reduceLT, Int32.reduceLT, Int32.reduceLE, Int32.reduceAdd, Int32.reduceSub, reduceCtorEq, true_or, or_true, or_false, false_or, ne_eq, Nat.zero_le, mo_k hO]
  refine ⟨_, m_isLine hO, ?_⟩
  rw [bI_f hb]
  simp only [e_112_5, e_112_26, e_112_27, true_and, and_true, and_self, false_and, and_false, if_true, if_false, ↓reduceIte, Nat.add_eq_left, Nat.left_eq_add, Nat.add_left_cancel_iff, not_false_eq_true, not_true_eq_false, i_pc, List.cons_append, List.nil_append, List.length_cons, List.length_nil, Nat.reduceEqDiff, Nat.reduceAdd, Nat.reduceMul, Nat.reduceSub, Nat.reduceLeDiff, Nat.reduceLT, Int32.reduceLT, Int32.reduceLE, Int32.reduceAdd, Int32.reduceSub, reduceCtorEq, true_or, or_true, or_false, false_or, ne_eq, Nat.zero_le, Option.toList]
theorem m_hits (hO : MO h) (hb : ¬ hI h 49 4 = 0 ∧ ¬ nI l < 0 ∧ nI l < hI h 49 5) (hl : l < 40) : Rn xs L (d + 2) 112 [.inr (some 49), .inl (nI l)] h (some (.inl (if hI h 73 l = 0 then -1 else hI h 77 l)), h) := by
  have q1 : vp_in (nI l) 40 := vin hl (by decide)
  rw [i_rn]
  show X xs L (d + 1) 112 (0, [some (.inr (some 49)), some (.inl (nI l))], [], h) _
  simp only [e_112_0, e_112_1, e_112_2, true_and, and_true, and_self, false_and, and_false, if_true, if_false, ↓reduceIte, Nat.add_eq_left, Nat.left_eq_add, Nat.add_left_cancel_iff, not_false_eq_true, not_true_eq_false, i_pc, List.cons_append, List.nil_append, List.length_cons, List.length_nil, Nat.reduceEqDiff, Nat.reduceAdd, Nat.reduceMul, Nat.reduceSub, Nat.reduceLeDiff, Nat.reduceLT, Int32.reduceLT, Int32.reduceLE, Int32.reduceAdd, Int32.reduceSub, reduceCtorEq, true_or, or_true, or_false, false_or, ne_eq, Nat.zero_le, mo_k hO]
  refine ⟨_, m_isLine hO, ?_⟩
  rw [bI_t hb]
  by_cases c1 : hI h 73 l = 0
  · simp only [e_112_5, e_112_8, e_112_9, e_112_12, e_112_13, e_112_14, e_112_26, e_112_27, true_and, and_true, and_self, false_and, and_false, if_true, if_false, ↓reduceIte, Nat.add_eq_left, Nat.left_eq_add, Nat.add_left_cancel_iff, not_false_eq_true, not_true_eq_false, i_pc, List.cons_append, List.nil_append, List.length_cons, List.length_nil, Nat.reduceEqDiff, Nat.reduceAdd, Nat.reduceMul, Nat.reduceSub, Nat.reduceLeDiff, Nat.reduceLT, Int32.reduceLT, Int32.reduceLE, Int32.reduceAdd, Int32.reduceSub, reduceCtorEq, true_or, or_true, or_false, false_or, ne_eq, Nat.zero_le, Option.toList, mo_k hO, mo_r73 hO, mo_k73 hO, mo_l73 hO, q1, c1, nI_cl (show l < 2 ^ 31 by omega), show ((1 : Int32) = 0) = False from by decide]
  · simp only [e_112_5, e_112_8, e_112_9, e_112_12, e_112_13, e_112_14, e_112_17, e_112_18, e_112_21, e_112_22, e_112_23, e_112_27, true_and, and_true, and_self, false_and, and_false, if_true, if_false, ↓reduceIte, Nat.add_eq_left, Nat.left_eq_add, Nat.add_left_cancel_iff, not_false_eq_true, not_true_eq_false, i_pc, List.cons_append, List.nil_append, List.length_cons, List.length_nil, Nat.reduceEqDiff, Nat.reduceAdd, Nat.reduceMul, Nat.reduceSub, Nat.reduceLeDiff, Nat.reduceLT, Int32.reduceLT, Int32.reduceLE, Int32.reduceAdd, Int32.reduceSub, reduceCtorEq, true_or, or_true, or_false, false_or, ne_eq, Nat.zero_le, Option.toList, mo_k hO, mo_r73 hO, mo_k73 hO, mo_l73 hO, mo_r77 hO, mo_k77 hO, mo_l77 hO, q1, c1, nI_cl (show l < 2 ^ 31 by omega), show ((1 : Int32) = 0) = False from by decide]
theorem m_st_loop : ∀ (m i : Nat) (h : Hp), i + m = 40 → MO h → X xs L d 104 (45, [some (.inr (some 49)), some (.inl (nI 40))], [], sA h 77 (fun j => if i ≤ j ∧ j < 40 then 0 else hI h 77 j)) res → X xs L d 104 (26, [some (.inr (some 49)), some (.inl (nI i))], [], h) res := by
  intro m
  induction m with
  | zero =>
    intro i h hi hO hX
    have hi2 : i = 40 := by omega
    subst hi2
    rw [sA_id (fun j => if_neg (by omega))] at hX
    simp only [e_104_26, e_104_27, e_104_29, true_and, and_true, and_self, false_and, and_false, if_true, if_false, ↓reduceIte, Nat.add_eq_left, Nat.left_eq_add, Nat.add_left_cancel_iff, not_false_eq_true, not_true_eq_false, i_pc, List.cons_append, List.nil_append, List.length_cons, List.length_nil, Nat.reduceEqDiff, Nat.reduceAdd, Nat.reduceMul, Nat.reduceSub, Nat.reduceLeDiff, Nat.reduceLT, Int32.reduceLT, Int32.reduceLE, Int32.reduceAdd, Int32.reduceSub, reduceCtorEq, true_or, or_true, or_false, false_or, ne_eq, Nat.zero_le, show ((40 : Int32) ≤ nI 40) = True from by decide]
    exact hX
  | succ m ih =>
    intro i h hi hO hX
    have c1 : ¬ (40 : Int32) ≤ nI i := nI_ge (b := 40) (by omega) (by decide)
    have c2 : vp_in (nI i) 40 := vin (by omega) (by decide)
    rw [e_104_26]
    simp only [e_104_27, e_104_29, e_104_32, e_104_33, e_104_36, e_104_37, e_104_38, e_104_39, e_104_42, true_and, and_true, and_self, false_and, and_false, if_true, if_false, ↓reduceIte, Nat.add_eq_left, Nat.left_eq_add, Nat.add_left_cancel_iff, not_false_eq_true, not_true_eq_false, i_pc, List.cons_append, List.nil_append, List.length_cons, List.length_nil, Nat.reduceEqDiff, Nat.reduceAdd, Nat.reduceMul, Nat.reduceSub, Nat.reduceLeDiff, Nat.reduceLT, Int32.reduceLT, Int32.reduceLE, Int32.reduceAdd, Int32.reduceSub, reduceCtorEq, true_or, or_true, or_false, false_or, ne_eq, Nat.zero_le, mo_k hO, mo_r77 hO, mo_k77 hO, mo_l77 hO, c1, c2, nI_1, nI_cl (show i < 2 ^ 31 by omega)]
    refine ih (i + 1) _ (by omega) hO ?_
    rw [sA_sI]
    have e : (fun j => if i + 1 ≤ j ∧ j < 40 then (0 : Int32) else hI (sI h 77 i 0) 77 j) = fun j => if i ≤ j ∧ j < 40 then 0 else hI h 77 j := funext (fun j => by
      rw [hI_sI]
      by_cases q1 : j = i
      · subst q1
        rw [if_neg (by omega), if_pos ⟨rfl, rfl⟩, if_pos (by omega)]
      · rw [if_neg (show ¬ (77 = 77 ∧ j = i) from fun z => q1 z.2)]
        by_cases q2 : i + 1 ≤ j ∧ j < 40
        · rw [if_pos q2, if_pos (by omega)]
        · rw [if_neg q2, if_neg (by omega)])
    rw [e]
    exact hX
end MP

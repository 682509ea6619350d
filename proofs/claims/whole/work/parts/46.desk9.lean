-- the desk: stop
section DI
variable {xs : Nat → Int32} {L d : Nat} {h h1 h2 h3 : Hp} {res : Res} {pg n : Nat}
theorem d_break {o : Nat} {c : Option Nat} {ig lg : Int32} (ko : hK h o = 0) (hl : lg = 0 ∨ lg = 1) : Rn xs L (d + 1) 0 [.inr (some o), .inr c, .inl ig, .inl lg] h (none, sI (sI (sR h o 0 c) o 1 ig) o 2 lg) := by
  rw [i_rn]
  show X xs L d 0 (0, [some (.inr (some o)), some (.inr c), some (.inl ig), some (.inl lg)], [], h) _
  simp only [e_0_0, e_0_1, e_0_4, e_0_5, e_0_6, e_0_9, e_0_10, e_0_11, e_0_14, e_0_15, e_0_16, e_0_19, true_and, and_true, and_self, false_and, and_false, if_true, if_false, ↓reduceIte, Nat.add_eq_left, Nat.left_eq_add, Nat.add_left_cancel_iff, not_false_eq_true, not_true_eq_false, i_pc, List.cons_append, List.nil_append, List.length_cons, List.length_nil, Nat.reduceEqDiff, Nat.reduceAdd, Nat.reduceMul, Nat.reduceSub, Nat.reduceLeDiff, Nat.reduceLT, Int32.reduceLT, Int32.reduceLE, Int32.reduceAdd, Int32.reduceSub, reduceCtorEq, true_or, or_true, or_false, false_or, ne_eq, Nat.zero_le, hK_sR, hK_sI, ko, hl]
/-- from the cleared text on: c the condition, bare whether none was wanted -/
theorem d_stop_no {ln ig lg bare has : Int32} {c : Option Nat} (k3 : hK h 3 = 8) (hr : Rn xs L d 71 [.inr (some 3), .inl ln] h (some (.inl has), h)) (hb : has = 0 ∨ ig < 0 ∨ (c = none ∧ bare = 0)) : X xs L d 56 (50, [some (.inr (some 3)), some (.inl ln), some (.inl ig), some (.inl lg), some (.inl bare), some (.inr c)], [], h) (some (.inl 0), h) := by
  simp only [e_56_50, e_56_51, e_56_52, true_and, and_true, and_self, false_and, and_false, if_true, if_false, ↓reduceIte, Nat.add_eq_left, Nat.left_eq_add, Nat.add_left_cancel_iff, not_false_eq_true, not_true_eq_false, i_pc, List.cons_append, List.nil_append, List.length_cons, List.length_nil, Nat.reduceEqDiff, Nat.reduceAdd, Nat.reduceMul, Nat.reduceSub, Nat.reduceLeDiff, Nat.reduceLT, Int32.reduceLT, Int32.reduceLE, Int32.reduceAdd, Int32.reduceSub, reduceCtorEq, true_or, or_true, or_false, false_or, ne_eq, Nat.zero_le, k3]
  refine ⟨_, hr, ?_⟩
  by_cases c1 : has = 0
  · simp only [e_56_55, e_56_72, e_56_73, true_and, and_true, and_self, false_and, and_false, if_true, if_false, ↓reduceIte, Nat.add_eq_left, Nat.left_eq_add, Nat.add_left_cancel_iff, not_false_eq_true, not_true_eq_false, i_pc, List.cons_append, List.nil_append, List.length_cons, List.length_nil, Nat.reduceEqDiff, Nat.reduceAdd, Nat.reduceMul, Nat.reduceSub, Nat.reduceLeDiff, Nat.reduceLT, Int32.reduceLT, Int32.reduceLE, Int32.reduceAdd, Int32.reduceSub, reduceCtorEq, true_or, or_true, or_false, false_or, ne_eq, Nat.zero_le, Option.toList, c1]
  by_cases c2 : ig < 0
  · simp only [e_56_55, e_56_58, e_56_59, e_56_72, e_56_73, true_and, and_true, and_self, false_and, and_false, if_true, if_false, ↓reduceIte, Nat.add_eq_left, Nat.left_eq_add, Nat.add_left_cancel_iff, not_false_eq_true, not_true_eq_false, i_pc, List.cons_append, List.nil_append, List.length_cons, List.length_nil, Nat.reduceEqDiff, Nat.reduceAdd, Nat.reduceMul, Nat.reduceSub, Nat.reduceLeDiff, Nat.reduceLT, Int32.reduceLT, Int32.reduceLE, Int32.reduceAdd, Int32.reduceSub, reduceCtorEq, true_or, or_true, or_false, false_or, ne_eq, Nat.zero_le, Option.toList, c1, c2]
  obtain ⟨rfl, rfl⟩ := (hb.resolve_left c1).resolve_left c2
  simp only [e_56_55, e_56_58, e_56_59, e_56_62, e_56_64, e_56_67, e_56_69, e_56_72, e_56_73, true_and, and_true, and_self, false_and, and_false, if_true, if_false, ↓reduceIte, Nat.add_eq_left, Nat.left_eq_add, Nat.add_left_cancel_iff, not_false_eq_true, not_true_eq_false, i_pc, List.cons_append, List.nil_append, List.length_cons, List.length_nil, Nat.reduceEqDiff, Nat.reduceAdd, Nat.reduceMul, Nat.reduceSub, Nat.reduceLeDiff, Nat.reduceLT, Int32.reduceLT, Int32.reduceLE, Int32.reduceAdd, Int32.reduceSub, reduceCtorEq, true_or, or_true, or_false, false_or, ne_eq, Nat.zero_le, Option.toList, c1, c2]
def bkN (l : Nat) (c : Option Nat) (ig lg : Int32) (h : Hp) : Hp := sR (sI (sI (sR (nw h 0 0 4) (hN h) 0 c) (hN h) 1 ig) (hN h) 2 lg) 48 l (some (hN h))
theorem d_stop_yes {l : Nat} {ig lg bare : Int32} {c : Option Nat} (hD : DK h) (hN80 : 80 ≤ hN h) (hl : l < 40) (hr : Rn xs L (d + 1) 71 [.inr (some 3), .inl (nI l)] h (some (.inl 1), h)) (h1 : ¬ ig < 0) (hb : c = none → ¬ bare = 0) (hlg : lg = 0 ∨ lg = 1) : X xs L (d + 1) 56 (50, [some (.inr (some 3)), some (.inl (nI l)), some (.inl ig), some (.inl lg), some (.inl bare), some (.inr c)], [], h) (some (.inl 1), bkN l c ig lg h) := by
  obtain ⟨k3, r0, r1, r2, r3, r4, r5, k4, r40, k5, l5, k46, r46, k47, l47, k48, l48⟩ := hD
  have q1 : vp_in (nI l) 40 := vin hl (by decide)
  have n48 : ¬ 48 = hN h := by omega
  simp only [e_56_50, e_56_51, e_56_52, true_and, and_true, and_self, false_and, and_false, if_true, if_false, ↓reduceIte, Nat.add_eq_left, Nat.left_eq_add, Nat.add_left_cancel_iff, not_false_eq_true, not_true_eq_false, i_pc, List.cons_append, List.nil_append, List.length_cons, List.length_nil, Nat.reduceEqDiff, Nat.reduceAdd, Nat.reduceMul, Nat.reduceSub, Nat.reduceLeDiff, Nat.reduceLT, Int32.reduceLT, Int32.reduceLE, Int32.reduceAdd, Int32.reduceSub, reduceCtorEq, true_or, or_true, or_false, false_or, ne_eq, Nat.zero_le, k3]
  refine ⟨_, hr, ?_⟩
  have tl : X xs L (d + 1) 56 (74, [some (.inr (some 3)), some (.inl (nI l)), some (.inl ig), some (.inl lg), some (.inl bare), some (.inr c)], [], h) (some (.inl 1), bkN l c ig lg h) := by
    simp only [e_56_74, e_56_75, e_56_78, e_56_79, e_56_82, e_56_83, e_56_85, e_56_86, e_56_87, true_and, and_true, and_self, false_and, and_false, if_true, if_false, ↓reduceIte, Nat.add_eq_left, Nat.left_eq_add, Nat.add_left_cancel_iff, not_false_eq_true, not_true_eq_false, i_pc, List.cons_append, List.nil_append, List.length_cons, List.length_nil, Nat.reduceEqDiff, Nat.reduceAdd, Nat.reduceMul, Nat.reduceSub, Nat.reduceLeDiff, Nat.reduceLT, Int32.reduceLT, Int32.reduceLE, Int32.reduceAdd, Int32.reduceSub, reduceCtorEq, true_or, or_true, or_false, false_or, ne_eq, Nat.zero_le, k3, r5, hK_nw]
    refine ⟨_, d_break (by rw [hK_nw, if_pos rfl]) hlg, ?_⟩
    simp only [e_56_90, e_56_90N, e_56_91, e_56_92, true_and, and_true, and_self, false_and, and_false, if_true, if_false, ↓reduceIte, Nat.add_eq_left, Nat.left_eq_add, Nat.add_left_cancel_iff, not_false_eq_true, not_true_eq_false, i_pc, List.cons_append, List.nil_append, List.length_cons, List.length_nil, Nat.reduceEqDiff, Nat.reduceAdd, Nat.reduceMul, Nat.reduceSub, Nat.reduceLeDiff, Nat.reduceLT, Int32.reduceLT, Int32.reduceLE, Int32.reduceAdd, Int32.reduceSub, reduceCtorEq, true_or, or_true, or_false, false_or, ne_eq, Nat.zero_le, Option.toList, hK_sI, hK_sR, hK_nw, hL_sI, hL_sR, hL_nw, n48, k48, l48, q1, nI_cl (show l < 2 ^ 31 by omega), bkN]
  cases c with
  | none =>
    have c3 := hb rfl
    simp only [e_56_55, e_56_58, e_56_59, e_56_62, e_56_64, e_56_67, e_56_69, true_and, and_true, and_self, false_and, and_false, if_true, if_false, ↓reduceIte, Nat.add_eq_left, Nat.left_eq_add, Nat.add_left_cancel_iff, not_false_eq_true, not_true_eq_false, i_pc, List.cons_append, List.nil_append, List.length_cons, List.length_nil, Nat.reduceEqDiff, Nat.reduceAdd, Nat.reduceMul, Nat.reduceSub, Nat.reduceLeDiff, Nat.reduceLT, Int32.reduceLT, Int32.reduceLE, Int32.reduceAdd, Int32.reduceSub, reduceCtorEq, true_or, or_true, or_false, false_or, ne_eq, Nat.zero_le, Option.toList, h1, c3, show ((1 : Int32) = 0) = False from by decide]
    exact tl
  | some c =>
    simp only [e_56_55, e_56_58, e_56_59, e_56_62, e_56_64, true_and, and_true, and_self, false_and, and_false, if_true, if_false, ↓reduceIte, Nat.add_eq_left, Nat.left_eq_add, Nat.add_left_cancel_iff, not_false_eq_true, not_true_eq_false, i_pc, List.cons_append, List.nil_append, List.length_cons, List.length_nil, Nat.reduceEqDiff, Nat.reduceAdd, Nat.reduceMul, Nat.reduceSub, Nat.reduceLeDiff, Nat.reduceLT, Int32.reduceLT, Int32.reduceLE, Int32.reduceAdd, Int32.reduceSub, reduceCtorEq, true_or, or_true, or_false, false_or, ne_eq, Nat.zero_le, Option.toList, h1, show ((1 : Int32) = 0) = False from by decide]
    exact tl
/-- stop up to the cleared text -/
theorem d_stop_bare {ln ig lg : Int32} (hD : DK h) (hn : hI h 4 1 = nI 0) (hX : X xs L (d + 1) 56 (50, [some (.inr (some 3)), some (.inl ln), some (.inl ig), some (.inl lg), some (.inl 1), some (.inr none)], [], sI h 4 1 0) res) : Rn xs L (d + 2) 56 [.inr (some 3), .inl ln, .inl ig, .inl lg] h res := by
  obtain ⟨k3, r0, r1, r2, r3, r4, r5, k4, r40, k5, l5, k46, r46, k47, l47, k48, l48⟩ := hD
  rw [i_rn]
  show X xs L (d + 1) 56 (0, [some (.inr (some 3)), some (.inl ln), some (.inl ig), some (.inl lg), none, none], [], h) _
  simp only [e_56_0, e_56_1, e_56_4, e_56_7, e_56_10, e_56_11, e_56_14, e_56_15, e_56_17, e_56_19, e_56_22, e_56_23, e_56_41, e_56_43, e_56_44, e_56_47, true_and, and_true, and_self, false_and, and_false, if_true, if_false, ↓reduceIte, Nat.add_eq_left, Nat.left_eq_add, Nat.add_left_cancel_iff, not_false_eq_true, not_true_eq_false, i_pc, List.cons_append, List.nil_append, List.length_cons, List.length_nil, Nat.reduceEqDiff, Nat.reduceAdd, Nat.reduceMul, Nat.reduceSub, Nat.reduceLeDiff, Nat.reduceLT, Int32.reduceLT, Int32.reduceLE, Int32.reduceAdd, Int32.reduceSub, reduceCtorEq, true_or, or_true, or_false, false_or, ne_eq, Nat.zero_le, k3, r0, k4, hn, show (nI 0 = 0) = True from by decide, show ((1 : Int32) = 0) = False from by decide]
  refine ⟨_, d_clear k4, ?_⟩
  simp only [Option.toList, List.nil_append]
  exact hX
theorem d_stop_cond {ln ig lg : Int32} {c : Option Nat} (hD : DK h) (k6 : hK h 6 = 7) (hn : hI h 4 1 = nI (n + 1)) (hn2 : n < 150) (hr : Rn xs L (d + 1) 30 [.inr (some 6), .inr (some 4), .inr (hR h 3 6)] h (some (.inr c), h1)) (hD1 : DK h1) (hX : X xs L (d + 1) 56 (50, [some (.inr (some 3)), some (.inl ln), some (.inl ig), some (.inl lg), some (.inl 0), some (.inr c)], [], sI h1 4 1 0) res) : Rn xs L (d + 2) 56 [.inr (some 3), .inl ln, .inl ig, .inl lg] h res := by
  obtain ⟨k3, r0, r1, r2, r3, r4, r5, k4, r40, k5, l5, k46, r46, k47, l47, k48, l48⟩ := hD
  have k3' := hD1.1
  have r0' := hD1.2.1
  have k4' : hK h1 4 = 6 := hD1.2.2.2.2.2.2.2.1
  have c1 : ¬ nI (n + 1) = 0 := fun e => by have := (nI_eq (a := n + 1) (b := 0) (by omega) (by decide)).mp e; omega
  rw [i_rn]
  show X xs L (d + 1) 56 (0, [some (.inr (some 3)), some (.inl ln), some (.inl ig), some (.inl lg), none, none], [], h) _
  simp only [e_56_0, e_56_1, e_56_4, e_56_7, e_56_10, e_56_11, e_56_14, e_56_15, e_56_17, e_56_19, e_56_26, e_56_27, e_56_30, e_56_31, e_56_34, e_56_35, e_56_38, true_and, and_true, and_self, false_and, and_false, if_true, if_false, ↓reduceIte, Nat.add_eq_left, Nat.left_eq_add, Nat.add_left_cancel_iff, not_false_eq_true, not_true_eq_false, i_pc, List.cons_append, List.nil_append, List.length_cons, List.length_nil, Nat.reduceEqDiff, Nat.reduceAdd, Nat.reduceMul, Nat.reduceSub, Nat.reduceLeDiff, Nat.reduceLT, Int32.reduceLT, Int32.reduceLE, Int32.reduceAdd, Int32.reduceSub, reduceCtorEq, true_or, or_true, or_false, false_or, ne_eq, Nat.zero_le, k3, r0, r1, k4, k6, hn, c1]
  refine ⟨_, hr, ?_⟩
  simp only [e_56_41, e_56_43, e_56_44, e_56_47, true_and, and_true, and_self, false_and, and_false, if_true, if_false, ↓reduceIte, Nat.add_eq_left, Nat.left_eq_add, Nat.add_left_cancel_iff, not_false_eq_true, not_true_eq_false, i_pc, List.cons_append, List.nil_append, List.length_cons, List.length_nil, Nat.reduceEqDiff, Nat.reduceAdd, Nat.reduceMul, Nat.reduceSub, Nat.reduceLeDiff, Nat.reduceLT, Int32.reduceLT, Int32.reduceLE, Int32.reduceAdd, Int32.reduceSub, reduceCtorEq, true_or, or_true, or_false, false_or, ne_eq, Nat.zero_le, Option.toList, k3', r0', k4']
  refine ⟨_, d_clear k4', ?_⟩
  simp only [Option.toList, List.nil_append]
  exact hX
end DI

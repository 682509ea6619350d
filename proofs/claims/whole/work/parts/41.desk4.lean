-- the desk: frames, hits, steps
section DD
variable {xs : Nat → Int32} {L d : Nat} {h h2 h3 : Hp} {res : Res} {t : Nat}
theorem d_line_no {b : Int32} (hD : DK h) (hM : MI 12 h) (hd : hI h 12 6 = nI t) (hb : b < 0 ∨ nI t ≤ b) : Rn xs L (d + 2) 63 [.inr (some 3), .inl b] h (some (.inl (-1)), h) := by
  have k3 := hD.1
  have r2 := hD.2.2.2.1
  have k0 := hM.1
  rw [i_rn]
  show X xs L (d + 1) 63 (0, [some (.inr (some 3)), some (.inl b), none], [], h) _
  simp only [e_63_0, e_63_1, e_63_4, e_63_5, true_and, and_true, and_self, false_and, and_false, if_true, if_false, ↓reduceIte, Nat.add_eq_left, Nat.left_eq_add, Nat.add_left_cancel_iff, not_false_eq_true, not_true_eq_false, i_pc, List.cons_append, List.nil_append, List.length_cons, List.length_nil, Nat.reduceEqDiff, Nat.reduceAdd, Nat.reduceMul, Nat.reduceSub, Nat.reduceLeDiff, Nat.reduceLT, Int32.reduceLT, Int32.reduceLE, Int32.reduceAdd, Int32.reduceSub, reduceCtorEq, true_or, or_true, or_false, false_or, ne_eq, Nat.zero_le, k3, r2, k0]
  refine ⟨_, r_below_no hM hd hb, ?_⟩
  simp only [e_63_8, e_63_9, e_63_10, e_63_13, e_63_14, e_63_21, true_and, and_true, and_self, false_and, and_false, if_true, if_false, ↓reduceIte, Nat.add_eq_left, Nat.left_eq_add, Nat.add_left_cancel_iff, not_false_eq_true, not_true_eq_false, i_pc, List.cons_append, List.nil_append, List.length_cons, List.length_nil, Nat.reduceEqDiff, Nat.reduceAdd, Nat.reduceMul, Nat.reduceSub, Nat.reduceLeDiff, Nat.reduceLT, Int32.reduceLT, Int32.reduceLE, Int32.reduceAdd, Int32.reduceSub, reduceCtorEq, true_or, or_true, or_false, false_or, ne_eq, Nat.zero_le, Option.toList]
theorem d_line {b : Nat} (hD : DK h) (hM : MI 12 h) (hd : hI h 12 6 = nI t) (ht : t ≤ 6) (hb : b < t) : Rn xs L (d + 2) 63 [.inr (some 3), .inl (nI b)] h (some (.inl (hI h (12 + (2 + 2 * (t - 1 - b))) 5)), h) := by
  have k3 := hD.1
  have r2 := hD.2.2.2.1
  have k0 := hM.1
  obtain ⟨f0, f1, f2, f3, f4⟩ := hM.2.2.2.2.2.2.2.2.2.2.2.2 (t - 1 - b) (by omega)
  rw [i_rn]
  show X xs L (d + 1) 63 (0, [some (.inr (some 3)), some (.inl (nI b)), none], [], h) _
  simp only [e_63_0, e_63_1, e_63_4, e_63_5, true_and, and_true, and_self, false_and, and_false, if_true, if_false, ↓reduceIte, Nat.add_eq_left, Nat.left_eq_add, Nat.add_left_cancel_iff, not_false_eq_true, not_true_eq_false, i_pc, List.cons_append, List.nil_append, List.length_cons, List.length_nil, Nat.reduceEqDiff, Nat.reduceAdd, Nat.reduceMul, Nat.reduceSub, Nat.reduceLeDiff, Nat.reduceLT, Int32.reduceLT, Int32.reduceLE, Int32.reduceAdd, Int32.reduceSub, reduceCtorEq, true_or, or_true, or_false, false_or, ne_eq, Nat.zero_le, k3, r2, k0]
  refine ⟨_, r_below hM hd ht hb f0, ?_⟩
  simp only [e_63_8, e_63_9, e_63_10, e_63_17, e_63_18, e_63_21, true_and, and_true, and_self, false_and, and_false, if_true, if_false, ↓reduceIte, Nat.add_eq_left, Nat.left_eq_add, Nat.add_left_cancel_iff, not_false_eq_true, not_true_eq_false, i_pc, List.cons_append, List.nil_append, List.length_cons, List.length_nil, Nat.reduceEqDiff, Nat.reduceAdd, Nat.reduceMul, Nat.reduceSub, Nat.reduceLeDiff, Nat.reduceLT, Int32.reduceLT, Int32.reduceLE, Int32.reduceAdd, Int32.reduceSub, reduceCtorEq, true_or, or_true, or_false, false_or, ne_eq, Nat.zero_le, Option.toList, f1]
theorem d_func_no {b : Int32} (hD : DK h) (hM : MI 12 h) (hd : hI h 12 6 = nI t) (hb : b < 0 ∨ nI t ≤ b) : Rn xs L (d + 2) 64 [.inr (some 3), .inl b] h (some (.inl (-1)), h) := by
  have k3 := hD.1
  have r2 := hD.2.2.2.1
  have k0 := hM.1
  rw [i_rn]
  show X xs L (d + 1) 64 (0, [some (.inr (some 3)), some (.inl b), none], [], h) _
  simp only [e_64_0, e_64_1, e_64_4, e_64_5, true_and, and_true, and_self, false_and, and_false, if_true, if_false, ↓reduceIte, Nat.add_eq_left, Nat.left_eq_add, Nat.add_left_cancel_iff, not_false_eq_true, not_true_eq_false, i_pc, List.cons_append, List.nil_append, List.length_cons, List.length_nil, Nat.reduceEqDiff, Nat.reduceAdd, Nat.reduceMul, Nat.reduceSub, Nat.reduceLeDiff, Nat.reduceLT, Int32.reduceLT, Int32.reduceLE, Int32.reduceAdd, Int32.reduceSub, reduceCtorEq, true_or, or_true, or_false, false_or, ne_eq, Nat.zero_le, k3, r2, k0]
  refine ⟨_, r_below_no hM hd hb, ?_⟩
  simp only [e_64_8, e_64_9, e_64_10, e_64_13, e_64_14, e_64_21, true_and, and_true, and_self, false_and, and_false, if_true, if_false, ↓reduceIte, Nat.add_eq_left, Nat.left_eq_add, Nat.add_left_cancel_iff, not_false_eq_true, not_true_eq_false, i_pc, List.cons_append, List.nil_append, List.length_cons, List.length_nil, Nat.reduceEqDiff, Nat.reduceAdd, Nat.reduceMul, Nat.reduceSub, Nat.reduceLeDiff, Nat.reduceLT, Int32.reduceLT, Int32.reduceLE, Int32.reduceAdd, Int32.reduceSub, reduceCtorEq, true_or, or_true, or_false, false_or, ne_eq, Nat.zero_le, Option.toList]
theorem d_func {b : Nat} (hD : DK h) (hM : MI 12 h) (hd : hI h 12 6 = nI t) (ht : t ≤ 6) (hb : b < t) : Rn xs L (d + 2) 64 [.inr (some 3), .inl (nI b)] h (some (.inl (hI h (12 + (2 + 2 * (t - 1 - b))) 4)), h) := by
  have k3 := hD.1
  have r2 := hD.2.2.2.1
  have k0 := hM.1
  obtain ⟨f0, f1, f2, f3, f4⟩ := hM.2.2.2.2.2.2.2.2.2.2.2.2 (t - 1 - b) (by omega)
  rw [i_rn]
  show X xs L (d + 1) 64 (0, [some (.inr (some 3)), some (.inl (nI b)), none], [], h) _
  simp only [e_64_0, e_64_1, e_64_4, e_64_5, true_and, and_true, and_self, false_and, and_false, if_true, if_false, ↓reduceIte, Nat.add_eq_left, Nat.left_eq_add, Nat.add_left_cancel_iff, not_false_eq_true, not_true_eq_false, i_pc, List.cons_append, List.nil_append, List.length_cons, List.length_nil, Nat.reduceEqDiff, Nat.reduceAdd, Nat.reduceMul, Nat.reduceSub, Nat.reduceLeDiff, Nat.reduceLT, Int32.reduceLT, Int32.reduceLE, Int32.reduceAdd, Int32.reduceSub, reduceCtorEq, true_or, or_true, or_false, false_or, ne_eq, Nat.zero_le, k3, r2, k0]
  refine ⟨_, r_below hM hd ht hb f0, ?_⟩
  simp only [e_64_8, e_64_9, e_64_10, e_64_17, e_64_18, e_64_21, true_and, and_true, and_self, false_and, and_false, if_true, if_false, ↓reduceIte, Nat.add_eq_left, Nat.left_eq_add, Nat.add_left_cancel_iff, not_false_eq_true, not_true_eq_false, i_pc, List.cons_append, List.nil_append, List.length_cons, List.length_nil, Nat.reduceEqDiff, Nat.reduceAdd, Nat.reduceMul, Nat.reduceSub, Nat.reduceLeDiff, Nat.reduceLT, Int32.reduceLT, Int32.reduceLE, Int32.reduceAdd, Int32.reduceSub, reduceCtorEq, true_or, or_true, or_false, false_or, ne_eq, Nat.zero_le, Option.toList, f1]
theorem d_var_no {b v : Int32} (hD : DK h) (hM : MI 12 h) (hd : hI h 12 6 = nI t) (hb : b < 0 ∨ nI t ≤ b) : Rn xs L (d + 2) 65 [.inr (some 3), .inl b, .inl v] h (some (.inl 0), h) := by
  have k3 := hD.1
  have r2 := hD.2.2.2.1
  have k0 := hM.1
  rw [i_rn]
  show X xs L (d + 1) 65 (0, [some (.inr (some 3)), some (.inl b), some (.inl v), none], [], h) _
  simp only [e_65_0, e_65_1, e_65_4, e_65_5, true_and, and_true, and_self, false_and, and_false, if_true, if_false, ↓reduceIte, Nat.add_eq_left, Nat.left_eq_add, Nat.add_left_cancel_iff, not_false_eq_true, not_true_eq_false, i_pc, List.cons_append, List.nil_append, List.length_cons, List.length_nil, Nat.reduceEqDiff, Nat.reduceAdd, Nat.reduceMul, Nat.reduceSub, Nat.reduceLeDiff, Nat.reduceLT, Int32.reduceLT, Int32.reduceLE, Int32.reduceAdd, Int32.reduceSub, reduceCtorEq, true_or, or_true, or_false, false_or, ne_eq, Nat.zero_le, k3, r2, k0]
  refine ⟨_, r_below_no hM hd hb, ?_⟩
  simp only [e_65_8, e_65_9, e_65_10, e_65_13, e_65_14, e_65_22, true_and, and_true, and_self, false_and, and_false, if_true, if_false, ↓reduceIte, Nat.add_eq_left, Nat.left_eq_add, Nat.add_left_cancel_iff, not_false_eq_true, not_true_eq_false, i_pc, List.cons_append, List.nil_append, List.length_cons, List.length_nil, Nat.reduceEqDiff, Nat.reduceAdd, Nat.reduceMul, Nat.reduceSub, Nat.reduceLeDiff, Nat.reduceLT, Int32.reduceLT, Int32.reduceLE, Int32.reduceAdd, Int32.reduceSub, reduceCtorEq, true_or, or_true, or_false, false_or, ne_eq, Nat.zero_le, Option.toList]
theorem fr_succ (i : Nat) : 12 + (2 + 2 * i) + 1 = 12 + (3 + 2 * i) := by omega
theorem d_var {b : Nat} {v : Int32} (hD : DK h) (hM : MI 12 h) (hd : hI h 12 6 = nI t) (ht : t ≤ 6) (hb : b < t) : Rn xs L (d + 2) 65 [.inr (some 3), .inl (nI b), .inl v] h (some (.inl (if v < 0 then 0 else if 6 ≤ v then 0 else hI h (12 + (3 + 2 * (t - 1 - b))) v.toNatClampNeg)), h) := by
  have k3 := hD.1
  have r2 := hD.2.2.2.1
  have k0 := hM.1
  obtain ⟨f0, f1, f2, f3, f4⟩ := hM.2.2.2.2.2.2.2.2.2.2.2.2 (t - 1 - b) (by omega)
  rw [← fr_succ] at f2 f3 f4
  rw [i_rn]
  show X xs L (d + 1) 65 (0, [some (.inr (some 3)), some (.inl (nI b)), some (.inl v), none], [], h) _
  simp only [e_65_0, e_65_1, e_65_4, e_65_5, true_and, and_true, and_self, false_and, and_false, if_true, if_false, ↓reduceIte, Nat.add_eq_left, Nat.left_eq_add, Nat.add_left_cancel_iff, not_false_eq_true, not_true_eq_false, i_pc, List.cons_append, List.nil_append, List.length_cons, List.length_nil, Nat.reduceEqDiff, Nat.reduceAdd, Nat.reduceMul, Nat.reduceSub, Nat.reduceLeDiff, Nat.reduceLT, Int32.reduceLT, Int32.reduceLE, Int32.reduceAdd, Int32.reduceSub, reduceCtorEq, true_or, or_true, or_false, false_or, ne_eq, Nat.zero_le, k3, r2, k0]
  refine ⟨_, r_below hM hd ht hb f0, ?_⟩
  simp only [e_65_8, e_65_9, e_65_10, e_65_17, e_65_18, e_65_19, true_and, and_true, and_self, false_and, and_false, if_true, if_false, ↓reduceIte, Nat.add_eq_left, Nat.left_eq_add, Nat.add_left_cancel_iff, not_false_eq_true, not_true_eq_false, i_pc, List.cons_append, List.nil_append, List.length_cons, List.length_nil, Nat.reduceEqDiff, Nat.reduceAdd, Nat.reduceMul, Nat.reduceSub, Nat.reduceLeDiff, Nat.reduceLT, Int32.reduceLT, Int32.reduceLE, Int32.reduceAdd, Int32.reduceSub, reduceCtorEq, true_or, or_true, or_false, false_or, ne_eq, Nat.zero_le, Option.toList, f1]
  refine ⟨_, r_fread f1 f2 f3 f4, ?_⟩
  simp only [e_65_22, true_and, and_true, and_self, false_and, and_false, if_true, if_false, ↓reduceIte, Nat.add_eq_left, Nat.left_eq_add, Nat.add_left_cancel_iff, not_false_eq_true, not_true_eq_false, i_pc, List.cons_append, List.nil_append, List.length_cons, List.length_nil, Nat.reduceEqDiff, Nat.reduceAdd, Nat.reduceMul, Nat.reduceSub, Nat.reduceLeDiff, Nat.reduceLT, Int32.reduceLT, Int32.reduceLE, Int32.reduceAdd, Int32.reduceSub, reduceCtorEq, true_or, or_true, or_false, false_or, ne_eq, Nat.zero_le, Option.toList, ← fr_succ]
theorem d_set_no {b v w : Int32} (hD : DK h) (hM : MI 12 h) (hd : hI h 12 6 = nI t) (hb : b < 0 ∨ nI t ≤ b) : Rn xs L (d + 2) 66 [.inr (some 3), .inl b, .inl v, .inl w] h (some (.inl 0), h) := by
  have k3 := hD.1
  have r2 := hD.2.2.2.1
  have k0 := hM.1
  rw [i_rn]
  show X xs L (d + 1) 66 (0, [some (.inr (some 3)), some (.inl b), some (.inl v), some (.inl w), none], [], h) _
  simp only [e_66_0, e_66_1, e_66_4, e_66_5, true_and, and_true, and_self, false_and, and_false, if_true, if_false, ↓reduceIte, Nat.add_eq_left, Nat.left_eq_add, Nat.add_left_cancel_iff, not_false_eq_true, not_true_eq_false, i_pc, List.cons_append, List.nil_append, List.length_cons, List.length_nil, Nat.reduceEqDiff, Nat.reduceAdd, Nat.reduceMul, Nat.reduceSub, Nat.reduceLeDiff, Nat.reduceLT, Int32.reduceLT, Int32.reduceLE, Int32.reduceAdd, Int32.reduceSub, reduceCtorEq, true_or, or_true, or_false, false_or, ne_eq, Nat.zero_le, k3, r2, k0]
  refine ⟨_, r_below_no hM hd hb, ?_⟩
  simp only [e_66_8, e_66_10, e_66_12, e_66_29, e_66_30, true_and, and_true, and_self, false_and, and_false, if_true, if_false, ↓reduceIte, Nat.add_eq_left, Nat.left_eq_add, Nat.add_left_cancel_iff, not_false_eq_true, not_true_eq_false, i_pc, List.cons_append, List.nil_append, List.length_cons, List.length_nil, Nat.reduceEqDiff, Nat.reduceAdd, Nat.reduceMul, Nat.reduceSub, Nat.reduceLeDiff, Nat.reduceLT, Int32.reduceLT, Int32.reduceLE, Int32.reduceAdd, Int32.reduceSub, reduceCtorEq, true_or, or_true, or_false, false_or, ne_eq, Nat.zero_le, Option.toList]
theorem d_set {b : Nat} {v w : Int32} (hD : DK h) (hM : MI 12 h) (hd : hI h 12 6 = nI t) (ht : t ≤ 6) (hb : b < t) : Rn xs L (d + 2) 66 [.inr (some 3), .inl (nI b), .inl v, .inl w] h (if v < 0 then (some (.inl 0), h) else if 6 ≤ v then (some (.inl 0), h) else (some (.inl 1), sI h (12 + (3 + 2 * (t - 1 - b))) v.toNatClampNeg w)) := by
  have k3 := hD.1
  have r2 := hD.2.2.2.1
  have k0 := hM.1
  obtain ⟨f0, f1, f2, f3, f4⟩ := hM.2.2.2.2.2.2.2.2.2.2.2.2 (t - 1 - b) (by omega)
  rw [← fr_succ] at f2 f3 f4 ⊢
  rw [i_rn]
  show X xs L (d + 1) 66 (0, [some (.inr (some 3)), some (.inl (nI b)), some (.inl v), some (.inl w), none], [], h) _
  simp only [e_66_0, e_66_1, e_66_4, e_66_5, true_and, and_true, and_self, false_and, and_false, if_true, if_false, ↓reduceIte, Nat.add_eq_left, Nat.left_eq_add, Nat.add_left_cancel_iff, not_false_eq_true, not_true_eq_false, i_pc, List.cons_append, List.nil_append, List.length_cons, List.length_nil, Nat.reduceEqDiff, Nat.reduceAdd, Nat.reduceMul, Nat.reduceSub, Nat.reduceLeDiff, Nat.reduceLT, Int32.reduceLT, Int32.reduceLE, Int32.reduceAdd, Int32.reduceSub, reduceCtorEq, true_or, or_true, or_false, false_or, ne_eq, Nat.zero_le, k3, r2, k0]
  refine ⟨_, r_below hM hd ht hb f0, ?_⟩
  simp only [e_66_8, e_66_10, e_66_12, e_66_15, e_66_17, e_66_18, e_66_19, true_and, and_true, and_self, false_and, and_false, if_true, if_false, ↓reduceIte, Nat.add_eq_left, Nat.left_eq_add, Nat.add_left_cancel_iff, not_false_eq_true, not_true_eq_false, i_pc, List.cons_append, List.nil_append, List.length_cons, List.length_nil, Nat.reduceEqDiff, Nat.reduceAdd, Nat.reduceMul, Nat.reduceSub, Nat.reduceLeDiff, Nat.reduceLT, Int32.reduceLT, Int32.reduceLE, Int32.reduceAdd, Int32.reduceSub, reduceCtorEq, true_or, or_true, or_false, false_or, ne_eq, Nat.zero_le, Option.toList, f1]
  refine ⟨_, r_fassign f1 f2 f3 f4, ?_⟩
  by_cases c1 : v < 0
  · simp only [e_66_22, e_66_29, e_66_30, true_and, and_true, and_self, false_and, and_false, if_true, if_false, ↓reduceIte, Nat.add_eq_left, Nat.left_eq_add, Nat.add_left_cancel_iff, not_false_eq_true, not_true_eq_false, i_pc, List.cons_append, List.nil_append, List.length_cons, List.length_nil, Nat.reduceEqDiff, Nat.reduceAdd, Nat.reduceMul, Nat.reduceSub, Nat.reduceLeDiff, Nat.reduceLT, Int32.reduceLT, Int32.reduceLE, Int32.reduceAdd, Int32.reduceSub, reduceCtorEq, true_or, or_true, or_false, false_or, ne_eq, Nat.zero_le, Option.toList, c1]
  · by_cases c2 : 6 ≤ v
    · simp only [e_66_22, e_66_29, e_66_30, true_and, and_true, and_self, false_and, and_false, if_true, if_false, ↓reduceIte, Nat.add_eq_left, Nat.left_eq_add, Nat.add_left_cancel_iff, not_false_eq_true, not_true_eq_false, i_pc, List.cons_append, List.nil_append, List.length_cons, List.length_nil, Nat.reduceEqDiff, Nat.reduceAdd, Nat.reduceMul, Nat.reduceSub, Nat.reduceLeDiff, Nat.reduceLT, Int32.reduceLT, Int32.reduceLE, Int32.reduceAdd, Int32.reduceSub, reduceCtorEq, true_or, or_true, or_false, false_or, ne_eq, Nat.zero_le, Option.toList, c1, c2]
    · simp only [e_66_22, e_66_25, e_66_26, e_66_29, e_66_30, true_and, and_true, and_self, false_and, and_false, if_true, if_false, ↓reduceIte, Nat.add_eq_left, Nat.left_eq_add, Nat.add_left_cancel_iff, not_false_eq_true, not_true_eq_false, i_pc, List.cons_append, List.nil_append, List.length_cons, List.length_nil, Nat.reduceEqDiff, Nat.reduceAdd, Nat.reduceMul, Nat.reduceSub, Nat.reduceLeDiff, Nat.reduceLT, Int32.reduceLT, Int32.reduceLE, Int32.reduceAdd, Int32.reduceSub, reduceCtorEq, true_or, or_true, or_false, false_or, ne_eq, Nat.zero_le, Option.toList, c1, c2, show ((1 : Int32) = 0) = False from by decide]
/-- hits and unstop, at a line where a break b stands, and elsewhere -/
theorem d_hits_no {l : Int32} (hD : DK h) (hr : Rn xs L (d + 1) 71 [.inr (some 3), .inl l] h (some (.inl 0), h)) : Rn xs L (d + 2) 58 [.inr (some 3), .inl l] h (some (.inl (-1)), h) := by
  have k3 := hD.1
  rw [i_rn]
  show X xs L (d + 1) 58 (0, [some (.inr (some 3)), some (.inl l)], [], h) _
  simp only [e_58_0, e_58_1, e_58_2, true_and, and_true, and_self, false_and, and_false, if_true, if_false, ↓reduceIte, Nat.add_eq_left, Nat.left_eq_add, Nat.add_left_cancel_iff, not_false_eq_true, not_true_eq_false, i_pc, List.cons_append, List.nil_append, List.length_cons, List.length_nil, Nat.reduceEqDiff, Nat.reduceAdd, Nat.reduceMul, Nat.reduceSub, Nat.reduceLeDiff, Nat.reduceLT, Int32.reduceLT, Int32.reduceLE, Int32.reduceAdd, Int32.reduceSub, reduceCtorEq, true_or, or_true, or_false, false_or, ne_eq, Nat.zero_le, k3]
  refine ⟨_, hr, ?_⟩
  simp only [e_58_5, e_58_29, e_58_30, true_and, and_true, and_self, false_and, and_false, if_true, if_false, ↓reduceIte, Nat.add_eq_left, Nat.left_eq_add, Nat.add_left_cancel_iff, not_false_eq_true, not_true_eq_false, i_pc, List.cons_append, List.nil_append, List.length_cons, List.length_nil, Nat.reduceEqDiff, Nat.reduceAdd, Nat.reduceMul, Nat.reduceSub, Nat.reduceLeDiff, Nat.reduceLT, Int32.reduceLT, Int32.reduceLE, Int32.reduceAdd, Int32.reduceSub, reduceCtorEq, true_or, or_true, or_false, false_or, ne_eq, Nat.zero_le, Option.toList]
theorem d_hits {l : Nat} {b : Option Nat} (hD : DK h) (hr : Rn xs L (d + 1) 71 [.inr (some 3), .inl (nI l)] h (some (.inl 1), h)) (hl : l < 40) (hb : hR h 48 l = b) (hk : ∀ o, b = some o → hK h o = 0) : Rn xs L (d + 2) 58 [.inr (some 3), .inl (nI l)] h (some (.inl (match b with | none => -1 | some o => hI h o 3)), h) := by
  obtain ⟨k3, r0, r1, r2, r3, r4, r5, k4, r40, k5, l5, k46, r46, k47, l47, k48, l48⟩ := hD
  have q1 : vp_in (nI l) 40 := vin hl (by decide)
  rw [i_rn]
  show X xs L (d + 1) 58 (0, [some (.inr (some 3)), some (.inl (nI l))], [], h) _
  simp only [e_58_0, e_58_1, e_58_2, true_and, and_true, and_self, false_and, and_false, if_true, if_false, ↓reduceIte, Nat.add_eq_left, Nat.left_eq_add, Nat.add_left_cancel_iff, not_false_eq_true, not_true_eq_false, i_pc, List.cons_append, List.nil_append, List.length_cons, List.length_nil, Nat.reduceEqDiff, Nat.reduceAdd, Nat.reduceMul, Nat.reduceSub, Nat.reduceLeDiff, Nat.reduceLT, Int32.reduceLT, Int32.reduceLE, Int32.reduceAdd, Int32.reduceSub, reduceCtorEq, true_or, or_true, or_false, false_or, ne_eq, Nat.zero_le, k3]
  refine ⟨_, hr, ?_⟩
  cases b with
  | none => simp only [e_58_5, e_58_8, e_58_9, e_58_12, e_58_13, e_58_14, e_58_29, e_58_30, true_and, and_true, and_self, false_and, and_false, if_true, if_false, ↓reduceIte, Nat.add_eq_left, Nat.left_eq_add, Nat.add_left_cancel_iff, not_false_eq_true, not_true_eq_false, i_pc, List.cons_append, List.nil_append, List.length_cons, List.length_nil, Nat.reduceEqDiff, Nat.reduceAdd, Nat.reduceMul, Nat.reduceSub, Nat.reduceLeDiff, Nat.reduceLT, Int32.reduceLT, Int32.reduceLE, Int32.reduceAdd, Int32.reduceSub, reduceCtorEq, true_or, or_true, or_false, false_or, ne_eq, Nat.zero_le, Option.toList, k3, r5, k48, l48, q1, hb, nI_cl (show l < 2 ^ 31 by omega), show ((1 : Int32) = 0) = False from by decide]
  | some o =>
    have ko := hk o rfl
    simp only [e_58_5, e_58_8, e_58_9, e_58_12, e_58_13, e_58_14, e_58_17, e_58_18, e_58_21, e_58_22, e_58_23, e_58_26, e_58_30, true_and, and_true, and_self, false_and, and_false, if_true, if_false, ↓reduceIte, Nat.add_eq_left, Nat.left_eq_add, Nat.add_left_cancel_iff, not_false_eq_true, not_true_eq_false, i_pc, List.cons_append, List.nil_append, List.length_cons, List.length_nil, Nat.reduceEqDiff, Nat.reduceAdd, Nat.reduceMul, Nat.reduceSub, Nat.reduceLeDiff, Nat.reduceLT, Int32.reduceLT, Int32.reduceLE, Int32.reduceAdd, Int32.reduceSub, reduceCtorEq, true_or, or_true, or_false, false_or, ne_eq, Nat.zero_le, Option.toList, k3, r5, k48, l48, q1, hb, ko, nI_cl (show l < 2 ^ 31 by omega), show ((1 : Int32) = 0) = False from by decide]
theorem d_unstop_no {l : Int32} (hD : DK h) (hr : Rn xs L (d + 1) 71 [.inr (some 3), .inl l] h (some (.inl 0), h)) : Rn xs L (d + 2) 57 [.inr (some 3), .inl l] h (some (.inl (-1)), h) := by
  have k3 := hD.1
  rw [i_rn]
  show X xs L (d + 1) 57 (0, [some (.inr (some 3)), some (.inl l), none], [], h) _
  simp only [e_57_0, e_57_1, e_57_2, true_and, and_true, and_self, false_and, and_false, if_true, if_false, ↓reduceIte, Nat.add_eq_left, Nat.left_eq_add, Nat.add_left_cancel_iff, not_false_eq_true, not_true_eq_false, i_pc, List.cons_append, List.nil_append, List.length_cons, List.length_nil, Nat.reduceEqDiff, Nat.reduceAdd, Nat.reduceMul, Nat.reduceSub, Nat.reduceLeDiff, Nat.reduceLT, Int32.reduceLT, Int32.reduceLE, Int32.reduceAdd, Int32.reduceSub, reduceCtorEq, true_or, or_true, or_false, false_or, ne_eq, Nat.zero_le, k3]
  refine ⟨_, hr, ?_⟩
  simp only [e_57_5, e_57_17, e_57_18, true_and, and_true, and_self, false_and, and_false, if_true, if_false, ↓reduceIte, Nat.add_eq_left, Nat.left_eq_add, Nat.add_left_cancel_iff, not_false_eq_true, not_true_eq_false, i_pc, List.cons_append, List.nil_append, List.length_cons, List.length_nil, Nat.reduceEqDiff, Nat.reduceAdd, Nat.reduceMul, Nat.reduceSub, Nat.reduceLeDiff, Nat.reduceLT, Int32.reduceLT, Int32.reduceLE, Int32.reduceAdd, Int32.reduceSub, reduceCtorEq, true_or, or_true, or_false, false_or, ne_eq, Nat.zero_le, Option.toList]
theorem d_unstop0 {l : Nat} (hD : DK h) (hr : Rn xs L (d + 1) 71 [.inr (some 3), .inl (nI l)] h (some (.inl 1), h)) (hl : l < 40) (hb : hR h 48 l = none) : Rn xs L (d + 2) 57 [.inr (some 3), .inl (nI l)] h (some (.inl (-1)), h) := by
  obtain ⟨k3, r0, r1, r2, r3, r4, r5, k4, r40, k5, l5, k46, r46, k47, l47, k48, l48⟩ := hD
  have q1 : vp_in (nI l) 40 := vin hl (by decide)
  rw [i_rn]
  show X xs L (d + 1) 57 (0, [some (.inr (some 3)), some (.inl (nI l)), none], [], h) _
  simp only [e_57_0, e_57_1, e_57_2, true_and, and_true, and_self, false_and, and_false, if_true, if_false, ↓reduceIte, Nat.add_eq_left, Nat.left_eq_add, Nat.add_left_cancel_iff, not_false_eq_true, not_true_eq_false, i_pc, List.cons_append, List.nil_append, List.length_cons, List.length_nil, Nat.reduceEqDiff, Nat.reduceAdd, Nat.reduceMul, Nat.reduceSub, Nat.reduceLeDiff, Nat.reduceLT, Int32.reduceLT, Int32.reduceLE, Int32.reduceAdd, Int32.reduceSub, reduceCtorEq, true_or, or_true, or_false, false_or, ne_eq, Nat.zero_le, k3]
  refine ⟨_, hr, ?_⟩
  simp only [e_57_5, e_57_8, e_57_9, e_57_12, e_57_13, e_57_14, e_57_17, e_57_18, true_and, and_true, and_self, false_and, and_false, if_true, if_false, ↓reduceIte, Nat.add_eq_left, Nat.left_eq_add, Nat.add_left_cancel_iff, not_false_eq_true, not_true_eq_false, i_pc, List.cons_append, List.nil_append, List.length_cons, List.length_nil, Nat.reduceEqDiff, Nat.reduceAdd, Nat.reduceMul, Nat.reduceSub, Nat.reduceLeDiff, Nat.reduceLT, Int32.reduceLT, Int32.reduceLE, Int32.reduceAdd, Int32.reduceSub, reduceCtorEq, true_or, or_true, or_false, false_or, ne_eq, Nat.zero_le, Option.toList, k3, r5, k48, l48, q1, hb, nI_cl (show l < 2 ^ 31 by omega), show ((1 : Int32) = 0) = False from by decide]
theorem d_unstop {l o : Nat} (hD : DK h) (hr : Rn xs L (d + 1) 71 [.inr (some 3), .inl (nI l)] h (some (.inl 1), h)) (hl : l < 40) (hb : hR h 48 l = some o) (ko : hK h o = 0) : Rn xs L (d + 2) 57 [.inr (some 3), .inl (nI l)] h (some (.inl (hI h o 3)), sR h 48 l none) := by
  obtain ⟨k3, r0, r1, r2, r3, r4, r5, k4, r40, k5, l5, k46, r46, k47, l47, k48, l48⟩ := hD
  have q1 : vp_in (nI l) 40 := vin hl (by decide)
  rw [i_rn]
  show X xs L (d + 1) 57 (0, [some (.inr (some 3)), some (.inl (nI l)), none], [], h) _
  simp only [e_57_0, e_57_1, e_57_2, true_and, and_true, and_self, false_and, and_false, if_true, if_false, ↓reduceIte, Nat.add_eq_left, Nat.left_eq_add, Nat.add_left_cancel_iff, not_false_eq_true, not_true_eq_false, i_pc, List.cons_append, List.nil_append, List.length_cons, List.length_nil, Nat.reduceEqDiff, Nat.reduceAdd, Nat.reduceMul, Nat.reduceSub, Nat.reduceLeDiff, Nat.reduceLT, Int32.reduceLT, Int32.reduceLE, Int32.reduceAdd, Int32.reduceSub, reduceCtorEq, true_or, or_true, or_false, false_or, ne_eq, Nat.zero_le, k3]
  refine ⟨_, hr, ?_⟩
  simp only [e_57_5, e_57_8, e_57_9, e_57_12, e_57_13, e_57_14, e_57_19, e_57_20, e_57_23, e_57_24, e_57_25, e_57_28, e_57_29, e_57_30, e_57_33, e_57_34, e_57_35, e_57_35N, e_57_36, e_57_37, true_and, and_true, and_self, false_and, and_false, if_true, if_false, ↓reduceIte, Nat.add_eq_left, Nat.left_eq_add, Nat.add_left_cancel_iff, not_false_eq_true, not_true_eq_false, i_pc, List.cons_append, List.nil_append, List.length_cons, List.length_nil, Nat.reduceEqDiff, Nat.reduceAdd, Nat.reduceMul, Nat.reduceSub, Nat.reduceLeDiff, Nat.reduceLT, Int32.reduceLT, Int32.reduceLE, Int32.reduceAdd, Int32.reduceSub, reduceCtorEq, true_or, or_true, or_false, false_or, ne_eq, Nat.zero_le, Option.toList, k3, r5, k48, l48, q1, hb, ko, nI_cl (show l < 2 ^ 31 by omega), show ((1 : Int32) = 0) = False from by decide]
end DD

-- the desk: breaks at the top frame's line
section DF
variable {xs : Nat → Int32} {L d : Nat} {h h2 h3 : Hp} {res : Res} {t l o : Nat}
theorem d_bs_end (hD : DK h) (hM : MI 12 h) (hd : hI h 12 6 = nI 0) : Rn xs L (d + 2) 74 [.inr (some 3)] h (some (.inl 0), h) := by
  have k3 := hD.1
  have r2 := hD.2.2.2.1
  have k0 := hM.1
  rw [i_rn]
  show X xs L (d + 1) 74 (0, [some (.inr (some 3)), none, none, none], [], h) _
  simp only [e_74_0, e_74_1, e_74_4, e_74_5, true_and, and_true, and_self, false_and, and_false, if_true, if_false, ↓reduceIte, Nat.add_eq_left, Nat.left_eq_add, Nat.add_left_cancel_iff, not_false_eq_true, not_true_eq_false, i_pc, List.cons_append, List.nil_append, List.length_cons, List.length_nil, Nat.reduceEqDiff, Nat.reduceAdd, Nat.reduceMul, Nat.reduceSub, Nat.reduceLeDiff, Nat.reduceLT, Int32.reduceLT, Int32.reduceLE, Int32.reduceAdd, Int32.reduceSub, reduceCtorEq, true_or, or_true, or_false, false_or, ne_eq, Nat.zero_le, k3, r2, k0]
  refine ⟨_, r_below_no hM hd (Or.inr (by decide)), ?_⟩
  simp only [e_74_8, e_74_9, e_74_10, e_74_24, e_74_25, e_74_37, e_74_38, e_74_39, e_74_42, e_74_43, true_and, and_true, and_self, false_and, and_false, if_true, if_false, ↓reduceIte, Nat.add_eq_left, Nat.left_eq_add, Nat.add_left_cancel_iff, not_false_eq_true, not_true_eq_false, i_pc, List.cons_append, List.nil_append, List.length_cons, List.length_nil, Nat.reduceEqDiff, Nat.reduceAdd, Nat.reduceMul, Nat.reduceSub, Nat.reduceLeDiff, Nat.reduceLT, Int32.reduceLT, Int32.reduceLE, Int32.reduceAdd, Int32.reduceSub, reduceCtorEq, true_or, or_true, or_false, false_or, ne_eq, Nat.zero_le, Option.toList]
/-- a break stands there -/
theorem d_bs_at (hD : DK h) (hM : MI 12 h) (hd : hI h 12 6 = nI (t + 1)) (ht : t < 6) (hl : hI h (12 + (2 + 2 * t)) 5 = nI l) (hl2 : l < 40) (hr : Rn xs L (d + 1) 71 [.inr (some 3), .inl (nI l)] h (some (.inl 1), h)) (hX : X xs L (d + 1) 74 (38, [some (.inr (some 3)), some (.inr (some (12 + (2 + 2 * t)))), some (.inr (hR h 48 l)), none], [], h) res) : Rn xs L (d + 2) 74 [.inr (some 3)] h res := by
  obtain ⟨f0, f1, f2, f3, f4⟩ := hM.2.2.2.2.2.2.2.2.2.2.2.2 t (by omega)
  have k0 := hM.1
  have hB := r_below (xs := xs) (L := L) (d := d) (b := 0) (t := t + 1) hM hd (by omega) (by omega) (by rw [show t + 1 - 1 - 0 = t by omega]; exact f0)
  rw [show t + 1 - 1 - 0 = t by omega] at hB
  obtain ⟨k3, r0, r1, r2, r3, r4, r5, k4, r40, k5, l5, k46, r46, k47, l47, k48, l48⟩ := hD
  have q1 : vp_in (nI l) 40 := vin hl2 (by decide)
  rw [i_rn]
  show X xs L (d + 1) 74 (0, [some (.inr (some 3)), none, none, none], [], h) _
  simp only [e_74_0, e_74_1, e_74_4, e_74_5, true_and, and_true, and_self, false_and, and_false, if_true, if_false, ↓reduceIte, Nat.add_eq_left, Nat.left_eq_add, Nat.add_left_cancel_iff, not_false_eq_true, not_true_eq_false, i_pc, List.cons_append, List.nil_append, List.length_cons, List.length_nil, Nat.reduceEqDiff, Nat.reduceAdd, Nat.reduceMul, Nat.reduceSub, Nat.reduceLeDiff, Nat.reduceLT, Int32.reduceLT, Int32.reduceLE, Int32.reduceAdd, Int32.reduceSub, reduceCtorEq, true_or, or_true, or_false, false_or, ne_eq, Nat.zero_le, k3, r2, k0]
  refine ⟨_, hB, ?_⟩
  simp only [e_74_8, e_74_9, e_74_10, e_74_13, e_74_14, e_74_15, e_74_18, true_and, and_true, and_self, false_and, and_false, if_true, if_false, ↓reduceIte, Nat.add_eq_left, Nat.left_eq_add, Nat.add_left_cancel_iff, not_false_eq_true, not_true_eq_false, i_pc, List.cons_append, List.nil_append, List.length_cons, List.length_nil, Nat.reduceEqDiff, Nat.reduceAdd, Nat.reduceMul, Nat.reduceSub, Nat.reduceLeDiff, Nat.reduceLT, Int32.reduceLT, Int32.reduceLE, Int32.reduceAdd, Int32.reduceSub, reduceCtorEq, true_or, or_true, or_false, false_or, ne_eq, Nat.zero_le, Option.toList, k3, f1, hl]
  refine ⟨_, hr, ?_⟩
  simp only [e_74_21, e_74_28, e_74_29, e_74_32, e_74_33, e_74_36, e_74_37, true_and, and_true, and_self, false_and, and_false, if_true, if_false, ↓reduceIte, Nat.add_eq_left, Nat.left_eq_add, Nat.add_left_cancel_iff, not_false_eq_true, not_true_eq_false, i_pc, List.cons_append, List.nil_append, List.length_cons, List.length_nil, Nat.reduceEqDiff, Nat.reduceAdd, Nat.reduceMul, Nat.reduceSub, Nat.reduceLeDiff, Nat.reduceLT, Int32.reduceLT, Int32.reduceLE, Int32.reduceAdd, Int32.reduceSub, reduceCtorEq, true_or, or_true, or_false, false_or, ne_eq, Nat.zero_le, Option.toList, k3, f1, hl, r5, k48, l48, q1, nI_cl (show l < 2 ^ 31 by omega), show ((1 : Int32) = 0) = False from by decide]
  exact hX
theorem d_bs_null (hD : DK h) (hM : MI 12 h) (hd : hI h 12 6 = nI (t + 1)) (ht : t < 6) (hl : hI h (12 + (2 + 2 * t)) 5 = nI l) (hl2 : l < 40) (hr : Rn xs L (d + 1) 71 [.inr (some 3), .inl (nI l)] h (some (.inl 1), h)) (hb : hR h 48 l = none) : Rn xs L (d + 2) 74 [.inr (some 3)] h (some (.inl 0), h) := by
  refine d_bs_at hD hM hd ht hl hl2 hr ?_
  rw [hb]
  simp only [e_74_38, e_74_39, e_74_42, e_74_43, true_and, and_true, and_self, false_and, and_false, if_true, if_false, ↓reduceIte, Nat.add_eq_left, Nat.left_eq_add, Nat.add_left_cancel_iff, not_false_eq_true, not_true_eq_false, i_pc, List.cons_append, List.nil_append, List.length_cons, List.length_nil, Nat.reduceEqDiff, Nat.reduceAdd, Nat.reduceMul, Nat.reduceSub, Nat.reduceLeDiff, Nat.reduceLT, Int32.reduceLT, Int32.reduceLE, Int32.reduceAdd, Int32.reduceSub, reduceCtorEq, true_or, or_true, or_false, false_or, ne_eq, Nat.zero_le]
/-- what a break does with a value: whether it stops, and the state behind it; n notes stand there -/
def bkR (o n : Nat) (v : Int32) (h : Hp) : Int32 × Hp := if hI h o 3 + 1 ≤ hI h o 1 then (0, sI h o 3 (hI h o 3 + 1)) else if hI h o 2 = 0 then (1, sI h o 3 (hI h o 3 + 1)) else (0, sI (sI (sI h o 3 (hI h o 3 + 1)) 47 (n % 16) v) 46 1 (nI (n + 1)))
theorem d_bs_tail {n : Nat} {v : Int32} {a1 : Option AV} (hD : DK h) (ko : hK h o = 0) (ho : 80 ≤ o) (hn : hI h 46 1 = nI n) (hn2 : n < 2 ^ 31) : X xs L (d + 1) 74 (94, [some (.inr (some 3)), a1, some (.inr (some o)), some (.inl v)], [], h) (some (.inl (bkR o n v h).1), (bkR o n v h).2) := by
  obtain ⟨k3, r0, r1, r2, r3, r4, r5, k4, r40, k5, l5, k46, r46, k47, l47, k48, l48⟩ := hD
  unfold bkR
  by_cases c1 : hI h o 3 + 1 ≤ hI h o 1
  · have c2 : ¬ hI h o 1 < hI h o 3 + 1 := Int32.not_lt.mpr c1
    simp only [e_74_94, e_74_95, e_74_96, e_74_99, e_74_100, e_74_101, e_74_104, e_74_105, e_74_108, e_74_109, e_74_112, e_74_115, e_74_116, true_and, and_true, and_self, false_and, and_false, if_true, if_false, ↓reduceIte, Nat.add_eq_left, Nat.left_eq_add, Nat.add_left_cancel_iff, not_false_eq_true, not_true_eq_false, i_pc, List.cons_append, List.nil_append, List.length_cons, List.length_nil, Nat.reduceEqDiff, Nat.reduceAdd, Nat.reduceMul, Nat.reduceSub, Nat.reduceLeDiff, Nat.reduceLT, Int32.reduceLT, Int32.reduceLE, Int32.reduceAdd, Int32.reduceSub, reduceCtorEq, true_or, or_true, or_false, false_or, ne_eq, Nat.zero_le, hK_sI, hI_sI, ko, c1, c2]
  · have c2 : hI h o 1 < hI h o 3 + 1 := Int32.not_le.mp c1
    by_cases c3 : hI h o 2 = 0
    · simp only [e_74_94, e_74_95, e_74_96, e_74_99, e_74_100, e_74_101, e_74_104, e_74_105, e_74_108, e_74_109, e_74_112, e_74_117, e_74_118, e_74_121, e_74_132, e_74_133, e_74_136, e_74_139, e_74_140, e_74_143, e_74_144, true_and, and_true, and_self, false_and, and_false, if_true, if_false, ↓reduceIte, Nat.add_eq_left, Nat.left_eq_add, Nat.add_left_cancel_iff, not_false_eq_true, not_true_eq_false, i_pc, List.cons_append, List.nil_append, List.length_cons, List.length_nil, Nat.reduceEqDiff, Nat.reduceAdd, Nat.reduceMul, Nat.reduceSub, Nat.reduceLeDiff, Nat.reduceLT, Int32.reduceLT, Int32.reduceLE, Int32.reduceAdd, Int32.reduceSub, reduceCtorEq, true_or, or_true, or_false, false_or, ne_eq, Nat.zero_le, hK_sI, hI_sI, ko, c1, c2, c3]
    · simp only [e_74_94, e_74_95, e_74_96, e_74_99, e_74_100, e_74_101, e_74_104, e_74_105, e_74_108, e_74_109, e_74_112, e_74_117, e_74_118, e_74_121, e_74_124, e_74_125, e_74_128, e_74_129, true_and, and_true, and_self, false_and, and_false, if_true, if_false, ↓reduceIte, Nat.add_eq_left, Nat.left_eq_add, Nat.add_left_cancel_iff, not_false_eq_true, not_true_eq_false, i_pc, List.cons_append, List.nil_append, List.length_cons, List.length_nil, Nat.reduceEqDiff, Nat.reduceAdd, Nat.reduceMul, Nat.reduceSub, Nat.reduceLeDiff, Nat.reduceLT, Int32.reduceLT, Int32.reduceLE, Int32.reduceAdd, Int32.reduceSub, reduceCtorEq, true_or, or_true, or_false, false_or, ne_eq, Nat.zero_le, hK_sI, hI_sI, hR_sI, ko, k3, r4, k46, c1, c2, c3]
      refine ⟨_, r_tadd (τ := 46) (n := n) k46 r46 k47 l47 (by rw [hI_sI, if_neg (by omega)]; exact hn) hn2, ?_⟩
      have q1 : ¬ o = 46 := by omega
      have q2 : ¬ o = 47 := by omega
      simp only [e_74_132, e_74_133, e_74_136, e_74_143, e_74_144, true_and, and_true, and_self, false_and, and_false, if_true, if_false, ↓reduceIte, Nat.add_eq_left, Nat.left_eq_add, Nat.add_left_cancel_iff, not_false_eq_true, not_true_eq_false, i_pc, List.cons_append, List.nil_append, List.length_cons, List.length_nil, Nat.reduceEqDiff, Nat.reduceAdd, Nat.reduceMul, Nat.reduceSub, Nat.reduceLeDiff, Nat.reduceLT, Int32.reduceLT, Int32.reduceLE, Int32.reduceAdd, Int32.reduceSub, reduceCtorEq, true_or, or_true, or_false, false_or, ne_eq, Nat.zero_le, Option.toList, hK_sI, hI_sI, ko, q1, q2, c3]
theorem d_bs_bare {n : Nat} (hD : DK h) (hM : MI 12 h) (hd : hI h 12 6 = nI (t + 1)) (ht : t < 6) (hl : hI h (12 + (2 + 2 * t)) 5 = nI l) (hl2 : l < 40) (hr : Rn xs L (d + 1) 71 [.inr (some 3), .inl (nI l)] h (some (.inl 1), h)) (hb : hR h 48 l = some o) (ko : hK h o = 0) (ho : 80 ≤ o) (hc : hR h o 0 = none) (hn : hI h 46 1 = nI n) (hn2 : n < 2 ^ 31) : Rn xs L (d + 2) 74 [.inr (some 3)] h (some (.inl (bkR o n 0 h).1), (bkR o n 0 h).2) := by
  refine d_bs_at hD hM hd ht hl hl2 hr ?_
  rw [hb]
  simp only [e_74_38, e_74_39, e_74_44, e_74_45, e_74_46, e_74_47, e_74_50, true_and, and_true, and_self, false_and, and_false, if_true, if_false, ↓reduceIte, Nat.add_eq_left, Nat.left_eq_add, Nat.add_left_cancel_iff, not_false_eq_true, not_true_eq_false, i_pc, List.cons_append, List.nil_append, List.length_cons, List.length_nil, Nat.reduceEqDiff, Nat.reduceAdd, Nat.reduceMul, Nat.reduceSub, Nat.reduceLeDiff, Nat.reduceLT, Int32.reduceLT, Int32.reduceLE, Int32.reduceAdd, Int32.reduceSub, reduceCtorEq, true_or, or_true, or_false, false_or, ne_eq, Nat.zero_le, ko, hc]
  exact d_bs_tail hD ko ho hn hn2
theorem d_bs_cond {n c pg : Nat} (hD : DK h) (hM : MI 12 h) (hd : hI h 12 6 = nI (t + 1)) (ht : t < 6) (hl : hI h (12 + (2 + 2 * t)) 5 = nI l) (hl2 : l < 40) (hr : Rn xs L (d + 1) 71 [.inr (some 3), .inl (nI l)] h (some (.inl 1), h)) (hb : hR h 48 l = some o) (ko : hK h o = 0) (ho : 80 ≤ o) (hc : hR h o 0 = some c) (hp : hR h 3 6 = some pg) (k29 : hK h 29 = 3) (hw : Rn xs L (d + 1) 10 [.inr (some 29), .inr (some pg), .inr (some (12 + (2 + 2 * t))), .inr (some c)] h (none, h2)) (hD2 : DK h2) (ko2 : hK h2 o = 0) (k292 : hK h2 29 = 3) (hn : hI h2 46 1 = nI n) (hn2 : n < 2 ^ 31) : Rn xs L (d + 2) 74 [.inr (some 3)] h (if hI h2 29 4 = 2 ∧ ¬ hI h2 29 5 = 0 then (some (.inl (bkR o n (hI h2 29 5) h2).1), (bkR o n (hI h2 29 5) h2).2) else (some (.inl 0), h2)) := by
  refine d_bs_at hD hM hd ht hl hl2 hr ?_
  have k3 := hD.1
  have r3 : hR h 3 3 = some 29 := hD.2.2.2.2.1
  have k32 := hD2.1
  have r32 : hR h2 3 3 = some 29 := hD2.2.2.2.2.1
  rw [hb]
  simp only [e_74_38, e_74_39, e_74_44, e_74_45, e_74_46, e_74_47, e_74_50, e_74_53, e_74_54, e_74_57, e_74_58, e_74_61, e_74_62, e_74_63, e_74_66, true_and, and_true, and_self, false_and, and_false, if_true, if_false, ↓reduceIte, Nat.add_eq_left, Nat.left_eq_add, Nat.add_left_cancel_iff, not_false_eq_true, not_true_eq_false, i_pc, List.cons_append, List.nil_append, List.length_cons, List.length_nil, Nat.reduceEqDiff, Nat.reduceAdd, Nat.reduceMul, Nat.reduceSub, Nat.reduceLeDiff, Nat.reduceLT, Int32.reduceLT, Int32.reduceLE, Int32.reduceAdd, Int32.reduceSub, reduceCtorEq, true_or, or_true, or_false, false_or, ne_eq, Nat.zero_le, ko, hc, k3, r3, hp, k29]
  refine ⟨_, hw, ?_⟩
  by_cases c1 : hI h2 29 4 = 2
  · by_cases c2 : hI h2 29 5 = 0
    · rw [if_neg (fun z => z.2 c2)]
      simp only [e_74_69, e_74_70, e_74_73, e_74_76, e_74_77, e_74_78, e_74_81, e_74_84, e_74_85, e_74_88, e_74_89, e_74_92, e_74_93, true_and, and_true, and_self, false_and, and_false, if_true, if_false, ↓reduceIte, Nat.add_eq_left, Nat.left_eq_add, Nat.add_left_cancel_iff, not_false_eq_true, not_true_eq_false, i_pc, List.cons_append, List.nil_append, List.length_cons, List.length_nil, Nat.reduceEqDiff, Nat.reduceAdd, Nat.reduceMul, Nat.reduceSub, Nat.reduceLeDiff, Nat.reduceLT, Int32.reduceLT, Int32.reduceLE, Int32.reduceAdd, Int32.reduceSub, reduceCtorEq, true_or, or_true, or_false, false_or, ne_eq, Nat.zero_le, Option.toList, k32, r32, k292, c1, c2]
    · rw [if_pos ⟨c1, c2⟩]
      simp only [e_74_69, e_74_70, e_74_73, e_74_76, e_74_77, e_74_78, e_74_81, e_74_84, e_74_85, e_74_88, e_74_89, true_and, and_true, and_self, false_and, and_false, if_true, if_false, ↓reduceIte, Nat.add_eq_left, Nat.left_eq_add, Nat.add_left_cancel_iff, not_false_eq_true, not_true_eq_false, i_pc, List.cons_append, List.nil_append, List.length_cons, List.length_nil, Nat.reduceEqDiff, Nat.reduceAdd, Nat.reduceMul, Nat.reduceSub, Nat.reduceLeDiff, Nat.reduceLT, Int32.reduceLT, Int32.reduceLE, Int32.reduceAdd, Int32.reduceSub, reduceCtorEq, true_or, or_true, or_false, false_or, ne_eq, Nat.zero_le, Option.toList, k32, r32, k292, c1, c2]
      exact d_bs_tail hD2 ko2 ho hn hn2
  · rw [if_neg (fun z => c1 z.1)]
    simp only [e_74_69, e_74_70, e_74_73, e_74_76, e_74_77, e_74_78, e_74_81, e_74_84, e_74_85, e_74_92, e_74_93, true_and, and_true, and_self, false_and, and_false, if_true, if_false, ↓reduceIte, Nat.add_eq_left, Nat.left_eq_add, Nat.add_left_cancel_iff, not_false_eq_true, not_true_eq_false, i_pc, List.cons_append, List.nil_append, List.length_cons, List.length_nil, Nat.reduceEqDiff, Nat.reduceAdd, Nat.reduceMul, Nat.reduceSub, Nat.reduceLeDiff, Nat.reduceLT, Int32.reduceLT, Int32.reduceLE, Int32.reduceAdd, Int32.reduceSub, reduceCtorEq, true_or, or_true, or_false, false_or, ne_eq, Nat.zero_le, Option.toList, k32, r32, k292, c1]
end DF

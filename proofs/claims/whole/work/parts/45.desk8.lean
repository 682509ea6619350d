-- the desk: start, evaluate
section DH
variable {xs : Nat → Int32} {L d : Nat} {h h1 h2 h3 : Hp} {res : Res} {pg : Nat}
theorem d_start_no (hD : DK h) (hp : hR h 3 6 = none) : Rn xs L (d + 1) 53 [.inr (some 3)] h (some (.inl (-1)), h) := by
  have k3 := hD.1
  rw [i_rn]
  show X xs L d 53 (0, [some (.inr (some 3)), none], [], h) _
  simp only [e_53_0, e_53_1, e_53_4, e_53_7, e_53_8, true_and, and_true, and_self, false_and, and_false, if_true, if_false, ↓reduceIte, Nat.add_eq_left, Nat.left_eq_add, Nat.add_left_cancel_iff, not_false_eq_true, not_true_eq_false, i_pc, List.cons_append, List.nil_append, List.length_cons, List.length_nil, Nat.reduceEqDiff, Nat.reduceAdd, Nat.reduceMul, Nat.reduceSub, Nat.reduceLeDiff, Nat.reduceLT, Int32.reduceLT, Int32.reduceLE, Int32.reduceAdd, Int32.reduceSub, reduceCtorEq, true_or, or_true, or_false, false_or, ne_eq, Nat.zero_le, k3, hp]
theorem d_rs_loop : ∀ (m i : Nat) (h : Hp), i + m = 40 → hK h 3 = 8 → hR h 3 5 = some 48 → hK h 48 = 24 → hL h 48 = 40 → (∀ k o, k < 40 → hR h 48 k = some o → hK h o = 0) → X xs L d 53 (49, [some (.inr (some 3)), some (.inl (nI 40))], [], rsB m i h) res → X xs L d 53 (18, [some (.inr (some 3)), some (.inl (nI i))], [], h) res := by
  intro m
  induction m with
  | zero =>
    intro i h hi k3 r5 k48 l48 hb hX
    have hi2 : i = 40 := by omega
    subst hi2
    simp only [e_53_18, e_53_19, e_53_21, true_and, and_true, and_self, false_and, and_false, if_true, if_false, ↓reduceIte, Nat.add_eq_left, Nat.left_eq_add, Nat.add_left_cancel_iff, not_false_eq_true, not_true_eq_false, i_pc, List.cons_append, List.nil_append, List.length_cons, List.length_nil, Nat.reduceEqDiff, Nat.reduceAdd, Nat.reduceMul, Nat.reduceSub, Nat.reduceLeDiff, Nat.reduceLT, Int32.reduceLT, Int32.reduceLE, Int32.reduceAdd, Int32.reduceSub, reduceCtorEq, true_or, or_true, or_false, false_or, ne_eq, Nat.zero_le, show ((40 : Int32) ≤ nI 40) = True from by decide]
    exact hX
  | succ m ih =>
    intro i h hi k3 r5 k48 l48 hb hX
    have c1 : ¬ (40 : Int32) ≤ nI i := nI_ge (b := 40) (by omega) (by decide)
    have c2 : vp_in (nI i) 40 := vin (by omega) (by decide)
    unfold rsB at hX
    rw [e_53_18]
    cases hr : hR h 48 i with
    | none =>
      rw [hr] at hX
      simp only [e_53_19, e_53_21, e_53_24, e_53_25, e_53_28, e_53_29, e_53_30, e_53_43, e_53_46, true_and, and_true, and_self, false_and, and_false, if_true, if_false, ↓reduceIte, Nat.add_eq_left, Nat.left_eq_add, Nat.add_left_cancel_iff, not_false_eq_true, not_true_eq_false, i_pc, List.cons_append, List.nil_append, List.length_cons, List.length_nil, Nat.reduceEqDiff, Nat.reduceAdd, Nat.reduceMul, Nat.reduceSub, Nat.reduceLeDiff, Nat.reduceLT, Int32.reduceLT, Int32.reduceLE, Int32.reduceAdd, Int32.reduceSub, reduceCtorEq, true_or, or_true, or_false, false_or, ne_eq, Nat.zero_le, c1, c2, k3, r5, k48, l48, hr, nI_1, nI_cl (show i < 2 ^ 31 by omega)]
      exact ih (i + 1) _ (by omega) k3 r5 k48 l48 hb hX
    | some o =>
      rw [hr] at hX
      have ko := hb i o (by omega) hr
      simp only [e_53_19, e_53_21, e_53_24, e_53_25, e_53_28, e_53_29, e_53_30, e_53_33, e_53_34, e_53_37, e_53_38, e_53_39, e_53_40, e_53_43, e_53_46, true_and, and_true, and_self, false_and, and_false, if_true, if_false, ↓reduceIte, Nat.add_eq_left, Nat.left_eq_add, Nat.add_left_cancel_iff, not_false_eq_true, not_true_eq_false, i_pc, List.cons_append, List.nil_append, List.length_cons, List.length_nil, Nat.reduceEqDiff, Nat.reduceAdd, Nat.reduceMul, Nat.reduceSub, Nat.reduceLeDiff, Nat.reduceLT, Int32.reduceLT, Int32.reduceLE, Int32.reduceAdd, Int32.reduceSub, reduceCtorEq, true_or, or_true, or_false, false_or, ne_eq, Nat.zero_le, c1, c2, k3, r5, k48, l48, hr, ko, nI_1, nI_cl (show i < 2 ^ 31 by omega)]
      exact ih (i + 1) _ (by omega) k3 r5 k48 l48 hb hX
theorem d_st_tail {a1 : Option AV} (k3 : hK h 3 = 8) (r2 : hR h 3 2 = some 12) (r6 : hR h 3 6 = some pg) (k12 : hK h 12 = 3) (hr : Rn xs L d 8 [.inr (some 12), .inr (some pg)] h (none, h2)) (k3' : hK h2 3 = 8) (r2' : hR h2 3 2 = some 12) (k12' : hK h2 12 = 3) : X xs L d 53 (49, [some (.inr (some 3)), a1], [], h) (some (.inl (hI h2 12 4)), h2) := by
  simp only [e_53_49, e_53_50, e_53_53, e_53_54, e_53_57, true_and, and_true, and_self, false_and, and_false, if_true, if_false, ↓reduceIte, Nat.add_eq_left, Nat.left_eq_add, Nat.add_left_cancel_iff, not_false_eq_true, not_true_eq_false, i_pc, List.cons_append, List.nil_append, List.length_cons, List.length_nil, Nat.reduceEqDiff, Nat.reduceAdd, Nat.reduceMul, Nat.reduceSub, Nat.reduceLeDiff, Nat.reduceLT, Int32.reduceLT, Int32.reduceLE, Int32.reduceAdd, Int32.reduceSub, reduceCtorEq, true_or, or_true, or_false, false_or, ne_eq, Nat.zero_le, k3, r2, r6, k12]
  refine ⟨_, hr, ?_⟩
  simp only [e_53_60, e_53_61, e_53_64, e_53_67, true_and, and_true, and_self, false_and, and_false, if_true, if_false, ↓reduceIte, Nat.add_eq_left, Nat.left_eq_add, Nat.add_left_cancel_iff, not_false_eq_true, not_true_eq_false, i_pc, List.cons_append, List.nil_append, List.length_cons, List.length_nil, Nat.reduceEqDiff, Nat.reduceAdd, Nat.reduceMul, Nat.reduceSub, Nat.reduceLeDiff, Nat.reduceLT, Int32.reduceLT, Int32.reduceLE, Int32.reduceAdd, Int32.reduceSub, reduceCtorEq, true_or, or_true, or_false, false_or, ne_eq, Nat.zero_le, Option.toList, k3', r2', k12']
theorem d_start (hD : DK h) (hp : hR h 3 6 = some pg) (hb : ∀ k o, k < 40 → hR h 48 k = some o → hK h o = 0) (hg : h1 = rsB 40 0 (sI h 46 1 0)) (k3 : hK h1 3 = 8) (r2 : hR h1 3 2 = some 12) (r6 : hR h1 3 6 = some pg) (k12 : hK h1 12 = 3) (hr : Rn xs L (d + 1) 8 [.inr (some 12), .inr (some pg)] h1 (none, h2)) (k3' : hK h2 3 = 8) (r2' : hR h2 3 2 = some 12) (k12' : hK h2 12 = 3) : Rn xs L (d + 2) 53 [.inr (some 3)] h (some (.inl (hI h2 12 4)), h2) := by
  obtain ⟨q3, r0, r1, q2, r3, r4, r5, k4, r40, k5, l5, k46, r46, k47, l47, k48, l48⟩ := hD
  rw [i_rn]
  show X xs L (d + 1) 53 (0, [some (.inr (some 3)), none], [], h) _
  simp only [e_53_0, e_53_1, e_53_4, e_53_9, e_53_10, e_53_13, true_and, and_true, and_self, false_and, and_false, if_true, if_false, ↓reduceIte, Nat.add_eq_left, Nat.left_eq_add, Nat.add_left_cancel_iff, not_false_eq_true, not_true_eq_false, i_pc, List.cons_append, List.nil_append, List.length_cons, List.length_nil, Nat.reduceEqDiff, Nat.reduceAdd, Nat.reduceMul, Nat.reduceSub, Nat.reduceLeDiff, Nat.reduceLT, Int32.reduceLT, Int32.reduceLE, Int32.reduceAdd, Int32.reduceSub, reduceCtorEq, true_or, or_true, or_false, false_or, ne_eq, Nat.zero_le, q3, hp, r4, k46]
  refine ⟨_, r_tclear (τ := 46) k46, ?_⟩
  simp only [e_53_16, e_53_17, true_and, and_true, and_self, false_and, and_false, if_true, if_false, ↓reduceIte, Nat.add_eq_left, Nat.left_eq_add, Nat.add_left_cancel_iff, not_false_eq_true, not_true_eq_false, i_pc, List.cons_append, List.nil_append, List.length_cons, List.length_nil, Nat.reduceEqDiff, Nat.reduceAdd, Nat.reduceMul, Nat.reduceSub, Nat.reduceLeDiff, Nat.reduceLT, Int32.reduceLT, Int32.reduceLE, Int32.reduceAdd, Int32.reduceSub, reduceCtorEq, true_or, or_true, or_false, false_or, ne_eq, Nat.zero_le, Option.toList]
  refine d_rs_loop 40 0 _ (by omega) q3 r5 k48 l48 hb ?_
  rw [← hg]
  exact d_st_tail k3 r2 r6 k12 hr k3' r2' k12'
/-- evaluate: no such frame; no such text; worked out -/
theorem d_ev_no {b : Int32} {t : Nat} (hD : DK h) (hM : MI 12 h) (hd : hI h 12 6 = nI t) (hb : b < 0 ∨ nI t ≤ b) : Rn xs L (d + 2) 67 [.inr (some 3), .inl b] h (some (.inl (-1)), sI h 4 1 0) := by
  have k0 := hM.1
  obtain ⟨k3, r0, r1, r2, r3, r4, r5, k4, r40, k5, l5, k46, r46, k47, l47, k48, l48⟩ := hD
  rw [i_rn]
  show X xs L (d + 1) 67 (0, [some (.inr (some 3)), some (.inl b), none, none], [], h) _
  simp only [e_67_0, e_67_1, e_67_4, e_67_5, true_and, and_true, and_self, false_and, and_false, if_true, if_false, ↓reduceIte, Nat.add_eq_left, Nat.left_eq_add, Nat.add_left_cancel_iff, not_false_eq_true, not_true_eq_false, i_pc, List.cons_append, List.nil_append, List.length_cons, List.length_nil, Nat.reduceEqDiff, Nat.reduceAdd, Nat.reduceMul, Nat.reduceSub, Nat.reduceLeDiff, Nat.reduceLT, Int32.reduceLT, Int32.reduceLE, Int32.reduceAdd, Int32.reduceSub, reduceCtorEq, true_or, or_true, or_false, false_or, ne_eq, Nat.zero_le, k3, r2, k0]
  refine ⟨_, r_below_no hM hd hb, ?_⟩
  simp only [e_67_8, e_67_9, e_67_10, e_67_13, e_67_14, e_67_32, e_67_33, e_67_34, e_67_37, true_and, and_true, and_self, false_and, and_false, if_true, if_false, ↓reduceIte, Nat.add_eq_left, Nat.left_eq_add, Nat.add_left_cancel_iff, not_false_eq_true, not_true_eq_false, i_pc, List.cons_append, List.nil_append, List.length_cons, List.length_nil, Nat.reduceEqDiff, Nat.reduceAdd, Nat.reduceMul, Nat.reduceSub, Nat.reduceLeDiff, Nat.reduceLT, Int32.reduceLT, Int32.reduceLE, Int32.reduceAdd, Int32.reduceSub, reduceCtorEq, true_or, or_true, or_false, false_or, ne_eq, Nat.zero_le, Option.toList, k3, r0, k4]
  refine ⟨_, d_clear k4, ?_⟩
  simp only [e_67_40, e_67_41, e_67_48, e_67_49, true_and, and_true, and_self, false_and, and_false, if_true, if_false, ↓reduceIte, Nat.add_eq_left, Nat.left_eq_add, Nat.add_left_cancel_iff, not_false_eq_true, not_true_eq_false, i_pc, List.cons_append, List.nil_append, List.length_cons, List.length_nil, Nat.reduceEqDiff, Nat.reduceAdd, Nat.reduceMul, Nat.reduceSub, Nat.reduceLeDiff, Nat.reduceLT, Int32.reduceLT, Int32.reduceLE, Int32.reduceAdd, Int32.reduceSub, reduceCtorEq, true_or, or_true, or_false, false_or, ne_eq, Nat.zero_le, Option.toList]
theorem d_ev_bad {b t : Nat} (hD : DK h) (hM : MI 12 h) (k6 : hK h 6 = 7) (hd : hI h 12 6 = nI t) (ht : t ≤ 6) (hb : b < t) (hr : Rn xs L (d + 1) 30 [.inr (some 6), .inr (some 4), .inr (hR h 3 6)] h (some (.inr none), h1)) (hD1 : DK h1) : Rn xs L (d + 2) 67 [.inr (some 3), .inl (nI b)] h (some (.inl (-1)), sI h1 4 1 0) := by
  have k0 := hM.1
  obtain ⟨f0, f1, f2, f3, f4⟩ := hM.2.2.2.2.2.2.2.2.2.2.2.2 (t - 1 - b) (by omega)
  obtain ⟨k3, r0, r1, r2, r3, r4, r5, k4, r40, k5, l5, k46, r46, k47, l47, k48, l48⟩ := hD
  have k3' := hD1.1
  have r0' := hD1.2.1
  have k4' : hK h1 4 = 6 := hD1.2.2.2.2.2.2.2.1
  rw [i_rn]
  show X xs L (d + 1) 67 (0, [some (.inr (some 3)), some (.inl (nI b)), none, none], [], h) _
  simp only [e_67_0, e_67_1, e_67_4, e_67_5, true_and, and_true, and_self, false_and, and_false, if_true, if_false, ↓reduceIte, Nat.add_eq_left, Nat.left_eq_add, Nat.add_left_cancel_iff, not_false_eq_true, not_true_eq_false, i_pc, List.cons_append, List.nil_append, List.length_cons, List.length_nil, Nat.reduceEqDiff, Nat.reduceAdd, Nat.reduceMul, Nat.reduceSub, Nat.reduceLeDiff, Nat.reduceLT, Int32.reduceLT, Int32.reduceLE, Int32.reduceAdd, Int32.reduceSub, reduceCtorEq, true_or, or_true, or_false, false_or, ne_eq, Nat.zero_le, k3, r2, k0]
  refine ⟨_, r_below hM hd ht hb f0, ?_⟩
  simp only [e_67_8, e_67_9, e_67_10, e_67_17, e_67_18, e_67_21, e_67_22, e_67_25, e_67_26, e_67_29, true_and, and_true, and_self, false_and, and_false, if_true, if_false, ↓reduceIte, Nat.add_eq_left, Nat.left_eq_add, Nat.add_left_cancel_iff, not_false_eq_true, not_true_eq_false, i_pc, List.cons_append, List.nil_append, List.length_cons, List.length_nil, Nat.reduceEqDiff, Nat.reduceAdd, Nat.reduceMul, Nat.reduceSub, Nat.reduceLeDiff, Nat.reduceLT, Int32.reduceLT, Int32.reduceLE, Int32.reduceAdd, Int32.reduceSub, reduceCtorEq, true_or, or_true, or_false, false_or, ne_eq, Nat.zero_le, Option.toList, k3, r0, r1, k6]
  refine ⟨_, hr, ?_⟩
  simp only [e_67_32, e_67_33, e_67_34, e_67_37, true_and, and_true, and_self, false_and, and_false, if_true, if_false, ↓reduceIte, Nat.add_eq_left, Nat.left_eq_add, Nat.add_left_cancel_iff, not_false_eq_true, not_true_eq_false, i_pc, List.cons_append, List.nil_append, List.length_cons, List.length_nil, Nat.reduceEqDiff, Nat.reduceAdd, Nat.reduceMul, Nat.reduceSub, Nat.reduceLeDiff, Nat.reduceLT, Int32.reduceLT, Int32.reduceLE, Int32.reduceAdd, Int32.reduceSub, reduceCtorEq, true_or, or_true, or_false, false_or, ne_eq, Nat.zero_le, Option.toList, k3', r0', k4']
  refine ⟨_, d_clear k4', ?_⟩
  simp only [e_67_40, e_67_41, e_67_44, e_67_45, e_67_48, e_67_49, true_and, and_true, and_self, false_and, and_false, if_true, if_false, ↓reduceIte, Nat.add_eq_left, Nat.left_eq_add, Nat.add_left_cancel_iff, not_false_eq_true, not_true_eq_false, i_pc, List.cons_append, List.nil_append, List.length_cons, List.length_nil, Nat.reduceEqDiff, Nat.reduceAdd, Nat.reduceMul, Nat.reduceSub, Nat.reduceLeDiff, Nat.reduceLT, Int32.reduceLT, Int32.reduceLE, Int32.reduceAdd, Int32.reduceSub, reduceCtorEq, true_or, or_true, or_false, false_or, ne_eq, Nat.zero_le, Option.toList]
theorem d_ev {b t c : Nat} (hD : DK h) (hM : MI 12 h) (k6 : hK h 6 = 7) (hd : hI h 12 6 = nI t) (ht : t ≤ 6) (hb : b < t) (hr : Rn xs L (d + 1) 30 [.inr (some 6), .inr (some 4), .inr (hR h 3 6)] h (some (.inr (some c)), h1)) (hD1 : DK h1) (hp1 : hR h1 3 6 = some pg) (k29 : hK h1 29 = 3) (hw : Rn xs L (d + 1) 10 [.inr (some 29), .inr (some pg), .inr (some (12 + (2 + 2 * (t - 1 - b)))), .inr (some c)] (sI h1 4 1 0) (none, h2)) (hD2 : DK h2) (k292 : hK h2 29 = 3) : Rn xs L (d + 2) 67 [.inr (some 3), .inl (nI b)] h (if hI h2 29 4 = 2 then (some (.inl 0), sI h2 3 8 (hI h2 29 5)) else (some (.inl (if hI h2 29 4 = 3 then -2 else -3)), h2)) := by
  have k0 := hM.1
  obtain ⟨f0, f1, f2, f3, f4⟩ := hM.2.2.2.2.2.2.2.2.2.2.2.2 (t - 1 - b) (by omega)
  obtain ⟨k3, r0, r1, r2, r3, r4, r5, k4, r40, k5, l5, k46, r46, k47, l47, k48, l48⟩ := hD
  have k3' := hD1.1
  have r0' := hD1.2.1
  have r3' : hR h1 3 3 = some 29 := hD1.2.2.2.2.1
  have k4' : hK h1 4 = 6 := hD1.2.2.2.2.2.2.2.1
  have k32 := hD2.1
  have r32 : hR h2 3 3 = some 29 := hD2.2.2.2.2.1
  rw [i_rn]
  show X xs L (d + 1) 67 (0, [some (.inr (some 3)), some (.inl (nI b)), none, none], [], h) _
  simp only [e_67_0, e_67_1, e_67_4, e_67_5, true_and, and_true, and_self, false_and, and_false, if_true, if_false, ↓reduceIte, Nat.add_eq_left, Nat.left_eq_add, Nat.add_left_cancel_iff, not_false_eq_true, not_true_eq_false, i_pc, List.cons_append, List.nil_append, List.length_cons, List.length_nil, Nat.reduceEqDiff, Nat.reduceAdd, Nat.reduceMul, Nat.reduceSub, Nat.reduceLeDiff, Nat.reduceLT, Int32.reduceLT, Int32.reduceLE, Int32.reduceAdd, Int32.reduceSub, reduceCtorEq, true_or, or_true, or_false, false_or, ne_eq, Nat.zero_le, k3, r2, k0]
  refine ⟨_, r_below hM hd ht hb f0, ?_⟩
  simp only [e_67_8, e_67_9, e_67_10, e_67_17, e_67_18, e_67_21, e_67_22, e_67_25, e_67_26, e_67_29, true_and, and_true, and_self, false_and, and_false, if_true, if_false, ↓reduceIte, Nat.add_eq_left, Nat.left_eq_add, Nat.add_left_cancel_iff, not_false_eq_true, not_true_eq_false, i_pc, List.cons_append, List.nil_append, List.length_cons, List.length_nil, Nat.reduceEqDiff, Nat.reduceAdd, Nat.reduceMul, Nat.reduceSub, Nat.reduceLeDiff, Nat.reduceLT, Int32.reduceLT, Int32.reduceLE, Int32.reduceAdd, Int32.reduceSub, reduceCtorEq, true_or, or_true, or_false, false_or, ne_eq, Nat.zero_le, Option.toList, k3, r0, r1, k6]
  refine ⟨_, hr, ?_⟩
  simp only [e_67_32, e_67_33, e_67_34, e_67_37, true_and, and_true, and_self, false_and, and_false, if_true, if_false, ↓reduceIte, Nat.add_eq_left, Nat.left_eq_add, Nat.add_left_cancel_iff, not_false_eq_true, not_true_eq_false, i_pc, List.cons_append, List.nil_append, List.length_cons, List.length_nil, Nat.reduceEqDiff, Nat.reduceAdd, Nat.reduceMul, Nat.reduceSub, Nat.reduceLeDiff, Nat.reduceLT, Int32.reduceLT, Int32.reduceLE, Int32.reduceAdd, Int32.reduceSub, reduceCtorEq, true_or, or_true, or_false, false_or, ne_eq, Nat.zero_le, Option.toList, k3', r0', k4']
  refine ⟨_, d_clear k4', ?_⟩
  simp only [e_67_40, e_67_41, e_67_44, e_67_45, e_67_50, e_67_51, e_67_54, e_67_55, e_67_58, e_67_59, e_67_60, true_and, and_true, and_self, false_and, and_false, if_true, if_false, ↓reduceIte, Nat.add_eq_left, Nat.left_eq_add, Nat.add_left_cancel_iff, not_false_eq_true, not_true_eq_false, i_pc, List.cons_append, List.nil_append, List.length_cons, List.length_nil, Nat.reduceEqDiff, Nat.reduceAdd, Nat.reduceMul, Nat.reduceSub, Nat.reduceLeDiff, Nat.reduceLT, Int32.reduceLT, Int32.reduceLE, Int32.reduceAdd, Int32.reduceSub, reduceCtorEq, true_or, or_true, or_false, false_or, ne_eq, Nat.zero_le, Option.toList, hK_sI, hR_sI, k3', r3', hp1, k29]
  refine ⟨_, hw, ?_⟩
  by_cases c1 : hI h2 29 4 = 2
  · simp only [e_67_63, e_67_64, e_67_67, e_67_70, e_67_71, e_67_74, e_67_75, e_67_76, e_67_79, e_67_82, e_67_85, e_67_86, true_and, and_true, and_self, false_and, and_false, if_true, if_false, ↓reduceIte, Nat.add_eq_left, Nat.left_eq_add, Nat.add_left_cancel_iff, not_false_eq_true, not_true_eq_false, i_pc, List.cons_append, List.nil_append, List.length_cons, List.length_nil, Nat.reduceEqDiff, Nat.reduceAdd, Nat.reduceMul, Nat.reduceSub, Nat.reduceLeDiff, Nat.reduceLT, Int32.reduceLT, Int32.reduceLE, Int32.reduceAdd, Int32.reduceSub, reduceCtorEq, true_or, or_true, or_false, false_or, ne_eq, Nat.zero_le, Option.toList, k32, r32, k292, c1]
  · by_cases c2 : hI h2 29 4 = 3
    · simp only [e_67_63, e_67_64, e_67_67, e_67_70, e_67_71, e_67_87, e_67_88, e_67_91, e_67_94, e_67_95, e_67_98, e_67_100, e_67_103, e_67_105, true_and, and_true, and_self, false_and, and_false, if_true, if_false, ↓reduceIte, Nat.add_eq_left, Nat.left_eq_add, Nat.add_left_cancel_iff, not_false_eq_true, not_true_eq_false, i_pc, List.cons_append, List.nil_append, List.length_cons, List.length_nil, Nat.reduceEqDiff, Nat.reduceAdd, Nat.reduceMul, Nat.reduceSub, Nat.reduceLeDiff, Nat.reduceLT, Int32.reduceLT, Int32.reduceLE, Int32.reduceAdd, Int32.reduceSub, reduceCtorEq, true_or, or_true, or_false, false_or, ne_eq, Nat.zero_le, Option.toList, k32, r32, k292, c2, show ((3 : Int32) = 2) = False from by decide]
    · simp only [e_67_63, e_67_64, e_67_67, e_67_70, e_67_71, e_67_87, e_67_88, e_67_91, e_67_94, e_67_95, e_67_98, e_67_100, e_67_103, e_67_105, true_and, and_true, and_self, false_and, and_false, if_true, if_false, ↓reduceIte, Nat.add_eq_left, Nat.left_eq_add, Nat.add_left_cancel_iff, not_false_eq_true, not_true_eq_false, i_pc, List.cons_append, List.nil_append, List.length_cons, List.length_nil, Nat.reduceEqDiff, Nat.reduceAdd, Nat.reduceMul, Nat.reduceSub, Nat.reduceLeDiff, Nat.reduceLT, Int32.reduceLT, Int32.reduceLE, Int32.reduceAdd, Int32.reduceSub, reduceCtorEq, true_or, or_true, or_false, false_or, ne_eq, Nat.zero_le, Option.toList, k32, r32, k292, c1, c2]
end DH

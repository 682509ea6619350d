-- the desk: steps, go
def stV (k b dp : Int32) : Bool := decide (k = 1 ∨ (k = 2 ∧ dp ≤ b) ∨ (k = 3 ∧ dp < b))
def anV (st wt th sp k b dp : Int32) : Int32 := if st = 3 then 5 else if st = 2 then 4 else if ¬ wt = 0 ∧ ¬ th = 0 then 3 else if ¬ sp = 0 then 1 else if stV k b dp = true then 2 else 0
section DE
variable {xs : Nat → Int32} {L d : Nat} {h h2 h3 : Hp} {res : Res}
theorem d_step {k b : Int32} (hD : DK h) (hM : MI 12 h) : Rn xs L (d + 1) 73 [.inr (some 3), .inl k, .inl b] h (some (.inl (bI (stV k b (hI h 12 6)))), h) := by
  have k3 := hD.1
  have r2 := hD.2.2.2.1
  have k0 := hM.1
  rw [i_rn]
  show X xs L d 73 (0, [some (.inr (some 3)), some (.inl k), some (.inl b)], [], h) _
  unfold stV
  by_cases c1 : k = 1
  · rw [bI_t (Or.inl c1)]
    simp only [e_73_0, e_73_1, e_73_2, e_73_37, e_73_38, e_73_41, e_73_42, true_and, and_true, and_self, false_and, and_false, if_true, if_false, ↓reduceIte, Nat.add_eq_left, Nat.left_eq_add, Nat.add_left_cancel_iff, not_false_eq_true, not_true_eq_false, i_pc, List.cons_append, List.nil_append, List.length_cons, List.length_nil, Nat.reduceEqDiff, Nat.reduceAdd, Nat.reduceMul, Nat.reduceSub, Nat.reduceLeDiff, Nat.reduceLT, Int32.reduceLT, Int32.reduceLE, Int32.reduceAdd, Int32.reduceSub, reduceCtorEq, true_or, or_true, or_false, false_or, ne_eq, Nat.zero_le, c1]
  by_cases c2 : k = 2
  · subst c2
    by_cases c3 : hI h 12 6 ≤ b
    · rw [bI_t (Or.inr (Or.inl ⟨rfl, c3⟩))]
      simp only [e_73_0, e_73_1, e_73_2, e_73_5, e_73_6, e_73_7, e_73_10, e_73_11, e_73_14, e_73_17, e_73_18, e_73_21, e_73_22, e_73_23, e_73_26, e_73_27, e_73_30, e_73_33, e_73_34, e_73_37, e_73_38, e_73_41, e_73_42, true_and, and_true, and_self, false_and, and_false, if_true, if_false, ↓reduceIte, Nat.add_eq_left, Nat.left_eq_add, Nat.add_left_cancel_iff, not_false_eq_true, not_true_eq_false, i_pc, List.cons_append, List.nil_append, List.length_cons, List.length_nil, Nat.reduceEqDiff, Nat.reduceAdd, Nat.reduceMul, Nat.reduceSub, Nat.reduceLeDiff, Nat.reduceLT, Int32.reduceLT, Int32.reduceLE, Int32.reduceAdd, Int32.reduceSub, reduceCtorEq, true_or, or_true, or_false, false_or, ne_eq, Nat.zero_le, c1, k3, r2, k0, c3]
    · rw [bI_f (fun z => z.elim c1 (fun z => z.elim (fun z => c3 z.2) (fun z => absurd z.1 (by decide))))]
      simp only [e_73_0, e_73_1, e_73_2, e_73_5, e_73_6, e_73_7, e_73_10, e_73_11, e_73_14, e_73_17, e_73_18, e_73_21, e_73_22, e_73_23, e_73_26, e_73_27, e_73_30, e_73_33, e_73_34, e_73_37, e_73_38, e_73_41, e_73_42, true_and, and_true, and_self, false_and, and_false, if_true, if_false, ↓reduceIte, Nat.add_eq_left, Nat.left_eq_add, Nat.add_left_cancel_iff, not_false_eq_true, not_true_eq_false, i_pc, List.cons_append, List.nil_append, List.length_cons, List.length_nil, Nat.reduceEqDiff, Nat.reduceAdd, Nat.reduceMul, Nat.reduceSub, Nat.reduceLeDiff, Nat.reduceLT, Int32.reduceLT, Int32.reduceLE, Int32.reduceAdd, Int32.reduceSub, reduceCtorEq, true_or, or_true, or_false, false_or, ne_eq, Nat.zero_le, c1, k3, r2, k0, c3, show ((2 : Int32) = 3) = False from by decide]
  by_cases c4 : k = 3
  · subst c4
    by_cases c5 : b ≤ hI h 12 6
    · rw [bI_f (fun z => z.elim c1 (fun z => z.elim (fun z => c2 z.1) (fun z => absurd z.2 (Int32.not_lt.mpr c5))))]
      simp only [e_73_0, e_73_1, e_73_2, e_73_5, e_73_6, e_73_7, e_73_10, e_73_11, e_73_14, e_73_17, e_73_18, e_73_21, e_73_22, e_73_23, e_73_26, e_73_27, e_73_30, e_73_33, e_73_34, e_73_37, e_73_38, e_73_41, e_73_42, true_and, and_true, and_self, false_and, and_false, if_true, if_false, ↓reduceIte, Nat.add_eq_left, Nat.left_eq_add, Nat.add_left_cancel_iff, not_false_eq_true, not_true_eq_false, i_pc, List.cons_append, List.nil_append, List.length_cons, List.length_nil, Nat.reduceEqDiff, Nat.reduceAdd, Nat.reduceMul, Nat.reduceSub, Nat.reduceLeDiff, Nat.reduceLT, Int32.reduceLT, Int32.reduceLE, Int32.reduceAdd, Int32.reduceSub, reduceCtorEq, true_or, or_true, or_false, false_or, ne_eq, Nat.zero_le, c1, c2, k3, r2, k0, c5]
    · rw [bI_t (Or.inr (Or.inr ⟨rfl, Int32.not_le.mp c5⟩))]
      simp only [e_73_0, e_73_1, e_73_2, e_73_5, e_73_6, e_73_7, e_73_10, e_73_11, e_73_14, e_73_17, e_73_18, e_73_21, e_73_22, e_73_23, e_73_26, e_73_27, e_73_30, e_73_33, e_73_34, e_73_37, e_73_38, e_73_41, e_73_42, true_and, and_true, and_self, false_and, and_false, if_true, if_false, ↓reduceIte, Nat.add_eq_left, Nat.left_eq_add, Nat.add_left_cancel_iff, not_false_eq_true, not_true_eq_false, i_pc, List.cons_append, List.nil_append, List.length_cons, List.length_nil, Nat.reduceEqDiff, Nat.reduceAdd, Nat.reduceMul, Nat.reduceSub, Nat.reduceLeDiff, Nat.reduceLT, Int32.reduceLT, Int32.reduceLE, Int32.reduceAdd, Int32.reduceSub, reduceCtorEq, true_or, or_true, or_false, false_or, ne_eq, Nat.zero_le, c1, c2, k3, r2, k0, c5]
  · rw [bI_f (fun z => z.elim c1 (fun z => z.elim (fun z => c2 z.1) (fun z => c4 z.1)))]
    simp only [e_73_0, e_73_1, e_73_2, e_73_5, e_73_6, e_73_7, e_73_10, e_73_11, e_73_14, e_73_17, e_73_18, e_73_21, e_73_22, e_73_23, e_73_26, e_73_27, e_73_30, e_73_33, e_73_34, e_73_37, e_73_38, e_73_41, e_73_42, true_and, and_true, and_self, false_and, and_false, if_true, if_false, ↓reduceIte, Nat.add_eq_left, Nat.left_eq_add, Nat.add_left_cancel_iff, not_false_eq_true, not_true_eq_false, i_pc, List.cons_append, List.nil_append, List.length_cons, List.length_nil, Nat.reduceEqDiff, Nat.reduceAdd, Nat.reduceMul, Nat.reduceSub, Nat.reduceLeDiff, Nat.reduceLT, Int32.reduceLT, Int32.reduceLE, Int32.reduceAdd, Int32.reduceSub, reduceCtorEq, true_or, or_true, or_false, false_or, ne_eq, Nat.zero_le, c1, c2, c4]
theorem d_ans {k b sp : Int32} (hD : DK h) (hM : MI 12 h) : Rn xs L (d + 2) 72 [.inr (some 3), .inl k, .inl b, .inl sp] h (some (.inl (anV (hI h 12 4) (hI h 3 7) (hI h 12 9) sp k b (hI h 12 6))), h) := by
  have k3 := hD.1
  have r2 := hD.2.2.2.1
  have k0 := hM.1
  rw [i_rn]
  show X xs L (d + 1) 72 (0, [some (.inr (some 3)), some (.inl k), some (.inl b), some (.inl sp)], [], h) _
  unfold anV
  by_cases c1 : hI h 12 4 = 3
  · simp only [e_72_0, e_72_1, e_72_4, e_72_7, e_72_8, e_72_11, e_72_12, true_and, and_true, and_self, false_and, and_false, if_true, if_false, ↓reduceIte, Nat.add_eq_left, Nat.left_eq_add, Nat.add_left_cancel_iff, not_false_eq_true, not_true_eq_false, i_pc, List.cons_append, List.nil_append, List.length_cons, List.length_nil, Nat.reduceEqDiff, Nat.reduceAdd, Nat.reduceMul, Nat.reduceSub, Nat.reduceLeDiff, Nat.reduceLT, Int32.reduceLT, Int32.reduceLE, Int32.reduceAdd, Int32.reduceSub, reduceCtorEq, true_or, or_true, or_false, false_or, ne_eq, Nat.zero_le, k3, r2, k0, c1]
  by_cases c2 : hI h 12 4 = 2
  · simp only [e_72_0, e_72_1, e_72_4, e_72_7, e_72_8, e_72_11, e_72_12, e_72_13, e_72_14, e_72_17, e_72_20, e_72_21, e_72_24, e_72_25, true_and, and_true, and_self, false_and, and_false, if_true, if_false, ↓reduceIte, Nat.add_eq_left, Nat.left_eq_add, Nat.add_left_cancel_iff, not_false_eq_true, not_true_eq_false, i_pc, List.cons_append, List.nil_append, List.length_cons, List.length_nil, Nat.reduceEqDiff, Nat.reduceAdd, Nat.reduceMul, Nat.reduceSub, Nat.reduceLeDiff, Nat.reduceLT, Int32.reduceLT, Int32.reduceLE, Int32.reduceAdd, Int32.reduceSub, reduceCtorEq, true_or, or_true, or_false, false_or, ne_eq, Nat.zero_le, k3, r2, k0, c1, c2, show ((2 : Int32) = 3) = False from by decide]
  have tail : X xs L (d + 1) 72 (45, [some (.inr (some 3)), some (.inl k), some (.inl b), some (.inl sp)], [], h) (some (.inl (if ¬ sp = 0 then 1 else if stV k b (hI h 12 6) = true then 2 else 0)), h) := by
    by_cases c5 : sp = 0
    · simp only [e_72_45, e_72_46, e_72_51, e_72_52, e_72_53, e_72_54, true_and, and_true, and_self, false_and, and_false, if_true, if_false, ↓reduceIte, Nat.add_eq_left, Nat.left_eq_add, Nat.add_left_cancel_iff, not_false_eq_true, not_true_eq_false, i_pc, List.cons_append, List.nil_append, List.length_cons, List.length_nil, Nat.reduceEqDiff, Nat.reduceAdd, Nat.reduceMul, Nat.reduceSub, Nat.reduceLeDiff, Nat.reduceLT, Int32.reduceLT, Int32.reduceLE, Int32.reduceAdd, Int32.reduceSub, reduceCtorEq, true_or, or_true, or_false, false_or, ne_eq, Nat.zero_le, k3, c5]
      refine ⟨_, d_step hD hM, ?_⟩
      cases c6 : stV k b (hI h 12 6) with
      | true => simp only [e_72_57, e_72_60, e_72_61, e_72_64, e_72_65, true_and, and_true, and_self, false_and, and_false, if_true, if_false, ↓reduceIte, Nat.add_eq_left, Nat.left_eq_add, Nat.add_left_cancel_iff, not_false_eq_true, not_true_eq_false, i_pc, List.cons_append, List.nil_append, List.length_cons, List.length_nil, Nat.reduceEqDiff, Nat.reduceAdd, Nat.reduceMul, Nat.reduceSub, Nat.reduceLeDiff, Nat.reduceLT, Int32.reduceLT, Int32.reduceLE, Int32.reduceAdd, Int32.reduceSub, reduceCtorEq, true_or, or_true, or_false, false_or, ne_eq, Nat.zero_le, Option.toList, bI_tt, show ((1 : Int32) = 0) = False from by decide]
      | false => simp only [e_72_57, e_72_60, e_72_61, e_72_64, e_72_65, true_and, and_true, and_self, false_and, and_false, if_true, if_false, ↓reduceIte, Nat.add_eq_left, Nat.left_eq_add, Nat.add_left_cancel_iff, not_false_eq_true, not_true_eq_false, i_pc, List.cons_append, List.nil_append, List.length_cons, List.length_nil, Nat.reduceEqDiff, Nat.reduceAdd, Nat.reduceMul, Nat.reduceSub, Nat.reduceLeDiff, Nat.reduceLT, Int32.reduceLT, Int32.reduceLE, Int32.reduceAdd, Int32.reduceSub, reduceCtorEq, true_or, or_true, or_false, false_or, ne_eq, Nat.zero_le, Option.toList, bI_ff, Bool.false_eq_true]
    · simp only [e_72_45, e_72_46, e_72_49, e_72_50, true_and, and_true, and_self, false_and, and_false, if_true, if_false, ↓reduceIte, Nat.add_eq_left, Nat.left_eq_add, Nat.add_left_cancel_iff, not_false_eq_true, not_true_eq_false, i_pc, List.cons_append, List.nil_append, List.length_cons, List.length_nil, Nat.reduceEqDiff, Nat.reduceAdd, Nat.reduceMul, Nat.reduceSub, Nat.reduceLeDiff, Nat.reduceLT, Int32.reduceLT, Int32.reduceLE, Int32.reduceAdd, Int32.reduceSub, reduceCtorEq, true_or, or_true, or_false, false_or, ne_eq, Nat.zero_le, c5]
  by_cases c3 : hI h 3 7 = 0
  · simp only [e_72_0, e_72_1, e_72_4, e_72_7, e_72_8, e_72_11, e_72_12, e_72_13, e_72_14, e_72_17, e_72_20, e_72_21, e_72_24, e_72_25, e_72_26, e_72_27, e_72_30, true_and, and_true, and_self, false_and, and_false, if_true, if_false, ↓reduceIte, Nat.add_eq_left, Nat.left_eq_add, Nat.add_left_cancel_iff, not_false_eq_true, not_true_eq_false, i_pc, List.cons_append, List.nil_append, List.length_cons, List.length_nil, Nat.reduceEqDiff, Nat.reduceAdd, Nat.reduceMul, Nat.reduceSub, Nat.reduceLeDiff, Nat.reduceLT, Int32.reduceLT, Int32.reduceLE, Int32.reduceAdd, Int32.reduceSub, reduceCtorEq, true_or, or_true, or_false, false_or, ne_eq, Nat.zero_le, k3, r2, k0, c1, c2, c3]
    exact tail
  · by_cases c4 : hI h 12 9 = 0
    · simp only [e_72_0, e_72_1, e_72_4, e_72_7, e_72_8, e_72_11, e_72_12, e_72_13, e_72_14, e_72_17, e_72_20, e_72_21, e_72_24, e_72_25, e_72_26, e_72_27, e_72_30, e_72_33, e_72_34, e_72_37, e_72_40, true_and, and_true, and_self, false_and, and_false, if_true, if_false, ↓reduceIte, Nat.add_eq_left, Nat.left_eq_add, Nat.add_left_cancel_iff, not_false_eq_true, not_true_eq_false, i_pc, List.cons_append, List.nil_append, List.length_cons, List.length_nil, Nat.reduceEqDiff, Nat.reduceAdd, Nat.reduceMul, Nat.reduceSub, Nat.reduceLeDiff, Nat.reduceLT, Int32.reduceLT, Int32.reduceLE, Int32.reduceAdd, Int32.reduceSub, reduceCtorEq, true_or, or_true, or_false, false_or, ne_eq, Nat.zero_le, k3, r2, k0, c1, c2, c3, c4]
      exact tail
    · simp only [e_72_0, e_72_1, e_72_4, e_72_7, e_72_8, e_72_11, e_72_12, e_72_13, e_72_14, e_72_17, e_72_20, e_72_21, e_72_24, e_72_25, e_72_26, e_72_27, e_72_30, e_72_33, e_72_34, e_72_37, e_72_40, e_72_43, e_72_44, true_and, and_true, and_self, false_and, and_false, if_true, if_false, ↓reduceIte, Nat.add_eq_left, Nat.left_eq_add, Nat.add_left_cancel_iff, not_false_eq_true, not_true_eq_false, i_pc, List.cons_append, List.nil_append, List.length_cons, List.length_nil, Nat.reduceEqDiff, Nat.reduceAdd, Nat.reduceMul, Nat.reduceSub, Nat.reduceLeDiff, Nat.reduceLT, Int32.reduceLT, Int32.reduceLE, Int32.reduceAdd, Int32.reduceSub, reduceCtorEq, true_or, or_true, or_false, false_or, ne_eq, Nat.zero_le, k3, r2, k0, c1, c2, c3, c4]
/-- at most m more passes of go -/
def GO (xs : Nat → Int32) (L d : Nat) (k b : Int32) : Nat → Hp → Int32 → Hp → Prop
  | 0, h, a, h2 => a = 0 ∧ h2 = h
  | m + 1, h, a, h2 => hK h 3 = 8 ∧ hR h 3 2 = some 12 ∧ hK h 12 = 3 ∧ ∃ h1 h1' sp a1, Rn xs L d 9 [.inr (some 12)] h (none, h1) ∧ hK h1 3 = 8 ∧ Rn xs L d 74 [.inr (some 3)] h1 (some (.inl sp), h1') ∧ hK h1' 3 = 8 ∧ Rn xs L d 72 [.inr (some 3), .inl k, .inl b, .inl sp] h1' (some (.inl a1), h1') ∧ ((¬ a1 = 0 ∧ a = a1 ∧ h2 = h1') ∨ (a1 = 0 ∧ GO xs L d k b m h1' a h2))
theorem d_go_loop {k b a : Int32} {n : Nat} (hn : n ≤ 50) : ∀ (m i : Nat) (h : Hp) (a6 : Option AV), i + m = n → GO xs L d k b m h a h2 → X xs L d 60 (47, [some (.inr (some 3)), some (.inl k), some (.inl (nI n)), some (.inl b), some (.inl 0), some (.inl (nI i)), a6], [], h) (some (.inl a), h2) := by
  intro m
  induction m with
  | zero =>
    intro i h a6 hi hg
    have hi2 : i = n := by omega
    subst hi2
    obtain ⟨rfl, rfl⟩ := hg
    have c1 : nI i ≤ nI i := Int32.le_refl _
    simp only [e_60_47, e_60_49, e_60_50, e_60_87, e_60_89, true_and, and_true, and_self, false_and, and_false, if_true, if_false, ↓reduceIte, Nat.add_eq_left, Nat.left_eq_add, Nat.add_left_cancel_iff, not_false_eq_true, not_true_eq_false, i_pc, List.cons_append, List.nil_append, List.length_cons, List.length_nil, Nat.reduceEqDiff, Nat.reduceAdd, Nat.reduceMul, Nat.reduceSub, Nat.reduceLeDiff, Nat.reduceLT, Int32.reduceLT, Int32.reduceLE, Int32.reduceAdd, Int32.reduceSub, reduceCtorEq, true_or, or_true, or_false, false_or, ne_eq, Nat.zero_le, c1]
  | succ m ih =>
    intro i h a6 hi hg
    have c1 : ¬ nI n ≤ nI i := nI_ge (by omega) (by omega)
    obtain ⟨k3, r2, k0, h1, h1', sp, a1, hr1, k3', hr2, k3'', hr3, hg⟩ := hg
    rw [e_60_47]
    simp only [e_60_49, e_60_50, e_60_53, e_60_55, e_60_58, e_60_59, e_60_62, true_and, and_true, and_self, false_and, and_false, if_true, if_false, ↓reduceIte, Nat.add_eq_left, Nat.left_eq_add, Nat.add_left_cancel_iff, not_false_eq_true, not_true_eq_false, i_pc, List.cons_append, List.nil_append, List.length_cons, List.length_nil, Nat.reduceEqDiff, Nat.reduceAdd, Nat.reduceMul, Nat.reduceSub, Nat.reduceLeDiff, Nat.reduceLT, Int32.reduceLT, Int32.reduceLE, Int32.reduceAdd, Int32.reduceSub, reduceCtorEq, true_or, or_true, or_false, false_or, ne_eq, Nat.zero_le, c1, k3, r2, k0]
    refine ⟨_, hr1, ?_⟩
    simp only [e_60_65, e_60_66, true_and, and_true, and_self, false_and, and_false, if_true, if_false, ↓reduceIte, Nat.add_eq_left, Nat.left_eq_add, Nat.add_left_cancel_iff, not_false_eq_true, not_true_eq_false, i_pc, List.cons_append, List.nil_append, List.length_cons, List.length_nil, Nat.reduceEqDiff, Nat.reduceAdd, Nat.reduceMul, Nat.reduceSub, Nat.reduceLeDiff, Nat.reduceLT, Int32.reduceLT, Int32.reduceLE, Int32.reduceAdd, Int32.reduceSub, reduceCtorEq, true_or, or_true, or_false, false_or, ne_eq, Nat.zero_le, Option.toList, k3']
    refine ⟨_, hr2, ?_⟩
    simp only [e_60_69, e_60_71, e_60_72, e_60_73, e_60_74, e_60_76, true_and, and_true, and_self, false_and, and_false, if_true, if_false, ↓reduceIte, Nat.add_eq_left, Nat.left_eq_add, Nat.add_left_cancel_iff, not_false_eq_true, not_true_eq_false, i_pc, List.cons_append, List.nil_append, List.length_cons, List.length_nil, Nat.reduceEqDiff, Nat.reduceAdd, Nat.reduceMul, Nat.reduceSub, Nat.reduceLeDiff, Nat.reduceLT, Int32.reduceLT, Int32.reduceLE, Int32.reduceAdd, Int32.reduceSub, reduceCtorEq, true_or, or_true, or_false, false_or, ne_eq, Nat.zero_le, Option.toList, k3'']
    refine ⟨_, hr3, ?_⟩
    rcases hg with ⟨c2, rfl, rfl⟩ | ⟨rfl, hg⟩
    · simp only [e_60_79, e_60_81, e_60_84, true_and, and_true, and_self, false_and, and_false, if_true, if_false, ↓reduceIte, Nat.add_eq_left, Nat.left_eq_add, Nat.add_left_cancel_iff, not_false_eq_true, not_true_eq_false, i_pc, List.cons_append, List.nil_append, List.length_cons, List.length_nil, Nat.reduceEqDiff, Nat.reduceAdd, Nat.reduceMul, Nat.reduceSub, Nat.reduceLeDiff, Nat.reduceLT, Int32.reduceLT, Int32.reduceLE, Int32.reduceAdd, Int32.reduceSub, reduceCtorEq, true_or, or_true, or_false, false_or, ne_eq, Nat.zero_le, Option.toList, nI_1]
      by_cases c3 : nI n ≤ nI (i + 1)
      · simp only [e_60_47, e_60_49, e_60_50, e_60_87, e_60_89, true_and, and_true, and_self, false_and, and_false, if_true, if_false, ↓reduceIte, Nat.add_eq_left, Nat.left_eq_add, Nat.add_left_cancel_iff, not_false_eq_true, not_true_eq_false, i_pc, List.cons_append, List.nil_append, List.length_cons, List.length_nil, Nat.reduceEqDiff, Nat.reduceAdd, Nat.reduceMul, Nat.reduceSub, Nat.reduceLeDiff, Nat.reduceLT, Int32.reduceLT, Int32.reduceLE, Int32.reduceAdd, Int32.reduceSub, reduceCtorEq, true_or, or_true, or_false, false_or, ne_eq, Nat.zero_le, c3]
      · simp only [e_60_47, e_60_49, e_60_50, e_60_53, e_60_55, e_60_87, e_60_89, true_and, and_true, and_self, false_and, and_false, if_true, if_false, ↓reduceIte, Nat.add_eq_left, Nat.left_eq_add, Nat.add_left_cancel_iff, not_false_eq_true, not_true_eq_false, i_pc, List.cons_append, List.nil_append, List.length_cons, List.length_nil, Nat.reduceEqDiff, Nat.reduceAdd, Nat.reduceMul, Nat.reduceSub, Nat.reduceLeDiff, Nat.reduceLT, Int32.reduceLT, Int32.reduceLE, Int32.reduceAdd, Int32.reduceSub, reduceCtorEq, true_or, or_true, or_false, false_or, ne_eq, Nat.zero_le, c3, c2]
    · simp only [e_60_79, e_60_81, e_60_84, true_and, and_true, and_self, false_and, and_false, if_true, if_false, ↓reduceIte, Nat.add_eq_left, Nat.left_eq_add, Nat.add_left_cancel_iff, not_false_eq_true, not_true_eq_false, i_pc, List.cons_append, List.nil_append, List.length_cons, List.length_nil, Nat.reduceEqDiff, Nat.reduceAdd, Nat.reduceMul, Nat.reduceSub, Nat.reduceLeDiff, Nat.reduceLT, Int32.reduceLT, Int32.reduceLE, Int32.reduceAdd, Int32.reduceSub, reduceCtorEq, true_or, or_true, or_false, false_or, ne_eq, Nat.zero_le, Option.toList, nI_1]
      exact ih (i + 1) _ _ (by omega) hg
theorem d_go_no {k w : Int32} (hD : DK h) (hM : MI 12 h) (hb : k < 0 ∨ 3 < k ∨ w < 1 ∨ 50 < w ∨ ¬ hI h 12 4 = 1) : Rn xs L (d + 1) 60 [.inr (some 3), .inl k, .inl w] h (some (.inl (-1)), h) := by
  have k3 := hD.1
  have r2 := hD.2.2.2.1
  have k0 := hM.1
  rw [i_rn]
  show X xs L d 60 (0, [some (.inr (some 3)), some (.inl k), some (.inl w), none, none, none, none], [], h) _
  by_cases c1 : k < 0
  · simp only [e_60_0, e_60_1, e_60_31, e_60_32, true_and, and_true, and_self, false_and, and_false, if_true, if_false, ↓reduceIte, Nat.add_eq_left, Nat.left_eq_add, Nat.add_left_cancel_iff, not_false_eq_true, not_true_eq_false, i_pc, List.cons_append, List.nil_append, List.length_cons, List.length_nil, Nat.reduceEqDiff, Nat.reduceAdd, Nat.reduceMul, Nat.reduceSub, Nat.reduceLeDiff, Nat.reduceLT, Int32.reduceLT, Int32.reduceLE, Int32.reduceAdd, Int32.reduceSub, reduceCtorEq, true_or, or_true, or_false, false_or, ne_eq, Nat.zero_le, c1]
  by_cases c2 : 3 < k
  · simp only [e_60_0, e_60_1, e_60_4, e_60_5, e_60_6, e_60_31, e_60_32, true_and, and_true, and_self, false_and, and_false, if_true, if_false, ↓reduceIte, Nat.add_eq_left, Nat.left_eq_add, Nat.add_left_cancel_iff, not_false_eq_true, not_true_eq_false, i_pc, List.cons_append, List.nil_append, List.length_cons, List.length_nil, Nat.reduceEqDiff, Nat.reduceAdd, Nat.reduceMul, Nat.reduceSub, Nat.reduceLeDiff, Nat.reduceLT, Int32.reduceLT, Int32.reduceLE, Int32.reduceAdd, Int32.reduceSub, reduceCtorEq, true_or, or_true, or_false, false_or, ne_eq, Nat.zero_le, c1, c2]
  by_cases c3 : w < 1
  · simp only [e_60_0, e_60_1, e_60_4, e_60_5, e_60_6, e_60_9, e_60_10, e_60_11, e_60_31, e_60_32, true_and, and_true, and_self, false_and, and_false, if_true, if_false, ↓reduceIte, Nat.add_eq_left, Nat.left_eq_add, Nat.add_left_cancel_iff, not_false_eq_true, not_true_eq_false, i_pc, List.cons_append, List.nil_append, List.length_cons, List.length_nil, Nat.reduceEqDiff, Nat.reduceAdd, Nat.reduceMul, Nat.reduceSub, Nat.reduceLeDiff, Nat.reduceLT, Int32.reduceLT, Int32.reduceLE, Int32.reduceAdd, Int32.reduceSub, reduceCtorEq, true_or, or_true, or_false, false_or, ne_eq, Nat.zero_le, c1, c2, c3]
  by_cases c4 : 50 < w
  · simp only [e_60_0, e_60_1, e_60_4, e_60_5, e_60_6, e_60_9, e_60_10, e_60_11, e_60_14, e_60_15, e_60_17, e_60_31, e_60_32, true_and, and_true, and_self, false_and, and_false, if_true, if_false, ↓reduceIte, Nat.add_eq_left, Nat.left_eq_add, Nat.add_left_cancel_iff, not_false_eq_true, not_true_eq_false, i_pc, List.cons_append, List.nil_append, List.length_cons, List.length_nil, Nat.reduceEqDiff, Nat.reduceAdd, Nat.reduceMul, Nat.reduceSub, Nat.reduceLeDiff, Nat.reduceLT, Int32.reduceLT, Int32.reduceLE, Int32.reduceAdd, Int32.reduceSub, reduceCtorEq, true_or, or_true, or_false, false_or, ne_eq, Nat.zero_le, c1, c2, c3, c4]
  have c5 : ¬ hI h 12 4 = 1 := (((hb.resolve_left c1).resolve_left c2).resolve_left c3).resolve_left c4
  simp only [e_60_0, e_60_1, e_60_4, e_60_5, e_60_6, e_60_9, e_60_10, e_60_11, e_60_14, e_60_15, e_60_17, e_60_20, e_60_21, e_60_24, e_60_27, e_60_28, e_60_31, e_60_32, true_and, and_true, and_self, false_and, and_false, if_true, if_false, ↓reduceIte, Nat.add_eq_left, Nat.left_eq_add, Nat.add_left_cancel_iff, not_false_eq_true, not_true_eq_false, i_pc, List.cons_append, List.nil_append, List.length_cons, List.length_nil, Nat.reduceEqDiff, Nat.reduceAdd, Nat.reduceMul, Nat.reduceSub, Nat.reduceLeDiff, Nat.reduceLT, Int32.reduceLT, Int32.reduceLE, Int32.reduceAdd, Int32.reduceSub, reduceCtorEq, true_or, or_true, or_false, false_or, ne_eq, Nat.zero_le, c1, c2, c3, c4, c5, k3, r2, k0]
theorem d_go {k a : Int32} {n : Nat} (hD : DK h) (hM : MI 12 h) (h0 : ¬ k < 0) (h1 : ¬ 3 < k) (hn1 : 1 ≤ n) (hn : n ≤ 50) (hs : hI h 12 4 = 1) (hg : GO xs L d k (hI h 12 6) n h a h2) : Rn xs L (d + 1) 60 [.inr (some 3), .inl k, .inl (nI n)] h (some (.inl a), h2) := by
  have k3 := hD.1
  have r2 := hD.2.2.2.1
  have k0 := hM.1
  have c3 : ¬ nI n < 1 := Int32.not_lt.mpr (nI_le (a := 1) hn1 (by omega))
  have c4 : ¬ 50 < nI n := Int32.not_lt.mpr (nI_le (b := 50) hn (by decide))
  rw [i_rn]
  show X xs L d 60 (0, [some (.inr (some 3)), some (.inl k), some (.inl (nI n)), none, none, none, none], [], h) _
  simp only [e_60_0, e_60_1, e_60_4, e_60_5, e_60_6, e_60_9, e_60_10, e_60_11, e_60_14, e_60_15, e_60_17, e_60_20, e_60_21, e_60_24, e_60_27, e_60_28, e_60_33, e_60_34, e_60_37, e_60_40, e_60_41, e_60_42, e_60_44, e_60_45, true_and, and_true, and_self, false_and, and_false, if_true, if_false, ↓reduceIte, Nat.add_eq_left, Nat.left_eq_add, Nat.add_left_cancel_iff, not_false_eq_true, not_true_eq_false, i_pc, List.cons_append, List.nil_append, List.length_cons, List.length_nil, Nat.reduceEqDiff, Nat.reduceAdd, Nat.reduceMul, Nat.reduceSub, Nat.reduceLeDiff, Nat.reduceLT, Int32.reduceLT, Int32.reduceLE, Int32.reduceAdd, Int32.reduceSub, reduceCtorEq, true_or, or_true, or_false, false_or, ne_eq, Nat.zero_le, h0, h1, c3, c4, hs, k3, r2, k0]
  exact d_go_loop hn n 0 h _ (by omega) hg
end DE

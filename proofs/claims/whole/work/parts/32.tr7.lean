-- the translator: statements, blocks, functions
section TG
variable {xs : Nat → Int32} {L d : Nat} {h : Hp} {res : Res} {n : Nat} {tx : Nat → Int32} {s : TS} {B : TS → Bool × TS} {deep : Nat}
theorem em_ln {op x : Int32} : (cEmit op x s).2.2.1 = s.2.2.1 := by
  obtain ⟨a, z, l, I, H, S, P, A⟩ := s
  by_cases h1 : z < 151
  · have e : cEmit op x (a, z, l, I, H, S, P, A) = (a, z + 1, l, up I z (iw op x), up H z (-1), S, P, A) := if_pos h1
    rw [e]
  · have e : cEmit op x (a, z, l, I, H, S, P, A) = (a, z, l, I, H, S, P, A) := if_neg h1
    rw [e]
theorem t_st2 {c : Int32} {pt : Nat} (hT : TI h n tx) (hB : EB n B) (hR : BS xs L (d + 21) h n (deep + 1) B) (hb : Bd n s) : X xs L (d + 22) 35 (50, [some (.inr (some 6)), some (.inl (nI deep)), some (.inl c), some (.inl (nI pt)), none], [], tH h s) (some (.inl (bI (cSt2 n tx B c pt s).1)), tH h (cSt2 n tx B c pt s).2) := by
  have k6 : hK h 6 = 7 := hT.1.1
  have hn : n ≤ 150 := hT.2.2.2.2.1
  unfold cSt2
  by_cases c1 : c = 126
  · subst c1
    simp only [e_35_50, e_35_51, e_35_53, e_35_56, e_35_57, e_35_58, true_and, and_true, and_self, false_and, and_false, if_true, if_false, ↓reduceIte, Nat.add_eq_left, Nat.left_eq_add, Nat.add_left_cancel_iff, not_false_eq_true, not_true_eq_false, i_pc, List.cons_append, List.nil_append, List.length_cons, List.length_nil, Nat.reduceEqDiff, Nat.reduceAdd, Nat.reduceMul, Nat.reduceSub, Nat.reduceLeDiff, Nat.reduceLT, Int32.reduceLT, Int32.reduceLE, Int32.reduceAdd, Int32.reduceSub, reduceCtorEq, true_or, or_true, or_false, false_or, ne_eq, Nat.zero_le, th_K, k6]
    refine ⟨_, t_try (d := d + 20) hT hB hR hb, ?_⟩
    simp only [e_35_61, true_and, and_true, and_self, false_and, and_false, if_true, if_false, ↓reduceIte, Nat.add_eq_left, Nat.left_eq_add, Nat.add_left_cancel_iff, not_false_eq_true, not_true_eq_false, i_pc, List.cons_append, List.nil_append, List.length_cons, List.length_nil, Nat.reduceEqDiff, Nat.reduceAdd, Nat.reduceMul, Nat.reduceSub, Nat.reduceLeDiff, Nat.reduceLT, Int32.reduceLT, Int32.reduceLE, Int32.reduceAdd, Int32.reduceSub, reduceCtorEq, true_or, or_true, or_false, false_or, ne_eq, Nat.zero_le, Option.toList]
    cases (cTry B s).1 <;> simp only [bI_tt, bI_ff, true_and, and_true, and_self, false_and, and_false, if_true, if_false, ↓reduceIte, Nat.add_eq_left, Nat.left_eq_add, Nat.add_left_cancel_iff, not_false_eq_true, not_true_eq_false, i_pc, List.cons_append, List.nil_append, List.length_cons, List.length_nil, Nat.reduceEqDiff, Nat.reduceAdd, Nat.reduceMul, Nat.reduceSub, Nat.reduceLeDiff, Nat.reduceLT, Int32.reduceLT, Int32.reduceLE, Int32.reduceAdd, Int32.reduceSub, reduceCtorEq, true_or, or_true, or_false, false_or, ne_eq, Nat.zero_le]
  rw [if_neg c1]
  simp only [e_35_50, e_35_51, e_35_53, e_35_62, e_35_63, true_and, and_true, and_self, false_and, and_false, if_true, if_false, ↓reduceIte, Nat.add_eq_left, Nat.left_eq_add, Nat.add_left_cancel_iff, not_false_eq_true, not_true_eq_false, i_pc, List.cons_append, List.nil_append, List.length_cons, List.length_nil, Nat.reduceEqDiff, Nat.reduceAdd, Nat.reduceMul, Nat.reduceSub, Nat.reduceLeDiff, Nat.reduceLT, Int32.reduceLT, Int32.reduceLE, Int32.reduceAdd, Int32.reduceSub, reduceCtorEq, true_or, or_true, or_false, false_or, ne_eq, Nat.zero_le, c1]
  refine ⟨_, t_isVar, ?_⟩
  by_cases c2 : 97 ≤ c ∧ c < 103
  · rw [if_pos c2]
    simp only [e_35_66, e_35_69, e_35_70, e_35_72, true_and, and_true, and_self, false_and, and_false, if_true, if_false, ↓reduceIte, Nat.add_eq_left, Nat.left_eq_add, Nat.add_left_cancel_iff, not_false_eq_true, not_true_eq_false, i_pc, List.cons_append, List.nil_append, List.length_cons, List.length_nil, Nat.reduceEqDiff, Nat.reduceAdd, Nat.reduceMul, Nat.reduceSub, Nat.reduceLeDiff, Nat.reduceLT, Int32.reduceLT, Int32.reduceLE, Int32.reduceAdd, Int32.reduceSub, reduceCtorEq, true_or, or_true, or_false, false_or, ne_eq, Nat.zero_le, Option.toList, th_K, k6, bI_t c2, show ((1 : Int32) = 0) = False from by decide]
    refine ⟨_, t_takesS hT (by have := hb.1; omega), ?_⟩
    cases c3 : (cTakes n tx 61 s).1 with
    | false => simp only [e_35_75, e_35_92, e_35_94, e_35_96, e_35_107, e_35_108, true_and, and_true, and_self, false_and, and_false, if_true, if_false, ↓reduceIte, Nat.add_eq_left, Nat.left_eq_add, Nat.add_left_cancel_iff, not_false_eq_true, not_true_eq_false, i_pc, List.cons_append, List.nil_append, List.length_cons, List.length_nil, Nat.reduceEqDiff, Nat.reduceAdd, Nat.reduceMul, Nat.reduceSub, Nat.reduceLeDiff, Nat.reduceLT, Int32.reduceLT, Int32.reduceLE, Int32.reduceAdd, Int32.reduceSub, reduceCtorEq, true_or, or_true, or_false, false_or, ne_eq, Nat.zero_le, Option.toList, bI_ff, c3, Bool.false_eq_true]
    | true =>
      rw [if_pos rfl]
      simp only [e_35_75, e_35_92, true_and, and_true, and_self, false_and, and_false, if_true, if_false, ↓reduceIte, Nat.add_eq_left, Nat.left_eq_add, Nat.add_left_cancel_iff, not_false_eq_true, not_true_eq_false, i_pc, List.cons_append, List.nil_append, List.length_cons, List.length_nil, Nat.reduceEqDiff, Nat.reduceAdd, Nat.reduceMul, Nat.reduceSub, Nat.reduceLeDiff, Nat.reduceLT, Int32.reduceLT, Int32.reduceLE, Int32.reduceAdd, Int32.reduceSub, reduceCtorEq, true_or, or_true, or_false, false_or, ne_eq, Nat.zero_le, Option.toList, bI_tt]
      exact t_st3 hT hB hR (bd_takes hb) (Or.inr c2)
  rw [if_neg c2]
  by_cases c4 : isBe c = true
  · rw [if_pos c4]
    simp only [e_35_66, e_35_78, e_35_80, e_35_81, e_35_84, e_35_87, e_35_88, e_35_91, e_35_92, true_and, and_true, and_self, false_and, and_false, if_true, if_false, ↓reduceIte, Nat.add_eq_left, Nat.left_eq_add, Nat.add_left_cancel_iff, not_false_eq_true, not_true_eq_false, i_pc, List.cons_append, List.nil_append, List.length_cons, List.length_nil, Nat.reduceEqDiff, Nat.reduceAdd, Nat.reduceMul, Nat.reduceSub, Nat.reduceLeDiff, Nat.reduceLT, Int32.reduceLT, Int32.reduceLE, Int32.reduceAdd, Int32.reduceSub, reduceCtorEq, true_or, or_true, or_false, false_or, ne_eq, Nat.zero_le, Option.toList, bI_f c2, idx_be c4]
    exact t_st3 hT hB hR hb (Or.inl c4)
  · rw [if_neg c4]
    simp only [e_35_66, e_35_78, e_35_80, e_35_81, e_35_84, e_35_91, e_35_92, e_35_94, e_35_96, e_35_99, e_35_100, e_35_101, e_35_104, e_35_107, e_35_108, true_and, and_true, and_self, false_and, and_false, if_true, if_false, ↓reduceIte, Nat.add_eq_left, Nat.left_eq_add, Nat.add_left_cancel_iff, not_false_eq_true, not_true_eq_false, i_pc, List.cons_append, List.nil_append, List.length_cons, List.length_nil, Nat.reduceEqDiff, Nat.reduceAdd, Nat.reduceMul, Nat.reduceSub, Nat.reduceLeDiff, Nat.reduceLT, Int32.reduceLT, Int32.reduceLE, Int32.reduceAdd, Int32.reduceSub, reduceCtorEq, true_or, or_true, or_false, false_or, ne_eq, Nat.zero_le, Option.toList, bI_f c2, idx_bn c4, bI_ff]
theorem t_st (hT : TI h n tx) (hB : EB n B) (hR : BS xs L (d + 21) h n (deep + 1) B) (hb : Bd n s) : Rn xs L (d + 23) 35 [.inr (some 6), .inl (nI deep)] (tH h s) (some (.inl (bI (cSt n tx B s).1)), tH h (cSt n tx B s).2) := by
  have k6 : hK h 6 = 7 := hT.1.1
  have hn : n ≤ 150 := hT.2.2.2.2.1
  have ha : s.1 < 2 ^ 31 := by have := hb.1; omega
  have hz : s.2.1 < 2 ^ 31 := by have := hb.2.1; omega
  have hl : s.2.2.1 ≤ 40 := hb.2.2
  rw [i_rn]
  show X xs L (d + 22) 35 (0, [some (.inr (some 6)), some (.inl (nI deep)), none, none, none], [], _) _
  unfold cSt
  by_cases c1 : 40 ≤ s.2.2.1
  · rw [if_pos c1]
    have h1 : ¬ nI s.2.2.1 < 40 := Int32.not_lt.mpr (nI_le (a := 40) c1 (by omega))
    simp only [e_35_0, e_35_1, e_35_4, e_35_6, e_35_9, e_35_10, true_and, and_true, and_self, false_and, and_false, if_true, if_false, ↓reduceIte, Nat.add_eq_left, Nat.left_eq_add, Nat.add_left_cancel_iff, not_false_eq_true, not_true_eq_false, i_pc, List.cons_append, List.nil_append, List.length_cons, List.length_nil, Nat.reduceEqDiff, Nat.reduceAdd, Nat.reduceMul, Nat.reduceSub, Nat.reduceLeDiff, Nat.reduceLT, Int32.reduceLT, Int32.reduceLE, Int32.reduceAdd, Int32.reduceSub, reduceCtorEq, true_or, or_true, or_false, false_or, ne_eq, Nat.zero_le, th_K, k6, th_69S, h1, bI_ff]
  rw [if_neg c1]
  have h1 : nI s.2.2.1 < 40 := Int32.not_le.mp (nI_ge (b := 40) (by omega) (by decide))
  simp only [e_35_0, e_35_1, e_35_4, e_35_6, e_35_9, e_35_10, e_35_11, e_35_12, true_and, and_true, and_self, false_and, and_false, if_true, if_false, ↓reduceIte, Nat.add_eq_left, Nat.left_eq_add, Nat.add_left_cancel_iff, not_false_eq_true, not_true_eq_false, i_pc, List.cons_append, List.nil_append, List.length_cons, List.length_nil, Nat.reduceEqDiff, Nat.reduceAdd, Nat.reduceMul, Nat.reduceSub, Nat.reduceLeDiff, Nat.reduceLT, Int32.reduceLT, Int32.reduceLE, Int32.reduceAdd, Int32.reduceSub, reduceCtorEq, true_or, or_true, or_false, false_or, ne_eq, Nat.zero_le, th_K, k6, th_69S, h1]
  refine ⟨_, t_peekS hT ha, ?_⟩
  simp only [e_35_15, e_35_16, e_35_17, e_35_18, e_35_21, e_35_22, e_35_23, e_35_26, e_35_27, e_35_30, e_35_31, e_35_32, e_35_33, e_35_34, e_35_37, true_and, and_true, and_self, false_and, and_false, if_true, if_false, ↓reduceIte, Nat.add_eq_left, Nat.left_eq_add, Nat.add_left_cancel_iff, not_false_eq_true, not_true_eq_false, i_pc, List.cons_append, List.nil_append, List.length_cons, List.length_nil, Nat.reduceEqDiff, Nat.reduceAdd, Nat.reduceMul, Nat.reduceSub, Nat.reduceLeDiff, Nat.reduceLT, Int32.reduceLT, Int32.reduceLE, Int32.reduceAdd, Int32.reduceSub, reduceCtorEq, true_or, or_true, or_false, false_or, ne_eq, Nat.zero_le, Option.toList, th_K, k6, th_67S, th_68S, th_69S, tw_atS, nI_1]
  refine ⟨_, t_emitS hT hz, ?_⟩
  have e9 : (cEmit 5 (nI (sAt (s.1 + 1) s).2.2.1) (sAt (s.1 + 1) s)).2.2.1 = s.2.2.1 := em_ln
  simp only [e_35_40, e_35_41, e_35_42, e_35_45, e_35_46, e_35_47, true_and, and_true, and_self, false_and, and_false, if_true, if_false, ↓reduceIte, Nat.add_eq_left, Nat.left_eq_add, Nat.add_left_cancel_iff, not_false_eq_true, not_true_eq_false, i_pc, List.cons_append, List.nil_append, List.length_cons, List.length_nil, Nat.reduceEqDiff, Nat.reduceAdd, Nat.reduceMul, Nat.reduceSub, Nat.reduceLeDiff, Nat.reduceLT, Int32.reduceLT, Int32.reduceLE, Int32.reduceAdd, Int32.reduceSub, reduceCtorEq, true_or, or_true, or_false, false_or, ne_eq, Nat.zero_le, Option.toList, th_K, k6, th_69S, e9, tw_lnS, nI_1]
  by_cases hp : s.1 < n
  · exact t_st2 hT hB hR (bd_pt hb hp (by omega))
  · have e0 : pk n tx s.1 = 0 := if_neg hp
    rw [e0]
    simp only [e_35_50, e_35_51, e_35_53, e_35_62, e_35_63, true_and, and_true, and_self, false_and, and_false, if_true, if_false, ↓reduceIte, Nat.add_eq_left, Nat.left_eq_add, Nat.add_left_cancel_iff, not_false_eq_true, not_true_eq_false, i_pc, List.cons_append, List.nil_append, List.length_cons, List.length_nil, Nat.reduceEqDiff, Nat.reduceAdd, Nat.reduceMul, Nat.reduceSub, Nat.reduceLeDiff, Nat.reduceLT, Int32.reduceLT, Int32.reduceLE, Int32.reduceAdd, Int32.reduceSub, reduceCtorEq, true_or, or_true, or_false, false_or, ne_eq, Nat.zero_le, show ((0 : Int32) = 126) = False from by decide]
    refine ⟨_, t_isVar, ?_⟩
    unfold cSt2
    rw [if_neg (by decide), if_neg (by decide), if_neg (by decide)]
    simp only [e_35_66, e_35_78, e_35_80, e_35_81, e_35_84, e_35_91, e_35_92, e_35_94, e_35_96, e_35_99, e_35_100, e_35_101, e_35_104, e_35_107, e_35_108, true_and, and_true, and_self, false_and, and_false, if_true, if_false, ↓reduceIte, Nat.add_eq_left, Nat.left_eq_add, Nat.add_left_cancel_iff, not_false_eq_true, not_true_eq_false, i_pc, List.cons_append, List.nil_append, List.length_cons, List.length_nil, Nat.reduceEqDiff, Nat.reduceAdd, Nat.reduceMul, Nat.reduceSub, Nat.reduceLeDiff, Nat.reduceLT, Int32.reduceLT, Int32.reduceLE, Int32.reduceAdd, Int32.reduceSub, reduceCtorEq, true_or, or_true, or_false, false_or, ne_eq, Nat.zero_le, Option.toList, bI, decide_false, Bool.false_eq_true, idx_bn (show ¬ isBe 0 = true from by decide)]
    rfl
theorem t_blk_loop {St : TS → Bool × TS} (hT : TI h n tx) (hB : EB n St) (hR : ∀ s : TS, Bd n s → Rn xs L (d + 1) 35 [.inr (some 6), .inl (nI deep)] (tH h s) (some (.inl (bI (St s).1)), tH h (St s).2)) : ∀ (m i : Nat) (s : TS), i + m = 41 → Bd n s → X xs L (d + 1) 34 (19, [some (.inr (some 6)), some (.inl (nI deep)), some (.inl (nI i))], [], tH h s) (some (.inl (bI (cBlkL n tx St m s).1)), tH h (cBlkL n tx St m s).2) := by
  have k6 : hK h 6 = 7 := hT.1.1
  have hn : n ≤ 150 := hT.2.2.2.2.1
  intro m
  induction m with
  | zero =>
    intro i s hi hb
    have hi2 : i = 41 := by omega
    subst hi2
    unfold cBlkL
    simp only [e_34_19, e_34_20, e_34_22, e_34_52, e_34_53, true_and, and_true, and_self, false_and, and_false, if_true, if_false, ↓reduceIte, Nat.add_eq_left, Nat.left_eq_add, Nat.add_left_cancel_iff, not_false_eq_true, not_true_eq_false, i_pc, List.cons_append, List.nil_append, List.length_cons, List.length_nil, Nat.reduceEqDiff, Nat.reduceAdd, Nat.reduceMul, Nat.reduceSub, Nat.reduceLeDiff, Nat.reduceLT, Int32.reduceLT, Int32.reduceLE, Int32.reduceAdd, Int32.reduceSub, reduceCtorEq, true_or, or_true, or_false, false_or, ne_eq, Nat.zero_le, show ((40 : Int32) < nI 41) = True from by decide, bI_ff]
  | succ m ih =>
    intro i s hi hb
    have h1 : ¬ (40 : Int32) < nI i := Int32.not_lt.mpr (nI_le (b := 40) (by omega) (by decide))
    have ha : s.1 < 2 ^ 31 := by have := hb.1; omega
    rw [e_34_19]
    simp only [e_34_20, e_34_22, e_34_25, e_34_26, e_34_28, true_and, and_true, and_self, false_and, and_false, if_true, if_false, ↓reduceIte, Nat.add_eq_left, Nat.left_eq_add, Nat.add_left_cancel_iff, not_false_eq_true, not_true_eq_false, i_pc, List.cons_append, List.nil_append, List.length_cons, List.length_nil, Nat.reduceEqDiff, Nat.reduceAdd, Nat.reduceMul, Nat.reduceSub, Nat.reduceLeDiff, Nat.reduceLT, Int32.reduceLT, Int32.reduceLE, Int32.reduceAdd, Int32.reduceSub, reduceCtorEq, true_or, or_true, or_false, false_or, ne_eq, Nat.zero_le, th_K, k6, h1]
    refine ⟨_, t_takesS hT ha, ?_⟩
    unfold cBlkL
    by_cases c1 : s.1 < n ∧ tx s.1 = 125
    · rw [if_pos c1, cTakes_t c1]
      simp only [e_34_31, e_34_34, e_34_35, true_and, and_true, and_self, false_and, and_false, if_true, if_false, ↓reduceIte, Nat.add_eq_left, Nat.left_eq_add, Nat.add_left_cancel_iff, not_false_eq_true, not_true_eq_false, i_pc, List.cons_append, List.nil_append, List.length_cons, List.length_nil, Nat.reduceEqDiff, Nat.reduceAdd, Nat.reduceMul, Nat.reduceSub, Nat.reduceLeDiff, Nat.reduceLT, Int32.reduceLT, Int32.reduceLE, Int32.reduceAdd, Int32.reduceSub, reduceCtorEq, true_or, or_true, or_false, false_or, ne_eq, Nat.zero_le, Option.toList, bI_tt, show ((1 : Int32) = 0) = False from by decide]
    · rw [if_neg c1, cTakes_f c1]
      simp only [e_34_31, e_34_36, e_34_37, e_34_38, true_and, and_true, and_self, false_and, and_false, if_true, if_false, ↓reduceIte, Nat.add_eq_left, Nat.left_eq_add, Nat.add_left_cancel_iff, not_false_eq_true, not_true_eq_false, i_pc, List.cons_append, List.nil_append, List.length_cons, List.length_nil, Nat.reduceEqDiff, Nat.reduceAdd, Nat.reduceMul, Nat.reduceSub, Nat.reduceLeDiff, Nat.reduceLT, Int32.reduceLT, Int32.reduceLE, Int32.reduceAdd, Int32.reduceSub, reduceCtorEq, true_or, or_true, or_false, false_or, ne_eq, Nat.zero_le, Option.toList, th_K, k6, bI_ff]
      refine ⟨_, hR s hb, ?_⟩
      cases c2 : (St s).1 with
      | false => simp only [e_34_41, e_34_44, e_34_45, true_and, and_true, and_self, false_and, and_false, if_true, if_false, ↓reduceIte, Nat.add_eq_left, Nat.left_eq_add, Nat.add_left_cancel_iff, not_false_eq_true, not_true_eq_false, i_pc, List.cons_append, List.nil_append, List.length_cons, List.length_nil, Nat.reduceEqDiff, Nat.reduceAdd, Nat.reduceMul, Nat.reduceSub, Nat.reduceLeDiff, Nat.reduceLT, Int32.reduceLT, Int32.reduceLE, Int32.reduceAdd, Int32.reduceSub, reduceCtorEq, true_or, or_true, or_false, false_or, ne_eq, Nat.zero_le, Option.toList, bI_ff, c2, Bool.false_eq_true]
      | true =>
        simp only [e_34_41, e_34_46, e_34_49, true_and, and_true, and_self, false_and, and_false, if_true, if_false, ↓reduceIte, Nat.add_eq_left, Nat.left_eq_add, Nat.add_left_cancel_iff, not_false_eq_true, not_true_eq_false, i_pc, List.cons_append, List.nil_append, List.length_cons, List.length_nil, Nat.reduceEqDiff, Nat.reduceAdd, Nat.reduceMul, Nat.reduceSub, Nat.reduceLeDiff, Nat.reduceLT, Int32.reduceLT, Int32.reduceLE, Int32.reduceAdd, Int32.reduceSub, reduceCtorEq, true_or, or_true, or_false, false_or, ne_eq, Nat.zero_le, Option.toList, bI_tt, nI_1, show ((1 : Int32) = 0) = False from by decide]
        exact ih (i + 1) _ (by omega) (hB s hb c2)
theorem t_blk {St : TS → Bool × TS} (hT : TI h n tx) (hd : deep ≤ 6) (hB : EB n St) (hR : ∀ s : TS, Bd n s → Rn xs L (d + 1) 35 [.inr (some 6), .inl (nI deep)] (tH h s) (some (.inl (bI (St s).1)), tH h (St s).2)) : BS xs L (d + 2) h n deep (cBlk n tx St) := by
  have k6 : hK h 6 = 7 := hT.1.1
  have hn : n ≤ 150 := hT.2.2.2.2.1
  intro s hb
  have ha : s.1 < 2 ^ 31 := by have := hb.1; omega
  have h1 : ¬ (6 : Int32) < nI deep := Int32.not_lt.mpr (nI_le (b := 6) (by omega) (by decide))
  rw [i_rn]
  show X xs L (d + 1) 34 (0, [some (.inr (some 6)), some (.inl (nI deep)), none], [], _) _
  simp only [e_34_0, e_34_1, e_34_3, e_34_6, e_34_7, e_34_9, true_and, and_true, and_self, false_and, and_false, if_true, if_false, ↓reduceIte, Nat.add_eq_left, Nat.left_eq_add, Nat.add_left_cancel_iff, not_false_eq_true, not_true_eq_false, i_pc, List.cons_append, List.nil_append, List.length_cons, List.length_nil, Nat.reduceEqDiff, Nat.reduceAdd, Nat.reduceMul, Nat.reduceSub, Nat.reduceLeDiff, Nat.reduceLT, Int32.reduceLT, Int32.reduceLE, Int32.reduceAdd, Int32.reduceSub, reduceCtorEq, true_or, or_true, or_false, false_or, ne_eq, Nat.zero_le, th_K, k6, h1]
  refine ⟨_, t_takesS hT ha, ?_⟩
  unfold cBlk
  by_cases c1 : s.1 < n ∧ tx s.1 = 123
  · rw [if_pos c1, cTakes_t c1]
    simp only [e_34_12, e_34_17, e_34_18, true_and, and_true, and_self, false_and, and_false, if_true, if_false, ↓reduceIte, Nat.add_eq_left, Nat.left_eq_add, Nat.add_left_cancel_iff, not_false_eq_true, not_true_eq_false, i_pc, List.cons_append, List.nil_append, List.length_cons, List.length_nil, Nat.reduceEqDiff, Nat.reduceAdd, Nat.reduceMul, Nat.reduceSub, Nat.reduceLeDiff, Nat.reduceLT, Int32.reduceLT, Int32.reduceLE, Int32.reduceAdd, Int32.reduceSub, reduceCtorEq, true_or, or_true, or_false, false_or, ne_eq, Nat.zero_le, Option.toList, bI_tt, show ((1 : Int32) = 0) = False from by decide]
    exact t_blk_loop hT hB hR 41 0 _ (by omega) (bd_at hb c1.1)
  · rw [if_neg c1, cTakes_f c1]
    simp only [e_34_12, e_34_15, e_34_16, true_and, and_true, and_self, false_and, and_false, if_true, if_false, ↓reduceIte, Nat.add_eq_left, Nat.left_eq_add, Nat.add_left_cancel_iff, not_false_eq_true, not_true_eq_false, i_pc, List.cons_append, List.nil_append, List.length_cons, List.length_nil, Nat.reduceEqDiff, Nat.reduceAdd, Nat.reduceMul, Nat.reduceSub, Nat.reduceLeDiff, Nat.reduceLT, Int32.reduceLT, Int32.reduceLE, Int32.reduceAdd, Int32.reduceSub, reduceCtorEq, true_or, or_true, or_false, false_or, ne_eq, Nat.zero_le, Option.toList, bI_ff]
theorem t_B (hT : TI h n tx) : ∀ (k deep d : Nat), deep + k = 7 → BS xs L (d + (21 + 3 * k)) h n deep (cB n tx k) := by
  intro k
  induction k with
  | zero =>
    intro deep d hk s hb
    have hd7 : deep = 7 := by omega
    subst hd7
    rw [show d + (21 + 3 * 0) = (d + 20) + 1 from rfl, i_rn]
    show X xs L (d + 20) 34 (0, [some (.inr (some 6)), some (.inl (nI 7)), none], [], _) _
    simp only [e_34_0, e_34_1, e_34_3, e_34_15, e_34_16, true_and, and_true, and_self, false_and, and_false, if_true, if_false, ↓reduceIte, Nat.add_eq_left, Nat.left_eq_add, Nat.add_left_cancel_iff, not_false_eq_true, not_true_eq_false, i_pc, List.cons_append, List.nil_append, List.length_cons, List.length_nil, Nat.reduceEqDiff, Nat.reduceAdd, Nat.reduceMul, Nat.reduceSub, Nat.reduceLeDiff, Nat.reduceLT, Int32.reduceLT, Int32.reduceLE, Int32.reduceAdd, Int32.reduceSub, reduceCtorEq, true_or, or_true, or_false, false_or, ne_eq, Nat.zero_le, show ((6 : Int32) < nI 7) = True from by decide, cB, bI_ff]
  | succ k ih =>
    intro deep d hk
    have h1 : d + (21 + 3 * (k + 1)) = (d + 3 * k + 22) + 2 := by omega
    rw [h1]
    refine t_blk (d := d + 3 * k + 22) hT (by omega) (bd_st (bd_B k)) (fun s hb => ?_)
    refine t_st (d := d + 3 * k) hT (bd_B k) ?_ hb
    have h2 := ih (deep + 1) d (by omega)
    rw [show d + (21 + 3 * k) = d + 3 * k + 21 by omega] at h2
    exact h2
end TG

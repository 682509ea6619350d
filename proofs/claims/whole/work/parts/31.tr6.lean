-- the translator's blocks and statements: the methods
def BS (xs : Nat → Int32) (L d : Nat) (h : Hp) (n : Nat) (deep : Nat) (B : TS → Bool × TS) : Prop := ∀ s : TS, Bd n s → Rn xs L d 34 [.inr (some 6), .inl (nI deep)] (tH h s) (some (.inl (bI (B s).1)), tH h (B s).2)
section TF
variable {xs : Nat → Int32} {L d : Nat} {h : Hp} {res : Res} {n : Nat} {tx : Nat → Int32} {s : TS} {B : TS → Bool × TS} {deep : Nat}
theorem t_grd {ag : Bool} {pt : Nat} (hT : TI h n tx) (hB : EB n B) (hR : BS xs L (d + 1) h n (deep + 1) B) (hb : Bd n s) : Rn xs L (d + 2) 37 [.inr (some 6), .inl (nI deep), .inl (bI ag), .inl (nI pt)] (tH h s) (some (.inl (bI (cGrd B ag pt s).1)), tH h (cGrd B ag pt s).2) := by
  have k6 : hK h 6 = 7 := hT.1.1
  have hz : s.2.1 < 2 ^ 31 := by have := hb.2.1; omega
  rw [i_rn]
  show X xs L (d + 1) 37 (0, [some (.inr (some 6)), some (.inl (nI deep)), some (.inl (bI ag)), some (.inl (nI pt)), none], [], _) _
  simp only [e_37_0, e_37_1, e_37_4, e_37_6, e_37_7, e_37_9, e_37_10, true_and, and_true, and_self, false_and, and_false, if_true, if_false, ↓reduceIte, Nat.add_eq_left, Nat.left_eq_add, Nat.add_left_cancel_iff, not_false_eq_true, not_true_eq_false, i_pc, List.cons_append, List.nil_append, List.length_cons, List.length_nil, Nat.reduceEqDiff, Nat.reduceAdd, Nat.reduceMul, Nat.reduceSub, Nat.reduceLeDiff, Nat.reduceLT, Int32.reduceLT, Int32.reduceLE, Int32.reduceAdd, Int32.reduceSub, reduceCtorEq, true_or, or_true, or_false, false_or, ne_eq, Nat.zero_le, th_K, k6, th_68S]
  refine ⟨_, t_emitS hT hz, ?_⟩
  simp only [e_37_13, e_37_14, e_37_15, e_37_16, e_37_17, true_and, and_true, and_self, false_and, and_false, if_true, if_false, ↓reduceIte, Nat.add_eq_left, Nat.left_eq_add, Nat.add_left_cancel_iff, not_false_eq_true, not_true_eq_false, i_pc, List.cons_append, List.nil_append, List.length_cons, List.length_nil, Nat.reduceEqDiff, Nat.reduceAdd, Nat.reduceMul, Nat.reduceSub, Nat.reduceLeDiff, Nat.reduceLT, Int32.reduceLT, Int32.reduceLE, Int32.reduceAdd, Int32.reduceSub, reduceCtorEq, true_or, or_true, or_false, false_or, ne_eq, Nat.zero_le, th_K, k6, Option.toList, nI_1]
  refine ⟨_, hR _ (bd_emit hb), ?_⟩
  unfold cGrd
  cases c1 : (B (cEmit 9 0 s)).1 with
  | false => simp only [e_37_20, e_37_23, e_37_24, true_and, and_true, and_self, false_and, and_false, if_true, if_false, ↓reduceIte, Nat.add_eq_left, Nat.left_eq_add, Nat.add_left_cancel_iff, not_false_eq_true, not_true_eq_false, i_pc, List.cons_append, List.nil_append, List.length_cons, List.length_nil, Nat.reduceEqDiff, Nat.reduceAdd, Nat.reduceMul, Nat.reduceSub, Nat.reduceLeDiff, Nat.reduceLT, Int32.reduceLT, Int32.reduceLE, Int32.reduceAdd, Int32.reduceSub, reduceCtorEq, true_or, or_true, or_false, false_or, ne_eq, Nat.zero_le, Option.toList, bI_ff, c1, Bool.false_eq_true]
  | true =>
    have hb2 := hB _ (bd_emit hb) c1
    cases ag with
    | false =>
      simp only [e_37_20, e_37_25, e_37_26, e_37_36, e_37_37, e_37_39, true_and, and_true, and_self, false_and, and_false, if_true, if_false, ↓reduceIte, Nat.add_eq_left, Nat.left_eq_add, Nat.add_left_cancel_iff, not_false_eq_true, not_true_eq_false, i_pc, List.cons_append, List.nil_append, List.length_cons, List.length_nil, Nat.reduceEqDiff, Nat.reduceAdd, Nat.reduceMul, Nat.reduceSub, Nat.reduceLeDiff, Nat.reduceLT, Int32.reduceLT, Int32.reduceLE, Int32.reduceAdd, Int32.reduceSub, reduceCtorEq, true_or, or_true, or_false, false_or, ne_eq, Nat.zero_le, th_K, k6, Option.toList, bI_tt, bI_ff, Bool.false_eq_true, show ((1 : Int32) = 0) = False from by decide]
      refine ⟨_, t_aim hT hb2 hz, ?_⟩
      simp only [e_37_42, e_37_43, true_and, and_true, and_self, false_and, and_false, if_true, if_false, ↓reduceIte, Nat.add_eq_left, Nat.left_eq_add, Nat.add_left_cancel_iff, not_false_eq_true, not_true_eq_false, i_pc, List.cons_append, List.nil_append, List.length_cons, List.length_nil, Nat.reduceEqDiff, Nat.reduceAdd, Nat.reduceMul, Nat.reduceSub, Nat.reduceLeDiff, Nat.reduceLT, Int32.reduceLT, Int32.reduceLE, Int32.reduceAdd, Int32.reduceSub, reduceCtorEq, true_or, or_true, or_false, false_or, ne_eq, Nat.zero_le, Option.toList]
    | true =>
      simp only [e_37_20, e_37_25, e_37_26, e_37_29, e_37_30, e_37_32, e_37_33, true_and, and_true, and_self, false_and, and_false, if_true, if_false, ↓reduceIte, Nat.add_eq_left, Nat.left_eq_add, Nat.add_left_cancel_iff, not_false_eq_true, not_true_eq_false, i_pc, List.cons_append, List.nil_append, List.length_cons, List.length_nil, Nat.reduceEqDiff, Nat.reduceAdd, Nat.reduceMul, Nat.reduceSub, Nat.reduceLeDiff, Nat.reduceLT, Int32.reduceLT, Int32.reduceLE, Int32.reduceAdd, Int32.reduceSub, reduceCtorEq, true_or, or_true, or_false, false_or, ne_eq, Nat.zero_le, th_K, k6, Option.toList, bI_tt, show ((1 : Int32) = 0) = False from by decide]
      refine ⟨_, t_emitS hT (by have := hb2.2.1; omega), ?_⟩
      simp only [e_37_36, e_37_37, e_37_39, true_and, and_true, and_self, false_and, and_false, if_true, if_false, ↓reduceIte, Nat.add_eq_left, Nat.left_eq_add, Nat.add_left_cancel_iff, not_false_eq_true, not_true_eq_false, i_pc, List.cons_append, List.nil_append, List.length_cons, List.length_nil, Nat.reduceEqDiff, Nat.reduceAdd, Nat.reduceMul, Nat.reduceSub, Nat.reduceLeDiff, Nat.reduceLT, Int32.reduceLT, Int32.reduceLE, Int32.reduceAdd, Int32.reduceSub, reduceCtorEq, true_or, or_true, or_false, false_or, ne_eq, Nat.zero_le, th_K, k6, Option.toList]
      refine ⟨_, t_aim hT (bd_emit hb2) hz, ?_⟩
      simp only [e_37_42, e_37_43, true_and, and_true, and_self, false_and, and_false, if_true, if_false, ↓reduceIte, Nat.add_eq_left, Nat.left_eq_add, Nat.add_left_cancel_iff, not_false_eq_true, not_true_eq_false, i_pc, List.cons_append, List.nil_append, List.length_cons, List.length_nil, Nat.reduceEqDiff, Nat.reduceAdd, Nat.reduceMul, Nat.reduceSub, Nat.reduceLeDiff, Nat.reduceLT, Int32.reduceLT, Int32.reduceLE, Int32.reduceAdd, Int32.reduceSub, reduceCtorEq, true_or, or_true, or_false, false_or, ne_eq, Nat.zero_le, Option.toList]
theorem t_try (hT : TI h n tx) (hB : EB n B) (hR : BS xs L (d + 1) h n (deep + 1) B) (hb : Bd n s) : Rn xs L (d + 2) 38 [.inr (some 6), .inl (nI deep)] (tH h s) (some (.inl (bI (cTry B s).1)), tH h (cTry B s).2) := by
  have k6 : hK h 6 = 7 := hT.1.1
  have hz : s.2.1 < 2 ^ 31 := by have := hb.2.1; omega
  rw [i_rn]
  show X xs L (d + 1) 38 (0, [some (.inr (some 6)), some (.inl (nI deep)), none, none], [], _) _
  simp only [e_38_0, e_38_1, e_38_4, e_38_5, e_38_6, e_38_7, e_38_8, e_38_9, true_and, and_true, and_self, false_and, and_false, if_true, if_false, ↓reduceIte, Nat.add_eq_left, Nat.left_eq_add, Nat.add_left_cancel_iff, not_false_eq_true, not_true_eq_false, i_pc, List.cons_append, List.nil_append, List.length_cons, List.length_nil, Nat.reduceEqDiff, Nat.reduceAdd, Nat.reduceMul, Nat.reduceSub, Nat.reduceLeDiff, Nat.reduceLT, Int32.reduceLT, Int32.reduceLE, Int32.reduceAdd, Int32.reduceSub, reduceCtorEq, true_or, or_true, or_false, false_or, ne_eq, Nat.zero_le, th_K, k6, th_68S, nI_1]
  refine ⟨_, hR _ hb, ?_⟩
  unfold cTry
  cases c1 : (B s).1 with
  | false => simp only [e_38_12, e_38_15, e_38_16, true_and, and_true, and_self, false_and, and_false, if_true, if_false, ↓reduceIte, Nat.add_eq_left, Nat.left_eq_add, Nat.add_left_cancel_iff, not_false_eq_true, not_true_eq_false, i_pc, List.cons_append, List.nil_append, List.length_cons, List.length_nil, Nat.reduceEqDiff, Nat.reduceAdd, Nat.reduceMul, Nat.reduceSub, Nat.reduceLeDiff, Nat.reduceLT, Int32.reduceLT, Int32.reduceLE, Int32.reduceAdd, Int32.reduceSub, reduceCtorEq, true_or, or_true, or_false, false_or, ne_eq, Nat.zero_le, Option.toList, bI_ff, c1, Bool.false_eq_true]
  | true =>
    have hb2 := hB _ hb c1
    simp only [e_38_12, e_38_17, e_38_18, e_38_21, e_38_22, e_38_23, e_38_25, e_38_26, true_and, and_true, and_self, false_and, and_false, if_true, if_false, ↓reduceIte, Nat.add_eq_left, Nat.left_eq_add, Nat.add_left_cancel_iff, not_false_eq_true, not_true_eq_false, i_pc, List.cons_append, List.nil_append, List.length_cons, List.length_nil, Nat.reduceEqDiff, Nat.reduceAdd, Nat.reduceMul, Nat.reduceSub, Nat.reduceLeDiff, Nat.reduceLT, Int32.reduceLT, Int32.reduceLE, Int32.reduceAdd, Int32.reduceSub, reduceCtorEq, true_or, or_true, or_false, false_or, ne_eq, Nat.zero_le, th_K, k6, th_68S, Option.toList, bI_tt, show ((1 : Int32) = 0) = False from by decide]
    refine ⟨_, t_emitS hT (by have := hb2.2.1; omega), ?_⟩
    simp only [e_38_29, e_38_30, e_38_31, e_38_32, true_and, and_true, and_self, false_and, and_false, if_true, if_false, ↓reduceIte, Nat.add_eq_left, Nat.left_eq_add, Nat.add_left_cancel_iff, not_false_eq_true, not_true_eq_false, i_pc, List.cons_append, List.nil_append, List.length_cons, List.length_nil, Nat.reduceEqDiff, Nat.reduceAdd, Nat.reduceMul, Nat.reduceSub, Nat.reduceLeDiff, Nat.reduceLT, Int32.reduceLT, Int32.reduceLE, Int32.reduceAdd, Int32.reduceSub, reduceCtorEq, true_or, or_true, or_false, false_or, ne_eq, Nat.zero_le, th_K, k6, Option.toList]
    refine ⟨_, t_cat hT hb2.2.1 hz, ?_⟩
    simp only [e_38_35, e_38_36, e_38_37, e_38_38, e_38_39, true_and, and_true, and_self, false_and, and_false, if_true, if_false, ↓reduceIte, Nat.add_eq_left, Nat.left_eq_add, Nat.add_left_cancel_iff, not_false_eq_true, not_true_eq_false, i_pc, List.cons_append, List.nil_append, List.length_cons, List.length_nil, Nat.reduceEqDiff, Nat.reduceAdd, Nat.reduceMul, Nat.reduceSub, Nat.reduceLeDiff, Nat.reduceLT, Int32.reduceLT, Int32.reduceLE, Int32.reduceAdd, Int32.reduceSub, reduceCtorEq, true_or, or_true, or_false, false_or, ne_eq, Nat.zero_le, th_K, k6, Option.toList, nI_1]
    have hb3 := bd_cat (f := s.2.1) (e := (B s).2.2.1) (bd_emit (op := 10) (x := 0) hb2)
    refine ⟨_, hR _ hb3, ?_⟩
    unfold cTr2
    cases c2 : (B (cCat s.2.1 (B s).2.2.1 (cEmit 10 0 (B s).2))).1 with
    | false => simp only [e_38_42, e_38_45, e_38_46, true_and, and_true, and_self, false_and, and_false, if_true, if_false, ↓reduceIte, Nat.add_eq_left, Nat.left_eq_add, Nat.add_left_cancel_iff, not_false_eq_true, not_true_eq_false, i_pc, List.cons_append, List.nil_append, List.length_cons, List.length_nil, Nat.reduceEqDiff, Nat.reduceAdd, Nat.reduceMul, Nat.reduceSub, Nat.reduceLeDiff, Nat.reduceLT, Int32.reduceLT, Int32.reduceLE, Int32.reduceAdd, Int32.reduceSub, reduceCtorEq, true_or, or_true, or_false, false_or, ne_eq, Nat.zero_le, Option.toList, bI_ff, c2, Bool.false_eq_true]
    | true =>
      have hb4 := hB _ hb3 c2
      simp only [e_38_42, e_38_47, e_38_48, e_38_49, true_and, and_true, and_self, false_and, and_false, if_true, if_false, ↓reduceIte, Nat.add_eq_left, Nat.left_eq_add, Nat.add_left_cancel_iff, not_false_eq_true, not_true_eq_false, i_pc, List.cons_append, List.nil_append, List.length_cons, List.length_nil, Nat.reduceEqDiff, Nat.reduceAdd, Nat.reduceMul, Nat.reduceSub, Nat.reduceLeDiff, Nat.reduceLT, Int32.reduceLT, Int32.reduceLE, Int32.reduceAdd, Int32.reduceSub, reduceCtorEq, true_or, or_true, or_false, false_or, ne_eq, Nat.zero_le, th_K, k6, Option.toList, bI_tt, show ((1 : Int32) = 0) = False from by decide]
      refine ⟨_, t_aim hT hb4 (by have := hb2.2.1; omega), ?_⟩
      simp only [e_38_52, e_38_53, true_and, and_true, and_self, false_and, and_false, if_true, if_false, ↓reduceIte, Nat.add_eq_left, Nat.left_eq_add, Nat.add_left_cancel_iff, not_false_eq_true, not_true_eq_false, i_pc, List.cons_append, List.nil_append, List.length_cons, List.length_nil, Nat.reduceEqDiff, Nat.reduceAdd, Nat.reduceMul, Nat.reduceSub, Nat.reduceLeDiff, Nat.reduceLT, Int32.reduceLT, Int32.reduceLE, Int32.reduceAdd, Int32.reduceSub, reduceCtorEq, true_or, or_true, or_false, false_or, ne_eq, Nat.zero_le, Option.toList]
theorem be_end {c : Int32} (hc : isBe c = true ∨ (97 ≤ c ∧ c < 103)) (h2 : ¬ (c = 63 ∨ c = 64)) : c = 33 ∨ c = 94 ∨ c = 35 ∨ ∃ v, v < 6 ∧ c = nI (97 + v) := by
  rcases hc with hc | ⟨h1, h3⟩
  · unfold isBe at hc
    simp only [Bool.or_eq_true, decide_eq_true_eq] at hc
    rcases hc with (((h | h) | h) | h) | h
    · exact Or.inl h
    · exact Or.inr (Or.inl h)
    · exact Or.inr (Or.inr (Or.inl h))
    · exact absurd (Or.inl h) h2
    · exact absurd (Or.inr h) h2
  · have e1 : (97 : Int32).toInt ≤ c.toInt := Int32.le_iff_toInt_le.mp h1
    have e2 : c.toInt < (103 : Int32).toInt := Int32.lt_iff_toInt_lt.mp h3
    have e3 : (97 : Int32).toInt = 97 := by decide
    have e4 : (103 : Int32).toInt = 103 := by decide
    refine Or.inr (Or.inr (Or.inr ⟨c.toInt.toNat - 97, by omega, ?_⟩))
    rw [← Int32.toInt_inj, nI_toInt (by omega)]
    omega
/-- from the expression on; the method runs 23 calls deep at most beside the blocks -/
theorem t_st3 {c : Int32} {pt : Nat} (hT : TI h n tx) (hB : EB n B) (hR : BS xs L (d + 21) h n (deep + 1) B) (hb : Bd n s) (hc : isBe c = true ∨ (97 ≤ c ∧ c < 103)) : X xs L (d + 22) 35 (94, [some (.inr (some 6)), some (.inl (nI deep)), some (.inl c), some (.inl (nI pt)), some (.inl 1)], [], tH h s) (some (.inl (bI (cSt3 n tx B c pt s).1)), tH h (cSt3 n tx B c pt s).2) := by
  have k6 : hK h 6 = 7 := hT.1.1
  have hn : n ≤ 150 := hT.2.2.2.2.1
  have hE := (t_E (xs := xs) (L := L) hT 5 0 (d + 3) (by omega) s hb).1
  simp only [e_35_94, e_35_96, e_35_99, e_35_100, e_35_101, true_and, and_true, and_self, false_and, and_false, if_true, if_false, ↓reduceIte, Nat.add_eq_left, Nat.left_eq_add, Nat.add_left_cancel_iff, not_false_eq_true, not_true_eq_false, i_pc, List.cons_append, List.nil_append, List.length_cons, List.length_nil, Nat.reduceEqDiff, Nat.reduceAdd, Nat.reduceMul, Nat.reduceSub, Nat.reduceLeDiff, Nat.reduceLT, Int32.reduceLT, Int32.reduceLE, Int32.reduceAdd, Int32.reduceSub, reduceCtorEq, true_or, or_true, or_false, false_or, ne_eq, Nat.zero_le, th_K, k6, show ((1 : Int32) = 0) = False from by decide]
  refine ⟨_, rnC (by omega) hE, ?_⟩
  unfold cSt3
  cases c1 : (cE n tx 5 s).1 with
  | false => simp only [e_35_104, e_35_107, e_35_108, true_and, and_true, and_self, false_and, and_false, if_true, if_false, ↓reduceIte, Nat.add_eq_left, Nat.left_eq_add, Nat.add_left_cancel_iff, not_false_eq_true, not_true_eq_false, i_pc, List.cons_append, List.nil_append, List.length_cons, List.length_nil, Nat.reduceEqDiff, Nat.reduceAdd, Nat.reduceMul, Nat.reduceSub, Nat.reduceLeDiff, Nat.reduceLT, Int32.reduceLT, Int32.reduceLE, Int32.reduceAdd, Int32.reduceSub, reduceCtorEq, true_or, or_true, or_false, false_or, ne_eq, Nat.zero_le, Option.toList, bI_ff, c1, Bool.false_eq_true]
  | true =>
    have hb2 := bd_E 5 s hb c1
    by_cases c2 : c = 63
    · subst c2
      simp only [e_35_104, e_35_109, e_35_110, e_35_112, e_35_121, e_35_122, e_35_123, e_35_124, e_35_126, e_35_133, e_35_134, e_35_135, true_and, and_true, and_self, false_and, and_false, if_true, if_false, ↓reduceIte, Nat.add_eq_left, Nat.left_eq_add, Nat.add_left_cancel_iff, not_false_eq_true, not_true_eq_false, i_pc, List.cons_append, List.nil_append, List.length_cons, List.length_nil, Nat.reduceEqDiff, Nat.reduceAdd, Nat.reduceMul, Nat.reduceSub, Nat.reduceLeDiff, Nat.reduceLT, Int32.reduceLT, Int32.reduceLE, Int32.reduceAdd, Int32.reduceSub, reduceCtorEq, true_or, or_true, or_false, false_or, ne_eq, Nat.zero_le, th_K, k6, Option.toList, bI_tt, show ((1 : Int32) = 0) = False from by decide, show ((63 : Int32) = 64) = False from by decide, decide_false]
      refine ⟨_, t_grd (ag := false) (d := d + 20) hT hB hR hb2, ?_⟩
      simp only [e_35_138, true_and, and_true, and_self, false_and, and_false, if_true, if_false, ↓reduceIte, Nat.add_eq_left, Nat.left_eq_add, Nat.add_left_cancel_iff, not_false_eq_true, not_true_eq_false, i_pc, List.cons_append, List.nil_append, List.length_cons, List.length_nil, Nat.reduceEqDiff, Nat.reduceAdd, Nat.reduceMul, Nat.reduceSub, Nat.reduceLeDiff, Nat.reduceLT, Int32.reduceLT, Int32.reduceLE, Int32.reduceAdd, Int32.reduceSub, reduceCtorEq, true_or, or_true, or_false, false_or, ne_eq, Nat.zero_le, Option.toList]
      cases (cGrd B false pt (cE n tx 5 s).2).1 <;> simp only [bI_tt, bI_ff, true_and, and_true, and_self, false_and, and_false, if_true, if_false, ↓reduceIte, Nat.add_eq_left, Nat.left_eq_add, Nat.add_left_cancel_iff, not_false_eq_true, not_true_eq_false, i_pc, List.cons_append, List.nil_append, List.length_cons, List.length_nil, Nat.reduceEqDiff, Nat.reduceAdd, Nat.reduceMul, Nat.reduceSub, Nat.reduceLeDiff, Nat.reduceLT, Int32.reduceLT, Int32.reduceLE, Int32.reduceAdd, Int32.reduceSub, reduceCtorEq, true_or, or_true, or_false, false_or, ne_eq, Nat.zero_le]
    · by_cases c3 : c = 64
      · subst c3
        simp only [e_35_104, e_35_109, e_35_110, e_35_112, e_35_115, e_35_116, e_35_118, e_35_121, e_35_122, e_35_123, e_35_124, e_35_126, e_35_129, e_35_130, e_35_133, e_35_134, e_35_135, true_and, and_true, and_self, false_and, and_false, if_true, if_false, ↓reduceIte, Nat.add_eq_left, Nat.left_eq_add, Nat.add_left_cancel_iff, not_false_eq_true, not_true_eq_false, i_pc, List.cons_append, List.nil_append, List.length_cons, List.length_nil, Nat.reduceEqDiff, Nat.reduceAdd, Nat.reduceMul, Nat.reduceSub, Nat.reduceLeDiff, Nat.reduceLT, Int32.reduceLT, Int32.reduceLE, Int32.reduceAdd, Int32.reduceSub, reduceCtorEq, true_or, or_true, or_false, false_or, ne_eq, Nat.zero_le, th_K, k6, Option.toList, bI_tt, show ((1 : Int32) = 0) = False from by decide, show ((64 : Int32) = 63) = False from by decide, decide_true]
        refine ⟨_, t_grd (ag := true) (d := d + 20) hT hB hR hb2, ?_⟩
        simp only [e_35_138, true_and, and_true, and_self, false_and, and_false, if_true, if_false, ↓reduceIte, Nat.add_eq_left, Nat.left_eq_add, Nat.add_left_cancel_iff, not_false_eq_true, not_true_eq_false, i_pc, List.cons_append, List.nil_append, List.length_cons, List.length_nil, Nat.reduceEqDiff, Nat.reduceAdd, Nat.reduceMul, Nat.reduceSub, Nat.reduceLeDiff, Nat.reduceLT, Int32.reduceLT, Int32.reduceLE, Int32.reduceAdd, Int32.reduceSub, reduceCtorEq, true_or, or_true, or_false, false_or, ne_eq, Nat.zero_le, Option.toList]
        cases (cGrd B true pt (cE n tx 5 s).2).1 <;> simp only [bI_tt, bI_ff, true_and, and_true, and_self, false_and, and_false, if_true, if_false, ↓reduceIte, Nat.add_eq_left, Nat.left_eq_add, Nat.add_left_cancel_iff, not_false_eq_true, not_true_eq_false, i_pc, List.cons_append, List.nil_append, List.length_cons, List.length_nil, Nat.reduceEqDiff, Nat.reduceAdd, Nat.reduceMul, Nat.reduceSub, Nat.reduceLeDiff, Nat.reduceLT, Int32.reduceLT, Int32.reduceLE, Int32.reduceAdd, Int32.reduceSub, reduceCtorEq, true_or, or_true, or_false, false_or, ne_eq, Nat.zero_le]
      · have c4 : ¬ (c = 63 ∨ c = 64) := fun e => e.elim c2 c3
        rw [if_pos rfl, if_neg c4]
        simp only [e_35_104, e_35_109, e_35_110, e_35_112, e_35_115, e_35_116, e_35_118, e_35_139, e_35_140, e_35_141, true_and, and_true, and_self, false_and, and_false, if_true, if_false, ↓reduceIte, Nat.add_eq_left, Nat.left_eq_add, Nat.add_left_cancel_iff, not_false_eq_true, not_true_eq_false, i_pc, List.cons_append, List.nil_append, List.length_cons, List.length_nil, Nat.reduceEqDiff, Nat.reduceAdd, Nat.reduceMul, Nat.reduceSub, Nat.reduceLeDiff, Nat.reduceLT, Int32.reduceLT, Int32.reduceLE, Int32.reduceAdd, Int32.reduceSub, reduceCtorEq, true_or, or_true, or_false, false_or, ne_eq, Nat.zero_le, th_K, k6, Option.toList, bI_tt, show ((1 : Int32) = 0) = False from by decide, c2, c3]
        refine ⟨_, t_end (d := d + 20) hT (by have := hb2.2.1; omega) (be_end hc c4), ?_⟩
        simp only [e_35_144, e_35_145, e_35_147, true_and, and_true, and_self, false_and, and_false, if_true, if_false, ↓reduceIte, Nat.add_eq_left, Nat.left_eq_add, Nat.add_left_cancel_iff, not_false_eq_true, not_true_eq_false, i_pc, List.cons_append, List.nil_append, List.length_cons, List.length_nil, Nat.reduceEqDiff, Nat.reduceAdd, Nat.reduceMul, Nat.reduceSub, Nat.reduceLeDiff, Nat.reduceLT, Int32.reduceLT, Int32.reduceLE, Int32.reduceAdd, Int32.reduceSub, reduceCtorEq, true_or, or_true, or_false, false_or, ne_eq, Nat.zero_le, th_K, k6, Option.toList]
        have hb3 := bd_end (c := c) hb2
        refine ⟨_, t_takesS hT (by have := hb3.1; omega), ?_⟩
        simp only [e_35_150, true_and, and_true, and_self, false_and, and_false, if_true, if_false, ↓reduceIte, Nat.add_eq_left, Nat.left_eq_add, Nat.add_left_cancel_iff, not_false_eq_true, not_true_eq_false, i_pc, List.cons_append, List.nil_append, List.length_cons, List.length_nil, Nat.reduceEqDiff, Nat.reduceAdd, Nat.reduceMul, Nat.reduceSub, Nat.reduceLeDiff, Nat.reduceLT, Int32.reduceLT, Int32.reduceLE, Int32.reduceAdd, Int32.reduceSub, reduceCtorEq, true_or, or_true, or_false, false_or, ne_eq, Nat.zero_le, Option.toList]
        cases (cTakes n tx 59 (cEnd c (cE n tx 5 s).2)).1 <;> simp only [bI_tt, bI_ff, true_and, and_true, and_self, false_and, and_false, if_true, if_false, ↓reduceIte, Nat.add_eq_left, Nat.left_eq_add, Nat.add_left_cancel_iff, not_false_eq_true, not_true_eq_false, i_pc, List.cons_append, List.nil_append, List.length_cons, List.length_nil, Nat.reduceEqDiff, Nat.reduceAdd, Nat.reduceMul, Nat.reduceSub, Nat.reduceLeDiff, Nat.reduceLT, Int32.reduceLT, Int32.reduceLE, Int32.reduceAdd, Int32.reduceSub, reduceCtorEq, true_or, or_true, or_false, false_or, ne_eq, Nat.zero_le]
end TF

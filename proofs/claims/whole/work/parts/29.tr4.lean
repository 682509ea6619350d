-- the translator's expressions, ends, jumps and handlers
section TD
variable {xs : Nat → Int32} {L d : Nat} {h : Hp} {res : Res} {n : Nat} {tx : Nat → Int32} {s : TS}
theorem idx_op {c : Int32} (hc : isOp c = true) : 0 ≤ s_idx c (s_txt 1) 0 := by
  unfold isOp at hc
  simp only [Bool.or_eq_true, decide_eq_true_eq] at hc
  rcases hc with ((((h | h) | h) | h) | h) | h <;> (subst h; decide)
theorem idx_no {c : Int32} (hc : ¬ isOp c = true) : ¬ 0 ≤ s_idx c (s_txt 1) 0 := by
  unfold isOp at hc
  simp only [Bool.or_eq_true, decide_eq_true_eq, not_or] at hc
  obtain ⟨⟨⟨⟨⟨h1, h2⟩, h3⟩, h4⟩, h5⟩, h6⟩ := hc
  have e : s_idx c (s_txt 1) 0 = -1 := by
    show s_idx c [43, 45, 42, 47, 60, 61] 0 = -1
    simp only [s_idx, h1, h2, h3, h4, h5, h6, if_false]
  rw [e]
  decide
theorem t_loop {Tm : TS → Bool × TS} {dep dt : Nat} (hT : TI h n tx) (hB : EB n Tm) (hR : ∀ s : TS, Bd n s → Rn xs L (d + 1) 42 [.inr (some 6), .inl (nI dep)] (tH h s) (some (.inl (bI (Tm s).1)), tH h (Tm s).2)) : ∀ (m i : Nat) (s : TS) (a3 : Option AV), i + m = 150 → Bd n s → X xs L (d + 1) 41 (12, [some (.inr (some 6)), some (.inl (nI dep)), some (.inl (nI i)), a3], [], tH h s) (some (.inl (bI (cLoop n tx Tm m s).1)), tH h (cLoop n tx Tm m s).2) := by
  have k6 : hK h 6 = 7 := hT.1.1
  have hn : n ≤ 150 := hT.2.2.2.2.1
  intro m
  induction m with
  | zero =>
    intro i s a3 hi hb
    have hi2 : i = 150 := by omega
    subst hi2
    unfold cLoop
    simp only [e_41_12, e_41_13, e_41_16, e_41_67, e_41_68, true_and, and_true, and_self, false_and, and_false, if_true, if_false, ↓reduceIte, Nat.add_eq_left, Nat.left_eq_add, Nat.add_left_cancel_iff, not_false_eq_true, not_true_eq_false, i_pc, List.cons_append, List.nil_append, List.length_cons, List.length_nil, Nat.reduceEqDiff, Nat.reduceAdd, Nat.reduceMul, Nat.reduceSub, Nat.reduceLeDiff, Nat.reduceLT, Int32.reduceLT, Int32.reduceLE, Int32.reduceAdd, Int32.reduceSub, reduceCtorEq, true_or, or_true, or_false, false_or, ne_eq, Nat.zero_le, show ((150 : Int32) ≤ nI 150) = True from by decide, bI_ff]
  | succ m ih =>
    intro i s a3 hi hb
    have h1 : ¬ (150 : Int32) ≤ nI i := nI_ge (b := 150) (by omega) (by decide)
    have ha : s.1 < 2 ^ 31 := by have := hb.1; omega
    rw [e_41_12]
    simp only [e_41_13, e_41_16, e_41_19, e_41_20, true_and, and_true, and_self, false_and, and_false, if_true, if_false, ↓reduceIte, Nat.add_eq_left, Nat.left_eq_add, Nat.add_left_cancel_iff, not_false_eq_true, not_true_eq_false, i_pc, List.cons_append, List.nil_append, List.length_cons, List.length_nil, Nat.reduceEqDiff, Nat.reduceAdd, Nat.reduceMul, Nat.reduceSub, Nat.reduceLeDiff, Nat.reduceLT, Int32.reduceLT, Int32.reduceLE, Int32.reduceAdd, Int32.reduceSub, reduceCtorEq, true_or, or_true, or_false, false_or, ne_eq, Nat.zero_le, th_K, k6, h1]
    refine ⟨_, t_peekS hT ha, ?_⟩
    unfold cLoop
    by_cases c1 : isOp (pk n tx s.1) = true
    · rw [if_pos c1]
      have hb2 := bd_at hb (isOp_in c1)
      simp only [e_41_23, e_41_24, e_41_26, e_41_27, e_41_30, e_41_33, e_41_34, e_41_35, e_41_36, e_41_37, e_41_40, e_41_41, e_41_42, e_41_45, e_41_46, e_41_47, true_and, and_true, and_self, false_and, and_false, if_true, if_false, ↓reduceIte, Nat.add_eq_left, Nat.left_eq_add, Nat.add_left_cancel_iff, not_false_eq_true, not_true_eq_false, i_pc, List.cons_append, List.nil_append, List.length_cons, List.length_nil, Nat.reduceEqDiff, Nat.reduceAdd, Nat.reduceMul, Nat.reduceSub, Nat.reduceLeDiff, Nat.reduceLT, Int32.reduceLT, Int32.reduceLE, Int32.reduceAdd, Int32.reduceSub, reduceCtorEq, true_or, or_true, or_false, false_or, ne_eq, Nat.zero_le, Option.toList, th_K, k6, idx_op c1, th_67S, tw_atS, nI_1]
      refine ⟨_, hR _ hb2, ?_⟩
      cases ht : (Tm (sAt (s.1 + 1) s)).1 with
      | false => simp only [e_41_50, e_41_53, e_41_54, true_and, and_true, and_self, false_and, and_false, if_true, if_false, ↓reduceIte, Nat.add_eq_left, Nat.left_eq_add, Nat.add_left_cancel_iff, not_false_eq_true, not_true_eq_false, i_pc, List.cons_append, List.nil_append, List.length_cons, List.length_nil, Nat.reduceEqDiff, Nat.reduceAdd, Nat.reduceMul, Nat.reduceSub, Nat.reduceLeDiff, Nat.reduceLT, Int32.reduceLT, Int32.reduceLE, Int32.reduceAdd, Int32.reduceSub, reduceCtorEq, true_or, or_true, or_false, false_or, ne_eq, Nat.zero_le, Option.toList, bI_ff, ht, Bool.false_eq_true]
      | true =>
        have hb3 := hB _ hb2 ht
        simp only [e_41_50, e_41_55, e_41_56, e_41_57, e_41_58, true_and, and_true, and_self, false_and, and_false, if_true, if_false, ↓reduceIte, Nat.add_eq_left, Nat.left_eq_add, Nat.add_left_cancel_iff, not_false_eq_true, not_true_eq_false, i_pc, List.cons_append, List.nil_append, List.length_cons, List.length_nil, Nat.reduceEqDiff, Nat.reduceAdd, Nat.reduceMul, Nat.reduceSub, Nat.reduceLeDiff, Nat.reduceLT, Int32.reduceLT, Int32.reduceLE, Int32.reduceAdd, Int32.reduceSub, reduceCtorEq, true_or, or_true, or_false, false_or, ne_eq, Nat.zero_le, Option.toList, th_K, k6, bI_tt, show ((1 : Int32) = 0) = False from by decide]
        refine ⟨_, t_emitS hT (by have := hb3.2; omega), ?_⟩
        simp only [e_41_61, e_41_64, true_and, and_true, and_self, false_and, and_false, if_true, if_false, ↓reduceIte, Nat.add_eq_left, Nat.left_eq_add, Nat.add_left_cancel_iff, not_false_eq_true, not_true_eq_false, i_pc, List.cons_append, List.nil_append, List.length_cons, List.length_nil, Nat.reduceEqDiff, Nat.reduceAdd, Nat.reduceMul, Nat.reduceSub, Nat.reduceLeDiff, Nat.reduceLT, Int32.reduceLT, Int32.reduceLE, Int32.reduceAdd, Int32.reduceSub, reduceCtorEq, true_or, or_true, or_false, false_or, ne_eq, Nat.zero_le, Option.toList, nI_1]
        exact ih (i + 1) _ _ (by omega) (bd_emit hb3)
    · rw [if_neg c1]
      simp only [e_41_23, e_41_24, e_41_26, e_41_27, e_41_30, e_41_33, e_41_34, true_and, and_true, and_self, false_and, and_false, if_true, if_false, ↓reduceIte, Nat.add_eq_left, Nat.left_eq_add, Nat.add_left_cancel_iff, not_false_eq_true, not_true_eq_false, i_pc, List.cons_append, List.nil_append, List.length_cons, List.length_nil, Nat.reduceEqDiff, Nat.reduceAdd, Nat.reduceMul, Nat.reduceSub, Nat.reduceLeDiff, Nat.reduceLT, Int32.reduceLT, Int32.reduceLE, Int32.reduceAdd, Int32.reduceSub, reduceCtorEq, true_or, or_true, or_false, false_or, ne_eq, Nat.zero_le, Option.toList, idx_no c1, bI_tt]
theorem t_ex {Tm : TS → Bool × TS} {dep : Nat} (hT : TI h n tx) (hB : EB n Tm) (hR : ∀ s : TS, Bd n s → Rn xs L (d + 1) 42 [.inr (some 6), .inl (nI dep)] (tH h s) (some (.inl (bI (Tm s).1)), tH h (Tm s).2)) : ES xs L (d + 2) h n dep (cEx n tx Tm) := by
  have k6 : hK h 6 = 7 := hT.1.1
  intro s hb
  refine ⟨?_, bd_ex hB s hb⟩
  rw [i_rn]
  show X xs L (d + 1) 41 (0, [some (.inr (some 6)), some (.inl (nI dep)), none, none], [], _) _
  simp only [e_41_0, e_41_1, e_41_2, true_and, and_true, and_self, false_and, and_false, if_true, if_false, ↓reduceIte, Nat.add_eq_left, Nat.left_eq_add, Nat.add_left_cancel_iff, not_false_eq_true, not_true_eq_false, i_pc, List.cons_append, List.nil_append, List.length_cons, List.length_nil, Nat.reduceEqDiff, Nat.reduceAdd, Nat.reduceMul, Nat.reduceSub, Nat.reduceLeDiff, Nat.reduceLT, Int32.reduceLT, Int32.reduceLE, Int32.reduceAdd, Int32.reduceSub, reduceCtorEq, true_or, or_true, or_false, false_or, ne_eq, Nat.zero_le, th_K, k6]
  refine ⟨_, hR s hb, ?_⟩
  unfold cEx
  cases ht : (Tm s).1 with
  | false => simp only [e_41_5, e_41_8, e_41_9, true_and, and_true, and_self, false_and, and_false, if_true, if_false, ↓reduceIte, Nat.add_eq_left, Nat.left_eq_add, Nat.add_left_cancel_iff, not_false_eq_true, not_true_eq_false, i_pc, List.cons_append, List.nil_append, List.length_cons, List.length_nil, Nat.reduceEqDiff, Nat.reduceAdd, Nat.reduceMul, Nat.reduceSub, Nat.reduceLeDiff, Nat.reduceLT, Int32.reduceLT, Int32.reduceLE, Int32.reduceAdd, Int32.reduceSub, reduceCtorEq, true_or, or_true, or_false, false_or, ne_eq, Nat.zero_le, Option.toList, bI_ff, ht, Bool.false_eq_true]
  | true =>
    simp only [e_41_5, e_41_10, e_41_11, true_and, and_true, and_self, false_and, and_false, if_true, if_false, ↓reduceIte, Nat.add_eq_left, Nat.left_eq_add, Nat.add_left_cancel_iff, not_false_eq_true, not_true_eq_false, i_pc, List.cons_append, List.nil_append, List.length_cons, List.length_nil, Nat.reduceEqDiff, Nat.reduceAdd, Nat.reduceMul, Nat.reduceSub, Nat.reduceLeDiff, Nat.reduceLT, Int32.reduceLT, Int32.reduceLE, Int32.reduceAdd, Int32.reduceSub, reduceCtorEq, true_or, or_true, or_false, false_or, ne_eq, Nat.zero_le, Option.toList, bI_tt, show ((1 : Int32) = 0) = False from by decide]
    exact t_loop (dt := 0) hT hB hR 150 0 _ _ (by omega) (hB s hb ht)
theorem t_E (hT : TI h n tx) : ∀ (k dep d : Nat), dep + k = 5 → ES xs L (d + (4 + 3 * k)) h n dep (cE n tx k) := by
  intro k
  induction k with
  | zero =>
    intro dep d hk
    refine t_ex (d := d + 2) hT (bd_term (fun s hb h1 => hb)) (fun s hb => ?_)
    exact t_term (d := d) (e := 0) hT hk (fun e => absurd rfl e) hb
  | succ k ih =>
    intro dep d hk
    have h1 : d + (4 + 3 * (k + 1)) = (d + (3 * k + 5)) + 2 := by omega
    rw [h1]
    refine t_ex (d := d + (3 * k + 5)) hT (bd_term (bd_E k)) (fun s hb => ?_)
    exact t_term (d := d) (e := 3 * k + 3) hT hk (fun _ d' => by have := ih (dep + 1) d' (by omega); rw [show d' + (4 + 3 * k) = d' + (3 * k + 3 + 1) by omega] at this; exact this) hb
def cEnd (c : Int32) (s : TS) : TS := if c = 33 then cEmit 7 0 s else if c = 94 then cEmit 0 0 s else if c = 35 then cEmit 8 0 s else cEmit 6 (c - 97) s
theorem t_end {c : Int32} (hT : TI h n tx) (hz : s.2.1 < 2 ^ 31) (hc : c = 33 ∨ c = 94 ∨ c = 35 ∨ ∃ v, v < 6 ∧ c = nI (97 + v)) : Rn xs L (d + 2) 36 [.inr (some 6), .inl c] (tH h s) (none, tH h (cEnd c s)) := by
  have k6 : hK h 6 = 7 := hT.1.1
  rw [i_rn]
  show X xs L (d + 1) 36 (0, [some (.inr (some 6)), some (.inl c)], [], _) _
  unfold cEnd
  rcases hc with rfl | rfl | rfl | ⟨v, hv, rfl⟩
  · simp only [e_36_0, e_36_1, e_36_36, e_36_37, e_36_39, e_36_40, true_and, and_true, and_self, false_and, and_false, if_true, if_false, ↓reduceIte, Nat.add_eq_left, Nat.left_eq_add, Nat.add_left_cancel_iff, not_false_eq_true, not_true_eq_false, i_pc, List.cons_append, List.nil_append, List.length_cons, List.length_nil, Nat.reduceEqDiff, Nat.reduceAdd, Nat.reduceMul, Nat.reduceSub, Nat.reduceLeDiff, Nat.reduceLT, Int32.reduceLT, Int32.reduceLE, Int32.reduceAdd, Int32.reduceSub, reduceCtorEq, true_or, or_true, or_false, false_or, ne_eq, Nat.zero_le, show a_tgt (33 : Int32) [(33, 36), (35, 55), (94, 46)] 65 = 36 from by decide, th_K, k6]
    refine ⟨_, t_emitS hT hz, ?_⟩
    simp only [e_36_43, e_36_75, true_and, and_true, and_self, false_and, and_false, if_true, if_false, ↓reduceIte, Nat.add_eq_left, Nat.left_eq_add, Nat.add_left_cancel_iff, not_false_eq_true, not_true_eq_false, i_pc, List.cons_append, List.nil_append, List.length_cons, List.length_nil, Nat.reduceEqDiff, Nat.reduceAdd, Nat.reduceMul, Nat.reduceSub, Nat.reduceLeDiff, Nat.reduceLT, Int32.reduceLT, Int32.reduceLE, Int32.reduceAdd, Int32.reduceSub, reduceCtorEq, true_or, or_true, or_false, false_or, ne_eq, Nat.zero_le, Option.toList]
  · simp only [e_36_0, e_36_1, e_36_46, e_36_47, e_36_48, e_36_49, true_and, and_true, and_self, false_and, and_false, if_true, if_false, ↓reduceIte, Nat.add_eq_left, Nat.left_eq_add, Nat.add_left_cancel_iff, not_false_eq_true, not_true_eq_false, i_pc, List.cons_append, List.nil_append, List.length_cons, List.length_nil, Nat.reduceEqDiff, Nat.reduceAdd, Nat.reduceMul, Nat.reduceSub, Nat.reduceLeDiff, Nat.reduceLT, Int32.reduceLT, Int32.reduceLE, Int32.reduceAdd, Int32.reduceSub, reduceCtorEq, true_or, or_true, or_false, false_or, ne_eq, Nat.zero_le, show a_tgt (94 : Int32) [(33, 36), (35, 55), (94, 46)] 65 = 46 from by decide, th_K, k6, show ((94 : Int32) = 33) = False from by decide]
    refine ⟨_, t_emitS hT hz, ?_⟩
    simp only [e_36_52, e_36_75, true_and, and_true, and_self, false_and, and_false, if_true, if_false, ↓reduceIte, Nat.add_eq_left, Nat.left_eq_add, Nat.add_left_cancel_iff, not_false_eq_true, not_true_eq_false, i_pc, List.cons_append, List.nil_append, List.length_cons, List.length_nil, Nat.reduceEqDiff, Nat.reduceAdd, Nat.reduceMul, Nat.reduceSub, Nat.reduceLeDiff, Nat.reduceLT, Int32.reduceLT, Int32.reduceLE, Int32.reduceAdd, Int32.reduceSub, reduceCtorEq, true_or, or_true, or_false, false_or, ne_eq, Nat.zero_le, Option.toList]
  · simp only [e_36_0, e_36_1, e_36_55, e_36_56, e_36_58, e_36_59, true_and, and_true, and_self, false_and, and_false, if_true, if_false, ↓reduceIte, Nat.add_eq_left, Nat.left_eq_add, Nat.add_left_cancel_iff, not_false_eq_true, not_true_eq_false, i_pc, List.cons_append, List.nil_append, List.length_cons, List.length_nil, Nat.reduceEqDiff, Nat.reduceAdd, Nat.reduceMul, Nat.reduceSub, Nat.reduceLeDiff, Nat.reduceLT, Int32.reduceLT, Int32.reduceLE, Int32.reduceAdd, Int32.reduceSub, reduceCtorEq, true_or, or_true, or_false, false_or, ne_eq, Nat.zero_le, show a_tgt (35 : Int32) [(33, 36), (35, 55), (94, 46)] 65 = 55 from by decide, th_K, k6, show ((35 : Int32) = 33) = False from by decide, show ((35 : Int32) = 94) = False from by decide]
    refine ⟨_, t_emitS hT hz, ?_⟩
    simp only [e_36_62, e_36_75, true_and, and_true, and_self, false_and, and_false, if_true, if_false, ↓reduceIte, Nat.add_eq_left, Nat.left_eq_add, Nat.add_left_cancel_iff, not_false_eq_true, not_true_eq_false, i_pc, List.cons_append, List.nil_append, List.length_cons, List.length_nil, Nat.reduceEqDiff, Nat.reduceAdd, Nat.reduceMul, Nat.reduceSub, Nat.reduceLeDiff, Nat.reduceLT, Int32.reduceLT, Int32.reduceLE, Int32.reduceAdd, Int32.reduceSub, reduceCtorEq, true_or, or_true, or_false, false_or, ne_eq, Nat.zero_le, Option.toList]
  · have ne : ∀ k : Nat, k < 97 → ¬ nI (97 + v) = nI k := fun k hk e => by have := (nI_eq (a := 97 + v) (b := k) (by omega) (by omega)).mp e; omega
    have n1 : ¬ nI (97 + v) = 94 := ne 94 (by decide)
    have n2 : ¬ nI (97 + v) = 35 := ne 35 (by decide)
    have n5 : ¬ nI (97 + v) = 33 := ne 33 (by decide)
    have e1 : a_tgt (nI (97 + v)) [(33, 36), (35, 55), (94, 46)] 65 = 65 := by
      rcases (by omega : v = 0 ∨ v = 1 ∨ v = 2 ∨ v = 3 ∨ v = 4 ∨ v = 5) with rfl | rfl | rfl | rfl | rfl | rfl <;> decide
    simp only [e_36_0, e_36_1, e_36_65, e_36_66, e_36_68, e_36_69, e_36_71, e_36_72, true_and, and_true, and_self, false_and, and_false, if_true, if_false, ↓reduceIte, Nat.add_eq_left, Nat.left_eq_add, Nat.add_left_cancel_iff, not_false_eq_true, not_true_eq_false, i_pc, List.cons_append, List.nil_append, List.length_cons, List.length_nil, Nat.reduceEqDiff, Nat.reduceAdd, Nat.reduceMul, Nat.reduceSub, Nat.reduceLeDiff, Nat.reduceLT, Int32.reduceLT, Int32.reduceLE, Int32.reduceAdd, Int32.reduceSub, reduceCtorEq, true_or, or_true, or_false, false_or, ne_eq, Nat.zero_le, e1, n1, n2, n5, th_K, k6]
    refine ⟨_, t_emitS hT hz, ?_⟩
    simp only [e_36_75, true_and, and_true, and_self, false_and, and_false, if_true, if_false, ↓reduceIte, Nat.add_eq_left, Nat.left_eq_add, Nat.add_left_cancel_iff, not_false_eq_true, not_true_eq_false, i_pc, List.cons_append, List.nil_append, List.length_cons, List.length_nil, Nat.reduceEqDiff, Nat.reduceAdd, Nat.reduceMul, Nat.reduceSub, Nat.reduceLeDiff, Nat.reduceLT, Int32.reduceLT, Int32.reduceLE, Int32.reduceAdd, Int32.reduceSub, reduceCtorEq, true_or, or_true, or_false, false_or, ne_eq, Nat.zero_le, Option.toList]
def cAim (j : Nat) : TS → TS
  | (a, z, l, I, H, S, P, A) => if j < z then (a, z, l, up I j ((I j &&& (15 : Int32)) ||| (nI z <<< ((4 : Int32) &&& 31))), H, S, P, A) else (a, z, l, I, H, S, P, A)
theorem t_aim {j : Nat} (hT : TI h n tx) (hb : Bd n s) (hj : j < 2 ^ 31) : Rn xs L (d + 1) 40 [.inr (some 6), .inl (nI j)] (tH h s) (none, tH h (cAim j s)) := by
  obtain ⟨⟨k6, r0, r1, r2, r3, r4, r5⟩, ⟨k7, k8, k9, k10, k11, k5⟩, ⟨l7, l8, l9, l10, l11, l5⟩, h6, hn, htx⟩ := hT
  obtain ⟨a, z, l, I, H, S, P, A⟩ := s
  have hz : z ≤ 151 := hb.2.1
  rw [i_rn]
  show X xs L d 40 (0, [some (.inr (some 6)), some (.inl (nI j))], [], _) _
  by_cases h1 : j < z
  · have e : cAim j (a, z, l, I, H, S, P, A) = (a, z, l, up I j ((I j &&& (15 : Int32)) ||| (nI z <<< ((4 : Int32) &&& 31))), H, S, P, A) := if_pos h1
    have h2 : ¬ nI z ≤ nI j := nI_ge h1 (by omega)
    have h3 : vp_in (nI j) 151 := vin (by omega) (by decide)
    rw [e]
    simp only [e_40_0, e_40_1, e_40_2, e_40_5, e_40_8, e_40_9, e_40_12, e_40_13, e_40_14, e_40_17, e_40_18, e_40_19, e_40_21, e_40_22, e_40_23, e_40_26, e_40_27, e_40_28, e_40_29, e_40_30, true_and, and_true, and_self, false_and, and_false, if_true, if_false, ↓reduceIte, Nat.add_eq_left, Nat.left_eq_add, Nat.add_left_cancel_iff, not_false_eq_true, not_true_eq_false, i_pc, List.cons_append, List.nil_append, List.length_cons, List.length_nil, Nat.reduceEqDiff, Nat.reduceAdd, Nat.reduceMul, Nat.reduceSub, Nat.reduceLeDiff, Nat.reduceLT, Int32.reduceLT, Int32.reduceLE, Int32.reduceAdd, Int32.reduceSub, reduceCtorEq, true_or, or_true, or_false, false_or, ne_eq, Nat.zero_le, th_K, th_L, th_R, th_68, th_7, tw_7, k6, r0, k7, l7, h2, h3, nI_cl (show j < 2 ^ 31 by omega)]
  · have e : cAim j (a, z, l, I, H, S, P, A) = (a, z, l, I, H, S, P, A) := if_neg h1
    have h2 : nI z ≤ nI j := nI_le (by omega) hj
    rw [e]
    simp only [e_40_0, e_40_1, e_40_2, e_40_5, e_40_8, e_40_9, e_40_12, e_40_13, e_40_14, e_40_17, e_40_18, e_40_19, e_40_21, e_40_22, e_40_23, e_40_26, e_40_27, e_40_28, e_40_29, e_40_30, true_and, and_true, and_self, false_and, and_false, if_true, if_false, ↓reduceIte, Nat.add_eq_left, Nat.left_eq_add, Nat.add_left_cancel_iff, not_false_eq_true, not_true_eq_false, i_pc, List.cons_append, List.nil_append, List.length_cons, List.length_nil, Nat.reduceEqDiff, Nat.reduceAdd, Nat.reduceMul, Nat.reduceSub, Nat.reduceLeDiff, Nat.reduceLT, Int32.reduceLT, Int32.reduceLE, Int32.reduceAdd, Int32.reduceSub, reduceCtorEq, true_or, or_true, or_false, false_or, ne_eq, Nat.zero_le, th_K, th_68, k6, h2]
def cCat (f e : Nat) : TS → TS
  | (a, z, l, I, H, S, P, A) => (a, z, l, I, (fun k => if f ≤ k ∧ k < e ∧ H k = -1 then nI z else H k), S, P, A)
theorem t_cat_loop {e z : Nat} {a1 : Option AV} {a l : Nat} {I S P A : Nat → Int32} (hT : TI h n tx) (he : e ≤ 151) : ∀ (m f : Nat) (H : Nat → Int32), f + m = e → X xs L d 39 (2, [some (.inr (some 6)), a1, some (.inl (nI e)), some (.inl (nI f))], [], tH h (a, z, l, I, H, S, P, A)) (none, tH h (cCat f e (a, z, l, I, H, S, P, A))) := by
  obtain ⟨⟨k6, r0, r1, r2, r3, r4, r5⟩, ⟨k7, k8, k9, k10, k11, k5⟩, ⟨l7, l8, l9, l10, l11, l5⟩, h6, hn, htx⟩ := hT
  intro m
  induction m with
  | zero =>
    intro f H hf
    have hfe : f = e := by omega
    subst hfe
    have h1 : nI f ≤ nI f := Int32.le_refl _
    have e1 : cCat f f (a, z, l, I, H, S, P, A) = (a, z, l, I, H, S, P, A) := by
      show (a, z, l, I, (fun k => if f ≤ k ∧ k < f ∧ H k = -1 then nI z else H k), S, P, A) = _
      rw [show (fun k => if f ≤ k ∧ k < f ∧ H k = -1 then nI z else H k) = H from funext (fun k => if_neg (by omega))]
    rw [e1]
    simp only [e_39_2, e_39_3, e_39_4, e_39_33, true_and, and_true, and_self, false_and, and_false, if_true, if_false, ↓reduceIte, Nat.add_eq_left, Nat.left_eq_add, Nat.add_left_cancel_iff, not_false_eq_true, not_true_eq_false, i_pc, List.cons_append, List.nil_append, List.length_cons, List.length_nil, Nat.reduceEqDiff, Nat.reduceAdd, Nat.reduceMul, Nat.reduceSub, Nat.reduceLeDiff, Nat.reduceLT, Int32.reduceLT, Int32.reduceLE, Int32.reduceAdd, Int32.reduceSub, reduceCtorEq, true_or, or_true, or_false, false_or, ne_eq, Nat.zero_le, h1]
  | succ m ih =>
    intro f H hf
    have h1 : ¬ nI e ≤ nI f := nI_ge (by omega) (by omega)
    have h2 : vp_in (nI f) 151 := vin (by omega) (by decide)
    rw [e_39_2]
    by_cases h3 : H f = -1
    · have hgo := ih (f + 1) (up H f (nI z)) (by omega)
      have e1 : cCat (f + 1) e (a, z, l, I, up H f (nI z), S, P, A) = cCat f e (a, z, l, I, H, S, P, A) := by
        show (a, z, l, I, (fun k => if f + 1 ≤ k ∧ k < e ∧ up H f (nI z) k = -1 then nI z else up H f (nI z) k), S, P, A) = (a, z, l, I, (fun k => if f ≤ k ∧ k < e ∧ H k = -1 then nI z else H k), S, P, A)
        congr 5
        funext k
        unfold up
        by_cases hk : k = f
        · subst hk
          rw [if_neg (by omega), if_pos rfl, if_pos ⟨by omega, by omega, h3⟩]
        · simp only [if_neg hk]
          by_cases hk2 : f + 1 ≤ k
          · simp only [hk2, show f ≤ k by omega]
          · rw [if_neg (by omega), if_neg (by omega)]
      rw [e1] at hgo
      simp only [e_39_3, e_39_4, e_39_7, e_39_8, e_39_11, e_39_12, e_39_13, e_39_14, e_39_17, e_39_18, e_39_21, e_39_22, e_39_23, e_39_26, e_39_27, e_39_30, true_and, and_true, and_self, false_and, and_false, if_true, if_false, ↓reduceIte, Nat.add_eq_left, Nat.left_eq_add, Nat.add_left_cancel_iff, not_false_eq_true, not_true_eq_false, i_pc, List.cons_append, List.nil_append, List.length_cons, List.length_nil, Nat.reduceEqDiff, Nat.reduceAdd, Nat.reduceMul, Nat.reduceSub, Nat.reduceLeDiff, Nat.reduceLT, Int32.reduceLT, Int32.reduceLE, Int32.reduceAdd, Int32.reduceSub, reduceCtorEq, true_or, or_true, or_false, false_or, ne_eq, Nat.zero_le, th_K, th_L, th_R, th_8, th_68, tw_8, k6, r1, k8, l8, h1, h2, h3, nI_1, nI_cl (show f < 2 ^ 31 by omega)]
      exact hgo
    · have hgo := ih (f + 1) H (by omega)
      have e1 : cCat (f + 1) e (a, z, l, I, H, S, P, A) = cCat f e (a, z, l, I, H, S, P, A) := by
        show (a, z, l, I, (fun k => if f + 1 ≤ k ∧ k < e ∧ H k = -1 then nI z else H k), S, P, A) = (a, z, l, I, (fun k => if f ≤ k ∧ k < e ∧ H k = -1 then nI z else H k), S, P, A)
        congr 5
        funext k
        by_cases hk : k = f
        · subst hk
          rw [if_neg (by omega), if_neg (fun z => h3 z.2.2)]
        · by_cases hk2 : f + 1 ≤ k
          · simp only [hk2, show f ≤ k by omega]
          · rw [if_neg (by omega), if_neg (by omega)]
      rw [e1] at hgo
      simp only [e_39_3, e_39_4, e_39_7, e_39_8, e_39_11, e_39_12, e_39_13, e_39_14, e_39_17, e_39_18, e_39_21, e_39_22, e_39_23, e_39_26, e_39_27, e_39_30, true_and, and_true, and_self, false_and, and_false, if_true, if_false, ↓reduceIte, Nat.add_eq_left, Nat.left_eq_add, Nat.add_left_cancel_iff, not_false_eq_true, not_true_eq_false, i_pc, List.cons_append, List.nil_append, List.length_cons, List.length_nil, Nat.reduceEqDiff, Nat.reduceAdd, Nat.reduceMul, Nat.reduceSub, Nat.reduceLeDiff, Nat.reduceLT, Int32.reduceLT, Int32.reduceLE, Int32.reduceAdd, Int32.reduceSub, reduceCtorEq, true_or, or_true, or_false, false_or, ne_eq, Nat.zero_le, th_K, th_L, th_R, th_8, th_68, tw_8, k6, r1, k8, l8, h1, h2, h3, nI_1, nI_cl (show f < 2 ^ 31 by omega)]
      exact hgo
theorem t_cat {f e : Nat} (hT : TI h n tx) (he : e ≤ 151) (hf : f < 2 ^ 31) : Rn xs L (d + 1) 39 [.inr (some 6), .inl (nI f), .inl (nI e)] (tH h s) (none, tH h (cCat f e s)) := by
  obtain ⟨a, z, l, I, H, S, P, A⟩ := s
  rw [i_rn]
  show X xs L d 39 (0, [some (.inr (some 6)), some (.inl (nI f)), some (.inl (nI e)), none], [], _) _
  simp only [e_39_0, e_39_1, true_and, and_true, and_self, false_and, and_false, if_true, if_false, ↓reduceIte, Nat.add_eq_left, Nat.left_eq_add, Nat.add_left_cancel_iff, not_false_eq_true, not_true_eq_false, i_pc, List.cons_append, List.nil_append, List.length_cons, List.length_nil, Nat.reduceEqDiff, Nat.reduceAdd, Nat.reduceMul, Nat.reduceSub, Nat.reduceLeDiff, Nat.reduceLT, Int32.reduceLT, Int32.reduceLE, Int32.reduceAdd, Int32.reduceSub, reduceCtorEq, true_or, or_true, or_false, false_or, ne_eq, Nat.zero_le]
  by_cases hfe : f ≤ e
  · exact t_cat_loop hT he (e - f) f H (by omega)
  · have h1 : nI e ≤ nI f := nI_le (by omega) hf
    have e1 : cCat f e (a, z, l, I, H, S, P, A) = (a, z, l, I, H, S, P, A) := by
      show (a, z, l, I, (fun k => if f ≤ k ∧ k < e ∧ H k = -1 then nI z else H k), S, P, A) = _
      rw [show (fun k => if f ≤ k ∧ k < e ∧ H k = -1 then nI z else H k) = H from funext (fun k => if_neg (by omega))]
    rw [e1]
    simp only [e_39_2, e_39_3, e_39_4, e_39_33, true_and, and_true, and_self, false_and, and_false, if_true, if_false, ↓reduceIte, Nat.add_eq_left, Nat.left_eq_add, Nat.add_left_cancel_iff, not_false_eq_true, not_true_eq_false, i_pc, List.cons_append, List.nil_append, List.length_cons, List.length_nil, Nat.reduceEqDiff, Nat.reduceAdd, Nat.reduceMul, Nat.reduceSub, Nat.reduceLeDiff, Nat.reduceLT, Int32.reduceLT, Int32.reduceLE, Int32.reduceAdd, Int32.reduceSub, reduceCtorEq, true_or, or_true, or_false, false_or, ne_eq, Nat.zero_le, h1]
end TD

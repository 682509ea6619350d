-- THE TRANSLATOR: its state as a tuple (at, size, lines, instructions, handlers, starts, parameters, arguments)
abbrev TS := Nat × Nat × Nat × (Nat → Int32) × (Nat → Int32) × (Nat → Int32) × (Nat → Int32) × (Nat → Int32)
def tH (h : Hp) (s : TS) : Hp := sA (sA (sA (sA (sA (sI (sI (sI h 6 7 (nI s.1)) 6 8 (nI s.2.1)) 6 9 (nI s.2.2.1)) 7 s.2.2.2.1) 8 s.2.2.2.2.1) 9 s.2.2.2.2.2.1) 10 s.2.2.2.2.2.2.1) 11 s.2.2.2.2.2.2.2
def TI (h : Hp) (n : Nat) (tx : Nat → Int32) : Prop := (hK h 6 = 7 ∧ hR h 6 0 = some 7 ∧ hR h 6 1 = some 8 ∧ hR h 6 2 = some 9 ∧ hR h 6 3 = some 10 ∧ hR h 6 4 = some 11 ∧ hR h 6 5 = some 5) ∧ (hK h 7 = 20 ∧ hK h 8 = 20 ∧ hK h 9 = 20 ∧ hK h 10 = 20 ∧ hK h 11 = 20 ∧ hK h 5 = 21) ∧ (hL h 7 = 151 ∧ hL h 8 = 151 ∧ hL h 9 = 4 ∧ hL h 10 = 4 ∧ hL h 11 = 4 ∧ hL h 5 = 150) ∧ hI h 6 6 = nI n ∧ n ≤ 150 ∧ ∀ p, p < n → hI h 5 p = tx p ∧ 32 ≤ tx p ∧ tx p ≤ 126
section TA
variable {xs : Nat → Int32} {L d : Nat} {h : Hp} {res : Res} {n : Nat} {tx : Nat → Int32} {a z l : Nat} {I H S P A : Nat → Int32} {s : TS}
theorem th_K {o : Nat} : hK (tH h s) o = hK h o := rfl
theorem th_L {o : Nat} : hL (tH h s) o = hL h o := rfl
theorem th_R {o k : Nat} : hR (tH h s) o k = hR h o k := rfl
theorem th_5 {k : Nat} : hI (tH h s) 5 k = hI h 5 k := by unfold tH; simp only [hI_sA, hI_sI, true_and, and_true, and_self, false_and, and_false, if_true, if_false, ↓reduceIte, Nat.add_eq_left, Nat.left_eq_add, Nat.add_left_cancel_iff, not_false_eq_true, not_true_eq_false, i_pc, List.cons_append, List.nil_append, List.length_cons, List.length_nil, Nat.reduceEqDiff, Nat.reduceAdd, Nat.reduceMul, Nat.reduceSub, Nat.reduceLeDiff, Nat.reduceLT, Int32.reduceLT, Int32.reduceLE, Int32.reduceAdd, Int32.reduceSub, reduceCtorEq, true_or, or_true, or_false, false_or, ne_eq, Nat.zero_le]
theorem th_66 : hI (tH h s) 6 6 = hI h 6 6 := by unfold tH; simp only [hI_sA, hI_sI, true_and, and_true, and_self, false_and, and_false, if_true, if_false, ↓reduceIte, Nat.add_eq_left, Nat.left_eq_add, Nat.add_left_cancel_iff, not_false_eq_true, not_true_eq_false, i_pc, List.cons_append, List.nil_append, List.length_cons, List.length_nil, Nat.reduceEqDiff, Nat.reduceAdd, Nat.reduceMul, Nat.reduceSub, Nat.reduceLeDiff, Nat.reduceLT, Int32.reduceLT, Int32.reduceLE, Int32.reduceAdd, Int32.reduceSub, reduceCtorEq, true_or, or_true, or_false, false_or, ne_eq, Nat.zero_le]
theorem th_67 : hI (tH h (a, z, l, I, H, S, P, A)) 6 7 = nI a := by unfold tH; simp only [hI_sA, hI_sI, true_and, and_true, and_self, false_and, and_false, if_true, if_false, ↓reduceIte, Nat.add_eq_left, Nat.left_eq_add, Nat.add_left_cancel_iff, not_false_eq_true, not_true_eq_false, i_pc, List.cons_append, List.nil_append, List.length_cons, List.length_nil, Nat.reduceEqDiff, Nat.reduceAdd, Nat.reduceMul, Nat.reduceSub, Nat.reduceLeDiff, Nat.reduceLT, Int32.reduceLT, Int32.reduceLE, Int32.reduceAdd, Int32.reduceSub, reduceCtorEq, true_or, or_true, or_false, false_or, ne_eq, Nat.zero_le]
theorem th_68 : hI (tH h (a, z, l, I, H, S, P, A)) 6 8 = nI z := by unfold tH; simp only [hI_sA, hI_sI, true_and, and_true, and_self, false_and, and_false, if_true, if_false, ↓reduceIte, Nat.add_eq_left, Nat.left_eq_add, Nat.add_left_cancel_iff, not_false_eq_true, not_true_eq_false, i_pc, List.cons_append, List.nil_append, List.length_cons, List.length_nil, Nat.reduceEqDiff, Nat.reduceAdd, Nat.reduceMul, Nat.reduceSub, Nat.reduceLeDiff, Nat.reduceLT, Int32.reduceLT, Int32.reduceLE, Int32.reduceAdd, Int32.reduceSub, reduceCtorEq, true_or, or_true, or_false, false_or, ne_eq, Nat.zero_le]
theorem th_69 : hI (tH h (a, z, l, I, H, S, P, A)) 6 9 = nI l := by unfold tH; simp only [hI_sA, hI_sI, true_and, and_true, and_self, false_and, and_false, if_true, if_false, ↓reduceIte, Nat.add_eq_left, Nat.left_eq_add, Nat.add_left_cancel_iff, not_false_eq_true, not_true_eq_false, i_pc, List.cons_append, List.nil_append, List.length_cons, List.length_nil, Nat.reduceEqDiff, Nat.reduceAdd, Nat.reduceMul, Nat.reduceSub, Nat.reduceLeDiff, Nat.reduceLT, Int32.reduceLT, Int32.reduceLE, Int32.reduceAdd, Int32.reduceSub, reduceCtorEq, true_or, or_true, or_false, false_or, ne_eq, Nat.zero_le]
theorem th_7 {k : Nat} : hI (tH h (a, z, l, I, H, S, P, A)) 7 k = I k := by unfold tH; simp only [hI_sA, hI_sI, true_and, and_true, and_self, false_and, and_false, if_true, if_false, ↓reduceIte, Nat.add_eq_left, Nat.left_eq_add, Nat.add_left_cancel_iff, not_false_eq_true, not_true_eq_false, i_pc, List.cons_append, List.nil_append, List.length_cons, List.length_nil, Nat.reduceEqDiff, Nat.reduceAdd, Nat.reduceMul, Nat.reduceSub, Nat.reduceLeDiff, Nat.reduceLT, Int32.reduceLT, Int32.reduceLE, Int32.reduceAdd, Int32.reduceSub, reduceCtorEq, true_or, or_true, or_false, false_or, ne_eq, Nat.zero_le]
theorem th_8 {k : Nat} : hI (tH h (a, z, l, I, H, S, P, A)) 8 k = H k := by unfold tH; simp only [hI_sA, hI_sI, true_and, and_true, and_self, false_and, and_false, if_true, if_false, ↓reduceIte, Nat.add_eq_left, Nat.left_eq_add, Nat.add_left_cancel_iff, not_false_eq_true, not_true_eq_false, i_pc, List.cons_append, List.nil_append, List.length_cons, List.length_nil, Nat.reduceEqDiff, Nat.reduceAdd, Nat.reduceMul, Nat.reduceSub, Nat.reduceLeDiff, Nat.reduceLT, Int32.reduceLT, Int32.reduceLE, Int32.reduceAdd, Int32.reduceSub, reduceCtorEq, true_or, or_true, or_false, false_or, ne_eq, Nat.zero_le]
theorem th_9 {k : Nat} : hI (tH h (a, z, l, I, H, S, P, A)) 9 k = S k := by unfold tH; simp only [hI_sA, hI_sI, true_and, and_true, and_self, false_and, and_false, if_true, if_false, ↓reduceIte, Nat.add_eq_left, Nat.left_eq_add, Nat.add_left_cancel_iff, not_false_eq_true, not_true_eq_false, i_pc, List.cons_append, List.nil_append, List.length_cons, List.length_nil, Nat.reduceEqDiff, Nat.reduceAdd, Nat.reduceMul, Nat.reduceSub, Nat.reduceLeDiff, Nat.reduceLT, Int32.reduceLT, Int32.reduceLE, Int32.reduceAdd, Int32.reduceSub, reduceCtorEq, true_or, or_true, or_false, false_or, ne_eq, Nat.zero_le]
theorem th_10 {k : Nat} : hI (tH h (a, z, l, I, H, S, P, A)) 10 k = P k := by unfold tH; simp only [hI_sA, hI_sI, true_and, and_true, and_self, false_and, and_false, if_true, if_false, ↓reduceIte, Nat.add_eq_left, Nat.left_eq_add, Nat.add_left_cancel_iff, not_false_eq_true, not_true_eq_false, i_pc, List.cons_append, List.nil_append, List.length_cons, List.length_nil, Nat.reduceEqDiff, Nat.reduceAdd, Nat.reduceMul, Nat.reduceSub, Nat.reduceLeDiff, Nat.reduceLT, Int32.reduceLT, Int32.reduceLE, Int32.reduceAdd, Int32.reduceSub, reduceCtorEq, true_or, or_true, or_false, false_or, ne_eq, Nat.zero_le]
theorem th_11 {k : Nat} : hI (tH h (a, z, l, I, H, S, P, A)) 11 k = A k := by unfold tH; simp only [hI_sA, hI_sI, true_and, and_true, and_self, false_and, and_false, if_true, if_false, ↓reduceIte, Nat.add_eq_left, Nat.left_eq_add, Nat.add_left_cancel_iff, not_false_eq_true, not_true_eq_false, i_pc, List.cons_append, List.nil_append, List.length_cons, List.length_nil, Nat.reduceEqDiff, Nat.reduceAdd, Nat.reduceMul, Nat.reduceSub, Nat.reduceLeDiff, Nat.reduceLT, Int32.reduceLT, Int32.reduceLE, Int32.reduceAdd, Int32.reduceSub, reduceCtorEq, true_or, or_true, or_false, false_or, ne_eq, Nat.zero_le]
theorem sI_sAo {o o2 k : Nat} {f : Nat → Int32} {v : Int32} (hne : ¬ o = o2) : sI (sA h o2 f) o k v = sA (sI h o k v) o2 f := by
  refine hp_ext rfl rfl (fun _ => rfl) (fun _ => rfl) (fun x y => ?_) (fun _ _ => rfl)
  rw [hI_sI, hI_sA, hI_sA, hI_sI]
  by_cases h1 : x = o2
  · rw [if_pos h1, if_pos h1, if_neg (fun e => hne (e.1.symm.trans h1))]
  · rw [if_neg h1, if_neg h1]
theorem tw_at {b : Nat} : sI (tH h (a, z, l, I, H, S, P, A)) 6 7 (nI b) = tH h (b, z, l, I, H, S, P, A) := by
  unfold tH
  rw [sI_sAo (by decide), sI_sAo (by decide), sI_sAo (by decide), sI_sAo (by decide), sI_sAo (by decide), sI_comm (o := 6) (k := 9) (o2 := 6) (k2 := 7) (by decide), sI_comm (o := 6) (k := 8) (o2 := 6) (k2 := 7) (by decide), sI_same]
theorem tw_sz {b : Nat} : sI (tH h (a, z, l, I, H, S, P, A)) 6 8 (nI b) = tH h (a, b, l, I, H, S, P, A) := by
  unfold tH
  rw [sI_sAo (by decide), sI_sAo (by decide), sI_sAo (by decide), sI_sAo (by decide), sI_sAo (by decide), sI_comm (by decide), sI_same]
theorem tw_ln {b : Nat} : sI (tH h (a, z, l, I, H, S, P, A)) 6 9 (nI b) = tH h (a, z, b, I, H, S, P, A) := by
  unfold tH
  rw [sI_sAo (by decide), sI_sAo (by decide), sI_sAo (by decide), sI_sAo (by decide), sI_sAo (by decide), sI_same]
def up (f : Nat → Int32) (k : Nat) (v : Int32) : Nat → Int32 := fun j => if j = k then v else f j
theorem sI_sAs {o k : Nat} {f : Nat → Int32} {v : Int32} : sI (sA h o f) o k v = sA h o (up f k v) := by
  refine hp_ext rfl rfl (fun _ => rfl) (fun _ => rfl) (fun x y => ?_) (fun _ _ => rfl)
  rw [hI_sI, hI_sA, hI_sA]
  unfold up
  by_cases h1 : x = o
  · rw [if_pos h1, if_pos h1]
    by_cases h2 : y = k
    · rw [if_pos ⟨h1, h2⟩, if_pos h2]
    · rw [if_neg (fun e => h2 e.2), if_neg h2]
  · rw [if_neg h1, if_neg h1, if_neg (fun e => h1 e.1)]
theorem tw_7 {j : Nat} {v : Int32} : sI (tH h (a, z, l, I, H, S, P, A)) 7 j v = tH h (a, z, l, up I j v, H, S, P, A) := by
  unfold tH
  rw [sI_sAo (by decide), sI_sAo (by decide), sI_sAo (by decide), sI_sAo (by decide), sI_sAs]
theorem tw_8 {j : Nat} {v : Int32} : sI (tH h (a, z, l, I, H, S, P, A)) 8 j v = tH h (a, z, l, I, up H j v, S, P, A) := by
  unfold tH
  rw [sI_sAo (by decide), sI_sAo (by decide), sI_sAo (by decide), sI_sAs]
theorem tw_9 {j : Nat} {v : Int32} : sI (tH h (a, z, l, I, H, S, P, A)) 9 j v = tH h (a, z, l, I, H, up S j v, P, A) := by
  unfold tH
  rw [sI_sAo (by decide), sI_sAo (by decide), sI_sAs]
theorem tw_10 {j : Nat} {v : Int32} : sI (tH h (a, z, l, I, H, S, P, A)) 10 j v = tH h (a, z, l, I, H, S, up P j v, A) := by
  unfold tH
  rw [sI_sAo (by decide), sI_sAs]
theorem tw_11 {j : Nat} {v : Int32} : sI (tH h (a, z, l, I, H, S, P, A)) 11 j v = tH h (a, z, l, I, H, S, P, up A j v) := by
  unfold tH
  rw [sI_sAs]
/-- the sign at a place, 0 behind the text -/
def pk (n : Nat) (tx : Nat → Int32) (p : Nat) : Int32 := if p < n then tx p else 0
/-- an instruction -/
def iw (op x : Int32) : Int32 := (x <<< (4 &&& 31)) ||| op
def cEmit (op x : Int32) : TS → TS
  | (a, z, l, I, H, S, P, A) => if z < 151 then (a, z + 1, l, up I z (iw op x), up H z (-1), S, P, A) else (a, z, l, I, H, S, P, A)
theorem t_emit {op x : Int32} (hT : TI h n tx) (hz : z < 2 ^ 31) : Rn xs L (d + 1) 45 [.inr (some 6), .inl op, .inl x] (tH h (a, z, l, I, H, S, P, A)) (none, tH h (cEmit op x (a, z, l, I, H, S, P, A))) := by
  obtain ⟨⟨k6, r0, r1, r2, r3, r4, r5⟩, ⟨k7, k8, k9, k10, k11, k5⟩, ⟨l7, l8, l9, l10, l11, l5⟩, h6, hn, htx⟩ := hT
  rw [i_rn]
  show X xs L d 45 (0, [some (.inr (some 6)), some (.inl op), some (.inl x)], [], _) _
  unfold cEmit
  by_cases h1 : z < 151
  · have h2 : ¬ nI 151 ≤ nI z := nI_ge h1 (by decide)
    have h3 : vp_in (nI z) 151 := vin h1 (by decide)
    simp only [e_45_0, e_45_1, e_45_4, e_45_5, e_45_8, e_45_9, e_45_12, e_45_13, e_45_16, e_45_17, e_45_20, e_45_21, e_45_22, e_45_23, e_45_24, e_45_25, e_45_26, e_45_27, e_45_30, e_45_31, e_45_34, e_45_35, e_45_36, e_45_37, e_45_38, e_45_41, e_45_42, e_45_43, e_45_46, true_and, and_true, and_self, false_and, and_false, if_true, if_false, ↓reduceIte, Nat.add_eq_left, Nat.left_eq_add, Nat.add_left_cancel_iff, not_false_eq_true, not_true_eq_false, i_pc, List.cons_append, List.nil_append, List.length_cons, List.length_nil, Nat.reduceEqDiff, Nat.reduceAdd, Nat.reduceMul, Nat.reduceSub, Nat.reduceLeDiff, Nat.reduceLT, Int32.reduceLT, Int32.reduceLE, Int32.reduceAdd, Int32.reduceSub, reduceCtorEq, true_or, or_true, or_false, false_or, ne_eq, Nat.zero_le, th_K, th_L, th_R, th_68, tw_7, tw_8, tw_sz, k6, r0, r1, k7, k8, l7, l8, h1, h2, h3, nI_1, nI_cl (show z < 2 ^ 31 by omega), iw]
  · have h2 : nI 151 ≤ nI z := nI_le (by omega) hz
    simp only [e_45_0, e_45_1, e_45_4, e_45_5, e_45_8, e_45_9, e_45_12, e_45_13, e_45_16, e_45_17, e_45_20, e_45_21, e_45_22, e_45_23, e_45_24, e_45_25, e_45_26, e_45_27, e_45_30, e_45_31, e_45_34, e_45_35, e_45_36, e_45_37, e_45_38, e_45_41, e_45_42, e_45_43, e_45_46, true_and, and_true, and_self, false_and, and_false, if_true, if_false, ↓reduceIte, Nat.add_eq_left, Nat.left_eq_add, Nat.add_left_cancel_iff, not_false_eq_true, not_true_eq_false, i_pc, List.cons_append, List.nil_append, List.length_cons, List.length_nil, Nat.reduceEqDiff, Nat.reduceAdd, Nat.reduceMul, Nat.reduceSub, Nat.reduceLeDiff, Nat.reduceLT, Int32.reduceLT, Int32.reduceLE, Int32.reduceAdd, Int32.reduceSub, reduceCtorEq, true_or, or_true, or_false, false_or, ne_eq, Nat.zero_le, th_K, th_L, th_R, th_68, k6, r0, k7, l7, h1, h2]
theorem t_peek (hT : TI h n tx) (ha : a < 2 ^ 31) : Rn xs L (d + 1) 46 [.inr (some 6)] (tH h (a, z, l, I, H, S, P, A)) (some (.inl (pk n tx a)), tH h (a, z, l, I, H, S, P, A)) := by
  obtain ⟨⟨k6, r0, r1, r2, r3, r4, r5⟩, ⟨k7, k8, k9, k10, k11, k5⟩, ⟨l7, l8, l9, l10, l11, l5⟩, h6, hn, htx⟩ := hT
  rw [i_rn]
  show X xs L d 46 (0, [some (.inr (some 6))], [], _) _
  unfold pk
  by_cases h1 : a < n
  · have h2 : ¬ nI n ≤ nI a := nI_ge h1 (by omega)
    have h3 : vp_in (nI a) 150 := vin (by omega) (by decide)
    have h4 : ¬ tx a < 0 := fun z => absurd (htx a h1).2.1 (Int32.not_le.mpr (Int32.lt_trans z (by decide)))
    have h5 : tx a < 65536 := Int32.lt_of_le_of_lt (htx a h1).2.2 (by decide)
    simp only [h4, h5, e_46_0, e_46_1, e_46_4, e_46_5, e_46_8, e_46_11, e_46_12, e_46_15, e_46_16, e_46_19, e_46_20, e_46_23, e_46_24, true_and, and_true, and_self, false_and, and_false, if_true, if_false, ↓reduceIte, Nat.add_eq_left, Nat.left_eq_add, Nat.add_left_cancel_iff, not_false_eq_true, not_true_eq_false, i_pc, List.cons_append, List.nil_append, List.length_cons, List.length_nil, Nat.reduceEqDiff, Nat.reduceAdd, Nat.reduceMul, Nat.reduceSub, Nat.reduceLeDiff, Nat.reduceLT, Int32.reduceLT, Int32.reduceLE, Int32.reduceAdd, Int32.reduceSub, reduceCtorEq, true_or, or_true, or_false, false_or, ne_eq, Nat.zero_le, th_K, th_L, th_R, th_67, th_66, th_5, k6, r5, k5, l5, h6, h1, h2, h3, (htx a h1).1, nI_cl (show a < 2 ^ 31 by omega)]
  · have h2 : nI n ≤ nI a := nI_le (by omega) ha
    simp only [e_46_0, e_46_1, e_46_4, e_46_5, e_46_8, e_46_11, e_46_12, e_46_15, e_46_16, e_46_19, e_46_20, e_46_23, e_46_24, true_and, and_true, and_self, false_and, and_false, if_true, if_false, ↓reduceIte, Nat.add_eq_left, Nat.left_eq_add, Nat.add_left_cancel_iff, not_false_eq_true, not_true_eq_false, i_pc, List.cons_append, List.nil_append, List.length_cons, List.length_nil, Nat.reduceEqDiff, Nat.reduceAdd, Nat.reduceMul, Nat.reduceSub, Nat.reduceLeDiff, Nat.reduceLT, Int32.reduceLT, Int32.reduceLE, Int32.reduceAdd, Int32.reduceSub, reduceCtorEq, true_or, or_true, or_false, false_or, ne_eq, Nat.zero_le, th_K, th_L, th_R, th_67, th_66, th_5, k6, h6, h1, h2]
def cTakes (n : Nat) (tx : Nat → Int32) (c : Int32) : TS → Bool × TS
  | (a, z, l, I, H, S, P, A) => if a < n ∧ tx a = c then (true, a + 1, z, l, I, H, S, P, A) else (false, a, z, l, I, H, S, P, A)
theorem t_takes {c : Int32} (hT : TI h n tx) (ha : a < 2 ^ 31) : Rn xs L (d + 1) 47 [.inr (some 6), .inl c] (tH h (a, z, l, I, H, S, P, A)) (some (.inl (bI (cTakes n tx c (a, z, l, I, H, S, P, A)).1)), tH h (cTakes n tx c (a, z, l, I, H, S, P, A)).2) := by
  obtain ⟨⟨k6, r0, r1, r2, r3, r4, r5⟩, ⟨k7, k8, k9, k10, k11, k5⟩, ⟨l7, l8, l9, l10, l11, l5⟩, h6, hn, htx⟩ := hT
  rw [i_rn]
  show X xs L d 47 (0, [some (.inr (some 6)), some (.inl c)], [], _) _
  unfold cTakes
  by_cases h1 : a < n
  · have h2 : ¬ nI n ≤ nI a := nI_ge h1 (by omega)
    have h3 : vp_in (nI a) 150 := vin (by omega) (by decide)
    by_cases h4 : tx a = c
    · simp only [e_47_0, e_47_1, e_47_4, e_47_5, e_47_8, e_47_11, e_47_12, e_47_15, e_47_16, e_47_19, e_47_20, e_47_21, e_47_24, e_47_25, e_47_26, e_47_27, e_47_28, e_47_31, e_47_32, e_47_33, e_47_36, e_47_37, true_and, and_true, and_self, false_and, and_false, if_true, if_false, ↓reduceIte, Nat.add_eq_left, Nat.left_eq_add, Nat.add_left_cancel_iff, not_false_eq_true, not_true_eq_false, i_pc, List.cons_append, List.nil_append, List.length_cons, List.length_nil, Nat.reduceEqDiff, Nat.reduceAdd, Nat.reduceMul, Nat.reduceSub, Nat.reduceLeDiff, Nat.reduceLT, Int32.reduceLT, Int32.reduceLE, Int32.reduceAdd, Int32.reduceSub, reduceCtorEq, true_or, or_true, or_false, false_or, ne_eq, Nat.zero_le, th_K, th_L, th_R, th_67, th_66, th_5, tw_at, k6, r5, k5, l5, h6, h1, h2, h3, h4, (htx a h1).1, nI_1, nI_cl (show a < 2 ^ 31 by omega), bI]
    · simp only [e_47_0, e_47_1, e_47_4, e_47_5, e_47_8, e_47_11, e_47_12, e_47_15, e_47_16, e_47_19, e_47_20, e_47_21, e_47_24, e_47_25, e_47_26, e_47_27, e_47_28, e_47_31, e_47_32, e_47_33, e_47_36, e_47_37, true_and, and_true, and_self, false_and, and_false, if_true, if_false, ↓reduceIte, Nat.add_eq_left, Nat.left_eq_add, Nat.add_left_cancel_iff, not_false_eq_true, not_true_eq_false, i_pc, List.cons_append, List.nil_append, List.length_cons, List.length_nil, Nat.reduceEqDiff, Nat.reduceAdd, Nat.reduceMul, Nat.reduceSub, Nat.reduceLeDiff, Nat.reduceLT, Int32.reduceLT, Int32.reduceLE, Int32.reduceAdd, Int32.reduceSub, reduceCtorEq, true_or, or_true, or_false, false_or, ne_eq, Nat.zero_le, th_K, th_L, th_R, th_67, th_66, th_5, tw_at, k6, r5, k5, l5, h6, h1, h2, h3, h4, (htx a h1).1, nI_1, nI_cl (show a < 2 ^ 31 by omega), bI, Bool.false_eq_true]
  · have h2 : nI n ≤ nI a := nI_le (by omega) ha
    simp only [e_47_0, e_47_1, e_47_4, e_47_5, e_47_8, e_47_11, e_47_12, e_47_15, e_47_16, e_47_19, e_47_20, e_47_21, e_47_24, e_47_25, e_47_26, e_47_27, e_47_28, e_47_31, e_47_32, e_47_33, e_47_36, e_47_37, true_and, and_true, and_self, false_and, and_false, if_true, if_false, ↓reduceIte, Nat.add_eq_left, Nat.left_eq_add, Nat.add_left_cancel_iff, not_false_eq_true, not_true_eq_false, i_pc, List.cons_append, List.nil_append, List.length_cons, List.length_nil, Nat.reduceEqDiff, Nat.reduceAdd, Nat.reduceMul, Nat.reduceSub, Nat.reduceLeDiff, Nat.reduceLT, Int32.reduceLT, Int32.reduceLE, Int32.reduceAdd, Int32.reduceSub, reduceCtorEq, true_or, or_true, or_false, false_or, ne_eq, Nat.zero_le, th_K, th_L, th_R, th_67, th_66, th_5, k6, h6, h1, h2, bI, Bool.false_eq_true]
theorem t_isDig {c : Int32} : Rn xs L (d + 1) 48 [.inl c] h (some (.inl (bI (decide (48 ≤ c ∧ c ≤ 57)))), h) := by
  rw [i_rn]
  show X xs L d 48 (0, [some (.inl c)], [], h) _
  by_cases h1 : c < 48
  · have h2 : ¬ (48 : Int32) ≤ c := fun z => absurd h1 (Int32.not_lt.mpr z)
    simp only [e_48_0, e_48_1, e_48_3, e_48_6, e_48_7, e_48_9, e_48_12, e_48_13, e_48_16, e_48_17, true_and, and_true, and_self, false_and, and_false, if_true, if_false, ↓reduceIte, Nat.add_eq_left, Nat.left_eq_add, Nat.add_left_cancel_iff, not_false_eq_true, not_true_eq_false, i_pc, List.cons_append, List.nil_append, List.length_cons, List.length_nil, Nat.reduceEqDiff, Nat.reduceAdd, Nat.reduceMul, Nat.reduceSub, Nat.reduceLeDiff, Nat.reduceLT, Int32.reduceLT, Int32.reduceLE, Int32.reduceAdd, Int32.reduceSub, reduceCtorEq, true_or, or_true, or_false, false_or, ne_eq, Nat.zero_le, h1, h2, bI, decide_false, Bool.false_eq_true]
  · have h2 : (48 : Int32) ≤ c := Int32.not_lt.mp h1
    by_cases h3 : c ≤ 57
    · have h4 : ¬ (57 : Int32) < c := Int32.not_lt.mpr h3
      simp only [e_48_0, e_48_1, e_48_3, e_48_6, e_48_7, e_48_9, e_48_12, e_48_13, e_48_16, e_48_17, true_and, and_true, and_self, false_and, and_false, if_true, if_false, ↓reduceIte, Nat.add_eq_left, Nat.left_eq_add, Nat.add_left_cancel_iff, not_false_eq_true, not_true_eq_false, i_pc, List.cons_append, List.nil_append, List.length_cons, List.length_nil, Nat.reduceEqDiff, Nat.reduceAdd, Nat.reduceMul, Nat.reduceSub, Nat.reduceLeDiff, Nat.reduceLT, Int32.reduceLT, Int32.reduceLE, Int32.reduceAdd, Int32.reduceSub, reduceCtorEq, true_or, or_true, or_false, false_or, ne_eq, Nat.zero_le, h1, h2, h3, h4, bI, decide_true]
    · have h4 : (57 : Int32) < c := Int32.not_le.mp h3
      simp only [e_48_0, e_48_1, e_48_3, e_48_6, e_48_7, e_48_9, e_48_12, e_48_13, e_48_16, e_48_17, true_and, and_true, and_self, false_and, and_false, if_true, if_false, ↓reduceIte, Nat.add_eq_left, Nat.left_eq_add, Nat.add_left_cancel_iff, not_false_eq_true, not_true_eq_false, i_pc, List.cons_append, List.nil_append, List.length_cons, List.length_nil, Nat.reduceEqDiff, Nat.reduceAdd, Nat.reduceMul, Nat.reduceSub, Nat.reduceLeDiff, Nat.reduceLT, Int32.reduceLT, Int32.reduceLE, Int32.reduceAdd, Int32.reduceSub, reduceCtorEq, true_or, or_true, or_false, false_or, ne_eq, Nat.zero_le, h1, h2, h3, h4, bI, decide_false, Bool.false_eq_true]
theorem t_isVar {c : Int32} : Rn xs L (d + 1) 49 [.inl c] h (some (.inl (bI (decide (97 ≤ c ∧ c < 103)))), h) := by
  rw [i_rn]
  show X xs L d 49 (0, [some (.inl c)], [], h) _
  by_cases h1 : c < 97
  · have h2 : ¬ (97 : Int32) ≤ c := fun z => absurd h1 (Int32.not_lt.mpr z)
    simp only [e_49_0, e_49_1, e_49_3, e_49_6, e_49_7, e_49_9, e_49_12, e_49_13, e_49_16, e_49_17, true_and, and_true, and_self, false_and, and_false, if_true, if_false, ↓reduceIte, Nat.add_eq_left, Nat.left_eq_add, Nat.add_left_cancel_iff, not_false_eq_true, not_true_eq_false, i_pc, List.cons_append, List.nil_append, List.length_cons, List.length_nil, Nat.reduceEqDiff, Nat.reduceAdd, Nat.reduceMul, Nat.reduceSub, Nat.reduceLeDiff, Nat.reduceLT, Int32.reduceLT, Int32.reduceLE, Int32.reduceAdd, Int32.reduceSub, reduceCtorEq, true_or, or_true, or_false, false_or, ne_eq, Nat.zero_le, h1, h2, bI, decide_false, Bool.false_eq_true]
  · have h2 : (97 : Int32) ≤ c := Int32.not_lt.mp h1
    by_cases h3 : c < 103
    · have h4 : ¬ (103 : Int32) ≤ c := fun z => absurd h3 (Int32.not_lt.mpr z)
      simp only [e_49_0, e_49_1, e_49_3, e_49_6, e_49_7, e_49_9, e_49_12, e_49_13, e_49_16, e_49_17, true_and, and_true, and_self, false_and, and_false, if_true, if_false, ↓reduceIte, Nat.add_eq_left, Nat.left_eq_add, Nat.add_left_cancel_iff, not_false_eq_true, not_true_eq_false, i_pc, List.cons_append, List.nil_append, List.length_cons, List.length_nil, Nat.reduceEqDiff, Nat.reduceAdd, Nat.reduceMul, Nat.reduceSub, Nat.reduceLeDiff, Nat.reduceLT, Int32.reduceLT, Int32.reduceLE, Int32.reduceAdd, Int32.reduceSub, reduceCtorEq, true_or, or_true, or_false, false_or, ne_eq, Nat.zero_le, h1, h2, h3, h4, bI, decide_true]
    · have h4 : (103 : Int32) ≤ c := Int32.not_lt.mp h3
      simp only [e_49_0, e_49_1, e_49_3, e_49_6, e_49_7, e_49_9, e_49_12, e_49_13, e_49_16, e_49_17, true_and, and_true, and_self, false_and, and_false, if_true, if_false, ↓reduceIte, Nat.add_eq_left, Nat.left_eq_add, Nat.add_left_cancel_iff, not_false_eq_true, not_true_eq_false, i_pc, List.cons_append, List.nil_append, List.length_cons, List.length_nil, Nat.reduceEqDiff, Nat.reduceAdd, Nat.reduceMul, Nat.reduceSub, Nat.reduceLeDiff, Nat.reduceLT, Int32.reduceLT, Int32.reduceLE, Int32.reduceAdd, Int32.reduceSub, reduceCtorEq, true_or, or_true, or_false, false_or, ne_eq, Nat.zero_le, h1, h2, h3, h4, bI, decide_false, Bool.false_eq_true]
theorem t_emitS {op x : Int32} (hT : TI h n tx) (hz : s.2.1 < 2 ^ 31) : Rn xs L (d + 1) 45 [.inr (some 6), .inl op, .inl x] (tH h s) (none, tH h (cEmit op x s)) := by
  obtain ⟨a, z, l, I, H, S, P, A⟩ := s
  exact t_emit hT hz
theorem t_peekS (hT : TI h n tx) (ha : s.1 < 2 ^ 31) : Rn xs L (d + 1) 46 [.inr (some 6)] (tH h s) (some (.inl (pk n tx s.1)), tH h s) := by
  obtain ⟨a, z, l, I, H, S, P, A⟩ := s
  exact t_peek hT ha
theorem t_takesS {c : Int32} (hT : TI h n tx) (ha : s.1 < 2 ^ 31) : Rn xs L (d + 1) 47 [.inr (some 6), .inl c] (tH h s) (some (.inl (bI (cTakes n tx c s).1)), tH h (cTakes n tx c s).2) := by
  obtain ⟨a, z, l, I, H, S, P, A⟩ := s
  exact t_takes hT ha
end TA

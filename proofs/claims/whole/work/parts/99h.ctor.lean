-- CONSTRUCTORS of the class
section CA
variable {xs : Nat → Int32} {L d : Nat} {h g : Hp} {res : Res} {μ o : Nat}
/-- all numbers are 0 -/
def Zr (h : Hp) : Prop := ∀ o k, 3 ≤ o → o < hN h → hI h o k = 0
theorem zr_nw {a b c : Nat} (hz : Zr h) : Zr (nw h a b c) := fun o k h1 h2 => by
  rw [hI_nw]
  by_cases e : o = hN h
  · rw [if_pos e]
  · rw [if_neg e]
    rw [hN_nw] at h2
    exact hz o k h1 (by omega)
theorem zr_sR {a b : Nat} {c : Option Nat} (hz : Zr h) : Zr (sR h a b c) := fun o k h1 h2 => hz o k h1 h2
theorem c_frame (hk : hK h o = 2) (hn : hN h = o + 1) : Rn xs L (d + 1) 2 [.inr (some o)] h (none, sR (nw h 20 6 6) o 0 (some (o + 1))) := by
  rw [i_rn]
  show X xs L d 2 (0, [some (.inr (some o))], [], h) _
  simp only [e_2_0, e_2_1, e_2_4, e_2_5, e_2_7, e_2_9, e_2_12, true_and, and_true, and_self, false_and, and_false, if_true, if_false, ↓reduceIte, Nat.add_eq_left, Nat.left_eq_add, Nat.add_left_cancel_iff, not_false_eq_true, not_true_eq_false, i_pc, List.cons_append, List.nil_append, List.length_cons, List.length_nil, Nat.reduceEqDiff, Nat.reduceAdd, Nat.reduceMul, Nat.reduceSub, Nat.reduceLeDiff, Nat.reduceLT, Int32.reduceLT, Int32.reduceLE, Int32.reduceAdd, Int32.reduceSub, reduceCtorEq, true_or, or_true, or_false, false_or, ne_eq, Nat.zero_le, hK_nw, hn, hk, show ¬ o = o + 1 from by omega, show (0 : Int32) ≤ 6 from by decide, show (6 : Int32).toNatClampNeg = 6 from by decide, show ((6 : Int32) < 0) = False from by decide]
theorem c_tail (hk : hK h o = 5) (hn : hN h = o + 1) : Rn xs L (d + 1) 21 [.inr (some o)] h (none, sR (nw h 20 16 16) o 0 (some (o + 1))) := by
  rw [i_rn]
  show X xs L d 21 (0, [some (.inr (some o))], [], h) _
  simp only [e_21_0, e_21_1, e_21_4, e_21_5, e_21_7, e_21_9, e_21_12, true_and, and_true, and_self, false_and, and_false, if_true, if_false, ↓reduceIte, Nat.add_eq_left, Nat.left_eq_add, Nat.add_left_cancel_iff, not_false_eq_true, not_true_eq_false, i_pc, List.cons_append, List.nil_append, List.length_cons, List.length_nil, Nat.reduceEqDiff, Nat.reduceAdd, Nat.reduceMul, Nat.reduceSub, Nat.reduceLeDiff, Nat.reduceLT, Int32.reduceLT, Int32.reduceLE, Int32.reduceAdd, Int32.reduceSub, reduceCtorEq, true_or, or_true, or_false, false_or, ne_eq, Nat.zero_le, hK_nw, hn, hk, show ¬ o = o + 1 from by omega, show (16 : Int32).toNatClampNeg = 16 from by decide, show ((16 : Int32) < 0) = False from by decide]
theorem c_text (hk : hK h o = 6) (hn : hN h = o + 1) : Rn xs L (d + 1) 25 [.inr (some o)] h (none, sR (nw h 21 150 150) o 0 (some (o + 1))) := by
  rw [i_rn]
  show X xs L d 25 (0, [some (.inr (some o))], [], h) _
  simp only [e_25_0, e_25_1, e_25_4, e_25_5, e_25_8, e_25_10, e_25_13, true_and, and_true, and_self, false_and, and_false, if_true, if_false, ↓reduceIte, Nat.add_eq_left, Nat.left_eq_add, Nat.add_left_cancel_iff, not_false_eq_true, not_true_eq_false, i_pc, List.cons_append, List.nil_append, List.length_cons, List.length_nil, Nat.reduceEqDiff, Nat.reduceAdd, Nat.reduceMul, Nat.reduceSub, Nat.reduceLeDiff, Nat.reduceLT, Int32.reduceLT, Int32.reduceLE, Int32.reduceAdd, Int32.reduceSub, reduceCtorEq, true_or, or_true, or_false, false_or, ne_eq, Nat.zero_le, hK_nw, hn, hk, show ¬ o = o + 1 from by omega, show (150 : Int32).toNatClampNeg = 150 from by decide, show ((150 : Int32) < 0) = False from by decide]
theorem c_trans (hk : hK h o = 7) (hn : hN h = o + 1) : Rn xs L (d + 1) 28 [.inr (some o)] h (none, sR (nw (sR (nw (sR (nw (sR (nw (sR (nw h 20 151 151) o 0 (some (o + 1))) 20 151 151) o 1 (some (o + 2))) 20 4 4) o 2 (some (o + 3))) 20 4 4) o 3 (some (o + 4))) 20 4 4) o 4 (some (o + 5))) := by
  rw [i_rn]
  show X xs L d 28 (0, [some (.inr (some o))], [], h) _
  simp only [e_28_0, e_28_1, e_28_4, e_28_5, e_28_8, e_28_10, e_28_13, e_28_14, e_28_17, e_28_19, e_28_22, e_28_23, e_28_24, e_28_26, e_28_29, e_28_30, e_28_31, e_28_33, e_28_36, e_28_37, e_28_38, e_28_40, e_28_43, true_and, and_true, and_self, false_and, and_false, if_true, if_false, ↓reduceIte, Nat.add_eq_left, Nat.left_eq_add, Nat.add_left_cancel_iff, not_false_eq_true, not_true_eq_false, i_pc, List.cons_append, List.nil_append, List.length_cons, List.length_nil, Nat.reduceEqDiff, Nat.reduceAdd, Nat.reduceMul, Nat.reduceSub, Nat.reduceLeDiff, Nat.reduceLT, Int32.reduceLT, Int32.reduceLE, Int32.reduceAdd, Int32.reduceSub, reduceCtorEq, true_or, or_true, or_false, false_or, ne_eq, Nat.zero_le, hK_nw, hN_nw, hK_sR, hN_sR, hn, hk, Nat.add_assoc, show ¬ o = o + 1 from by omega, show ¬ o = o + 2 from by omega, show ¬ o = o + 3 from by omega, show ¬ o = o + 4 from by omega, show ¬ o = o + 5 from by omega, show (151 : Int32).toNatClampNeg = 151 from by decide, show ((151 : Int32) < 0) = False from by decide, show (4 : Int32).toNatClampNeg = 4 from by decide, show ((4 : Int32) < 0) = False from by decide]
end CA

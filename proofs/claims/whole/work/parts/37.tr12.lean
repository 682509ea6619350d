-- the translator: a program that is taken
section TL
variable {xs : Nat → Int32} {L d : Nat} {h g : Hp} {res : Res} {n : Nat} {tx : Nat → Int32} {s : TS}
theorem pg_N {p c : Nat} {v : Int32} {f1 f2 : Nat → Int32} : hN (pgH g p c v f1 f2) = hN g + 2 ∧ hU (pgH g p c v f1 f2) = hU g + 8 := by
  show hN g + 1 + 1 = hN g + 2 ∧ hU g + 4 + 4 = hU g + 8
  exact ⟨rfl, by omega⟩
/-- the Code stays through the making of the Program -/
theorem pg_COD {p m : Nat} {v : Int32} {f1 f2 I H : Nat → Int32} (hN4 : hN g = p + 4) (hC : COD g (p + 1) m I H) : COD (pgH g p (p + 1) v f1 f2) (p + 1) m I H := by
  obtain ⟨⟨q1, q2, q3, q4, q5, q6, q7, q8, q9⟩, q10, q11⟩ := hC
  have a1 : ∀ o, o < p + 4 → ¬ o = p → hK (pgH g p (p + 1) v f1 f2) o = hK g o ∧ hL (pgH g p (p + 1) v f1 f2) o = hL g o ∧ (∀ k, hI (pgH g p (p + 1) v f1 f2) o k = hI g o k) ∧ ∀ k, hR (pgH g p (p + 1) v f1 f2) o k = hR g o k := fun o ho ho2 => by
    have b1 : ¬ o = p + 4 := by omega
    have b2 : ¬ o = p + 4 + 1 := by omega
    unfold pgH
    refine ⟨?_, ?_, fun k => ?_, fun k => ?_⟩
    · simp only [true_and, and_true, and_self, false_and, and_false, if_true, if_false, ↓reduceIte, Nat.add_eq_left, Nat.left_eq_add, Nat.add_left_cancel_iff, not_false_eq_true, not_true_eq_false, i_pc, List.cons_append, List.nil_append, List.length_cons, List.length_nil, Nat.reduceEqDiff, Nat.reduceAdd, Nat.reduceMul, Nat.reduceSub, Nat.reduceLeDiff, Nat.reduceLT, Int32.reduceLT, Int32.reduceLE, Int32.reduceAdd, Int32.reduceSub, reduceCtorEq, true_or, or_true, or_false, false_or, ne_eq, Nat.zero_le, hK_sI, hL_sI, hR_sI, hI_sI, hN_sI, hU_sI, hK_sR, hL_sR, hI_sR, hR_sR, hN_sR, hU_sR, hK_sA, hL_sA, hR_sA, hI_sA, hN_sA, hU_sA, hK_nw, hN_nw, hN4, b1, b2]
    · simp only [true_and, and_true, and_self, false_and, and_false, if_true, if_false, ↓reduceIte, Nat.add_eq_left, Nat.left_eq_add, Nat.add_left_cancel_iff, not_false_eq_true, not_true_eq_false, i_pc, List.cons_append, List.nil_append, List.length_cons, List.length_nil, Nat.reduceEqDiff, Nat.reduceAdd, Nat.reduceMul, Nat.reduceSub, Nat.reduceLeDiff, Nat.reduceLT, Int32.reduceLT, Int32.reduceLE, Int32.reduceAdd, Int32.reduceSub, reduceCtorEq, true_or, or_true, or_false, false_or, ne_eq, Nat.zero_le, hK_sI, hL_sI, hR_sI, hI_sI, hN_sI, hU_sI, hK_sR, hL_sR, hI_sR, hR_sR, hN_sR, hU_sR, hK_sA, hL_sA, hR_sA, hI_sA, hN_sA, hU_sA, hL_nw, hN_nw, hN4, b1, b2]
    · simp only [true_and, and_true, and_self, false_and, and_false, if_true, if_false, ↓reduceIte, Nat.add_eq_left, Nat.left_eq_add, Nat.add_left_cancel_iff, not_false_eq_true, not_true_eq_false, i_pc, List.cons_append, List.nil_append, List.length_cons, List.length_nil, Nat.reduceEqDiff, Nat.reduceAdd, Nat.reduceMul, Nat.reduceSub, Nat.reduceLeDiff, Nat.reduceLT, Int32.reduceLT, Int32.reduceLE, Int32.reduceAdd, Int32.reduceSub, reduceCtorEq, true_or, or_true, or_false, false_or, ne_eq, Nat.zero_le, hK_sI, hL_sI, hR_sI, hI_sI, hN_sI, hU_sI, hK_sR, hL_sR, hI_sR, hR_sR, hN_sR, hU_sR, hK_sA, hL_sA, hR_sA, hI_sA, hN_sA, hU_sA, hI_nw, hN_nw, hN4, b1, b2, ho2]
    · simp only [true_and, and_true, and_self, false_and, and_false, if_true, if_false, ↓reduceIte, Nat.add_eq_left, Nat.left_eq_add, Nat.add_left_cancel_iff, not_false_eq_true, not_true_eq_false, i_pc, List.cons_append, List.nil_append, List.length_cons, List.length_nil, Nat.reduceEqDiff, Nat.reduceAdd, Nat.reduceMul, Nat.reduceSub, Nat.reduceLeDiff, Nat.reduceLT, Int32.reduceLT, Int32.reduceLE, Int32.reduceAdd, Int32.reduceSub, reduceCtorEq, true_or, or_true, or_false, false_or, ne_eq, Nat.zero_le, hK_sI, hL_sI, hR_sI, hI_sI, hN_sI, hU_sI, hK_sR, hL_sR, hI_sR, hR_sR, hN_sR, hU_sR, hK_sA, hL_sA, hR_sA, hI_sA, hN_sA, hU_sA, hR_nw, hN_nw, hN4, b1, b2, ho2]
  have b1 := a1 (p + 1) (by omega) (by omega)
  have b2 := a1 (p + 1 + 1) (by omega) (by omega)
  have b3 := a1 (p + 1 + 2) (by omega) (by omega)
  exact ⟨⟨by rw [b1.1]; exact q1, by rw [b1.2.2.2]; exact q2, by rw [b1.2.2.2]; exact q3, by rw [b1.2.2.1]; exact q4, by rw [b2.1]; exact q5, by rw [b2.2.1]; exact q6, by rw [b3.1]; exact q7, by rw [b3.2.1]; exact q8, q9⟩, fun k hk => by rw [b2.2.2.1]; exact q10 k hk, fun k hk => by rw [b3.2.2.1]; exact q11 k hk⟩
theorem pg_PRO {p m l : Nat} {f1 f2 I H S P : Nat → Int32} (hN4 : hN g = p + 4) (kp : hK g p = 4) (hC : COD g (p + 1) m I H) (e1 : ∀ k, k < 4 → f1 k = S k) (e2 : ∀ k, k < 4 → f2 k = P k) : PRO (pgH g p (p + 1) (nI l) f1 f2) p m l I H S P := by
  have hC2 := pg_COD (v := nI l) (f1 := f1) (f2 := f2) hN4 hC
  have q1 : ¬ p = p + 4 := by omega
  have q2 : ¬ p = p + 4 + 1 := by omega
  have q3 : ¬ p + 4 = p := by omega
  have q4 : ¬ p + 4 = p + 4 + 1 := by omega
  have q5 : p + 5 = p + 4 + 1 := by omega
  have q6 : ¬ p + 4 + 1 = p := by omega
  refine ⟨⟨?_, ?_, ?_, ?_, ?_, ?_, ?_, ?_⟩, hC2.1, ?_, hC2.2.1, hC2.2.2, fun k hk => ?_, fun k hk => ?_⟩
  · unfold pgH; simp only [true_and, and_true, and_self, false_and, and_false, if_true, if_false, ↓reduceIte, Nat.add_eq_left, Nat.left_eq_add, Nat.add_left_cancel_iff, not_false_eq_true, not_true_eq_false, i_pc, List.cons_append, List.nil_append, List.length_cons, List.length_nil, Nat.reduceEqDiff, Nat.reduceAdd, Nat.reduceMul, Nat.reduceSub, Nat.reduceLeDiff, Nat.reduceLT, Int32.reduceLT, Int32.reduceLE, Int32.reduceAdd, Int32.reduceSub, reduceCtorEq, true_or, or_true, or_false, false_or, ne_eq, Nat.zero_le, hK_sI, hL_sI, hR_sI, hI_sI, hN_sI, hU_sI, hK_sR, hL_sR, hI_sR, hR_sR, hN_sR, hU_sR, hK_sA, hL_sA, hR_sA, hI_sA, hN_sA, hU_sA, hK_nw, hN_nw, hN4, q1, q2, kp]
  · unfold pgH; simp only [true_and, and_true, and_self, false_and, and_false, if_true, if_false, ↓reduceIte, Nat.add_eq_left, Nat.left_eq_add, Nat.add_left_cancel_iff, not_false_eq_true, not_true_eq_false, i_pc, List.cons_append, List.nil_append, List.length_cons, List.length_nil, Nat.reduceEqDiff, Nat.reduceAdd, Nat.reduceMul, Nat.reduceSub, Nat.reduceLeDiff, Nat.reduceLT, Int32.reduceLT, Int32.reduceLE, Int32.reduceAdd, Int32.reduceSub, reduceCtorEq, true_or, or_true, or_false, false_or, ne_eq, Nat.zero_le, hK_sI, hL_sI, hR_sI, hI_sI, hN_sI, hU_sI, hK_sR, hL_sR, hI_sR, hR_sR, hN_sR, hU_sR, hK_sA, hL_sA, hR_sA, hI_sA, hN_sA, hU_sA, hR_nw, hN_nw, hN4, q1, q2]
  · unfold pgH; simp only [true_and, and_true, and_self, false_and, and_false, if_true, if_false, ↓reduceIte, Nat.add_eq_left, Nat.left_eq_add, Nat.add_left_cancel_iff, not_false_eq_true, not_true_eq_false, i_pc, List.cons_append, List.nil_append, List.length_cons, List.length_nil, Nat.reduceEqDiff, Nat.reduceAdd, Nat.reduceMul, Nat.reduceSub, Nat.reduceLeDiff, Nat.reduceLT, Int32.reduceLT, Int32.reduceLE, Int32.reduceAdd, Int32.reduceSub, reduceCtorEq, true_or, or_true, or_false, false_or, ne_eq, Nat.zero_le, hK_sI, hL_sI, hR_sI, hI_sI, hN_sI, hU_sI, hK_sR, hL_sR, hI_sR, hR_sR, hN_sR, hU_sR, hK_sA, hL_sA, hR_sA, hI_sA, hN_sA, hU_sA, hR_nw, hN_nw, hN4, q1, q2]
  · unfold pgH; simp only [true_and, and_true, and_self, false_and, and_false, if_true, if_false, ↓reduceIte, Nat.add_eq_left, Nat.left_eq_add, Nat.add_left_cancel_iff, not_false_eq_true, not_true_eq_false, i_pc, List.cons_append, List.nil_append, List.length_cons, List.length_nil, Nat.reduceEqDiff, Nat.reduceAdd, Nat.reduceMul, Nat.reduceSub, Nat.reduceLeDiff, Nat.reduceLT, Int32.reduceLT, Int32.reduceLE, Int32.reduceAdd, Int32.reduceSub, reduceCtorEq, true_or, or_true, or_false, false_or, ne_eq, Nat.zero_le, hK_sI, hL_sI, hR_sI, hI_sI, hN_sI, hU_sI, hK_sR, hL_sR, hI_sR, hR_sR, hN_sR, hU_sR, hK_sA, hL_sA, hR_sA, hI_sA, hN_sA, hU_sA, hR_nw, hN_nw, hN4, q1, q2]
  · unfold pgH; simp only [true_and, and_true, and_self, false_and, and_false, if_true, if_false, ↓reduceIte, Nat.add_eq_left, Nat.left_eq_add, Nat.add_left_cancel_iff, not_false_eq_true, not_true_eq_false, i_pc, List.cons_append, List.nil_append, List.length_cons, List.length_nil, Nat.reduceEqDiff, Nat.reduceAdd, Nat.reduceMul, Nat.reduceSub, Nat.reduceLeDiff, Nat.reduceLT, Int32.reduceLT, Int32.reduceLE, Int32.reduceAdd, Int32.reduceSub, reduceCtorEq, true_or, or_true, or_false, false_or, ne_eq, Nat.zero_le, hK_sI, hL_sI, hR_sI, hI_sI, hN_sI, hU_sI, hK_sR, hL_sR, hI_sR, hR_sR, hN_sR, hU_sR, hK_sA, hL_sA, hR_sA, hI_sA, hN_sA, hU_sA, hK_nw, hN_nw, hN4, q4]
  · unfold pgH; simp only [true_and, and_true, and_self, false_and, and_false, if_true, if_false, ↓reduceIte, Nat.add_eq_left, Nat.left_eq_add, Nat.add_left_cancel_iff, not_false_eq_true, not_true_eq_false, i_pc, List.cons_append, List.nil_append, List.length_cons, List.length_nil, Nat.reduceEqDiff, Nat.reduceAdd, Nat.reduceMul, Nat.reduceSub, Nat.reduceLeDiff, Nat.reduceLT, Int32.reduceLT, Int32.reduceLE, Int32.reduceAdd, Int32.reduceSub, reduceCtorEq, true_or, or_true, or_false, false_or, ne_eq, Nat.zero_le, hK_sI, hL_sI, hR_sI, hI_sI, hN_sI, hU_sI, hK_sR, hL_sR, hI_sR, hR_sR, hN_sR, hU_sR, hK_sA, hL_sA, hR_sA, hI_sA, hN_sA, hU_sA, hL_nw, hN_nw, hN4, q4]
  · unfold pgH; simp only [true_and, and_true, and_self, false_and, and_false, if_true, if_false, ↓reduceIte, Nat.add_eq_left, Nat.left_eq_add, Nat.add_left_cancel_iff, not_false_eq_true, not_true_eq_false, i_pc, List.cons_append, List.nil_append, List.length_cons, List.length_nil, Nat.reduceEqDiff, Nat.reduceAdd, Nat.reduceMul, Nat.reduceSub, Nat.reduceLeDiff, Nat.reduceLT, Int32.reduceLT, Int32.reduceLE, Int32.reduceAdd, Int32.reduceSub, reduceCtorEq, true_or, or_true, or_false, false_or, ne_eq, Nat.zero_le, hK_sI, hL_sI, hR_sI, hI_sI, hN_sI, hU_sI, hK_sR, hL_sR, hI_sR, hR_sR, hN_sR, hU_sR, hK_sA, hL_sA, hR_sA, hI_sA, hN_sA, hU_sA, hK_nw, hN_nw, hN4, q5]
  · unfold pgH; simp only [true_and, and_true, and_self, false_and, and_false, if_true, if_false, ↓reduceIte, Nat.add_eq_left, Nat.left_eq_add, Nat.add_left_cancel_iff, not_false_eq_true, not_true_eq_false, i_pc, List.cons_append, List.nil_append, List.length_cons, List.length_nil, Nat.reduceEqDiff, Nat.reduceAdd, Nat.reduceMul, Nat.reduceSub, Nat.reduceLeDiff, Nat.reduceLT, Int32.reduceLT, Int32.reduceLE, Int32.reduceAdd, Int32.reduceSub, reduceCtorEq, true_or, or_true, or_false, false_or, ne_eq, Nat.zero_le, hK_sI, hL_sI, hR_sI, hI_sI, hN_sI, hU_sI, hK_sR, hL_sR, hI_sR, hR_sR, hN_sR, hU_sR, hK_sA, hL_sA, hR_sA, hI_sA, hN_sA, hU_sA, hL_nw, hN_nw, hN4, q5]
  · unfold pgH; simp only [true_and, and_true, and_self, false_and, and_false, if_true, if_false, ↓reduceIte, Nat.add_eq_left, Nat.left_eq_add, Nat.add_left_cancel_iff, not_false_eq_true, not_true_eq_false, i_pc, List.cons_append, List.nil_append, List.length_cons, List.length_nil, Nat.reduceEqDiff, Nat.reduceAdd, Nat.reduceMul, Nat.reduceSub, Nat.reduceLeDiff, Nat.reduceLT, Int32.reduceLT, Int32.reduceLE, Int32.reduceAdd, Int32.reduceSub, reduceCtorEq, true_or, or_true, or_false, false_or, ne_eq, Nat.zero_le, hK_sI, hL_sI, hR_sI, hI_sI, hN_sI, hU_sI, hK_sR, hL_sR, hI_sR, hR_sR, hN_sR, hU_sR, hK_sA, hL_sA, hR_sA, hI_sA, hN_sA, hU_sA]
  · rw [← e1 k hk]
    unfold pgH; simp only [true_and, and_true, and_self, false_and, and_false, if_true, if_false, ↓reduceIte, Nat.add_eq_left, Nat.left_eq_add, Nat.add_left_cancel_iff, not_false_eq_true, not_true_eq_false, i_pc, List.cons_append, List.nil_append, List.length_cons, List.length_nil, Nat.reduceEqDiff, Nat.reduceAdd, Nat.reduceMul, Nat.reduceSub, Nat.reduceLeDiff, Nat.reduceLT, Int32.reduceLT, Int32.reduceLE, Int32.reduceAdd, Int32.reduceSub, reduceCtorEq, true_or, or_true, or_false, false_or, ne_eq, Nat.zero_le, hK_sI, hL_sI, hR_sI, hI_sI, hN_sI, hU_sI, hK_sR, hL_sR, hI_sR, hR_sR, hN_sR, hU_sR, hK_sA, hL_sA, hR_sA, hI_sA, hN_sA, hU_sA, hI_nw, hN_nw, hN4, q3, q4]
  · rw [← e2 k hk, q5]
    unfold pgH; simp only [true_and, and_true, and_self, false_and, and_false, if_true, if_false, ↓reduceIte, Nat.add_eq_left, Nat.left_eq_add, Nat.add_left_cancel_iff, not_false_eq_true, not_true_eq_false, i_pc, List.cons_append, List.nil_append, List.length_cons, List.length_nil, Nat.reduceEqDiff, Nat.reduceAdd, Nat.reduceMul, Nat.reduceSub, Nat.reduceLeDiff, Nat.reduceLT, Int32.reduceLT, Int32.reduceLE, Int32.reduceAdd, Int32.reduceSub, reduceCtorEq, true_or, or_true, or_false, false_or, ne_eq, Nat.zero_le, hK_sI, hL_sI, hR_sI, hI_sI, hN_sI, hU_sI, hK_sR, hL_sR, hI_sR, hR_sR, hN_sR, hU_sR, hK_sA, hL_sA, hR_sA, hI_sA, hN_sA, hU_sA, hI_nw, hN_nw, hN4, q6]
theorem t_rp_acc (hT0 : T0 h n tx) (hN80 : 80 ≤ hN h) (hr : cAcc n (cProgL n tx 4 (sp0 h))) : ∃ g, Rn xs L (d + 41) 29 [.inr (some 6), .inr (some 4)] h (some (.inr (some (hN h))), g) ∧ Sm (hN h) (tH (bgR h n) (cProgL n tx 4 (sp0 h)).2) g ∧ hN g = hN h + 6 ∧ hU g = hU h + (15 + ((cProgL n tx 4 (sp0 h)).2.2.1 + (cProgL n tx 4 (sp0 h)).2.2.1)) ∧ PRO g (hN h) (cProgL n tx 4 (sp0 h)).2.2.1 (cProgL n tx 4 (sp0 h)).2.2.2.1 (aI (cProgL n tx 4 (sp0 h)).2) (aH (cProgL n tx 4 (sp0 h)).2) (aS (cProgL n tx 4 (sp0 h)).2) (aP (cProgL n tx 4 (sp0 h)).2) := by
  have hT := T0_TI hT0
  have h0 := hT
  obtain ⟨⟨k6, r0, r1, r2, r3, r4, r5⟩, ⟨k7, k8, k9, k10, k11, k5⟩, ⟨l7, l8, l9, l10, l11, l5⟩, h6, hn, htx⟩ := hT
  obtain ⟨c0, c1, c2, c3⟩ := hr
  have hb := bd_progl (n := n) (tx := tx) 4 _ (bd_sp0 (h := h)) c0
  have c1' : nI (cProgL n tx 4 (sp0 h)).2.1 = nI n := by rw [c1]
  have hz : (cProgL n tx 4 (sp0 h)).2.2.1 ≤ 151 := hb.2.1
  obtain ⟨s2, hs2⟩ : ∃ s2, s2 = (cProgL n tx 4 (sp0 h)).2 := ⟨_, rfl⟩
  rw [← hs2] at c1' c2 c3 hz hb ⊢
  have n7 : ¬ 7 = hN h := by omega
  have n8 : ¬ 8 = hN h := by omega
  have n6 : ¬ 6 = hN h := by omega
  have m7 : ¬ 7 = hN h + 1 := by omega
  have m8 : ¬ 8 = hN h + 1 := by omega
  have m6 : ¬ 6 = hN h + 1 := by omega
  have eN : hN (tH (bgR h n) s2) = hN h := rfl
  have eM : hN (nw (nw (tH (bgR h n) s2) 4 0 4) 1 0 3) = hN h + 2 := rfl
  have g1 : ∀ o, o < hN h → hK (nw (nw (tH (bgR h n) s2) 4 0 4) 1 0 3) o = hK h o := fun o ho => by rw [hK_nw, hN_nw, eN, if_neg (by omega), hK_nw, eN, if_neg (by omega), th_K]; rfl
  have g2 : ∀ o, o < hN h → hL (nw (nw (tH (bgR h n) s2) 4 0 4) 1 0 3) o = hL h o := fun o ho => by rw [hL_nw, hN_nw, eN, if_neg (by omega), hL_nw, eN, if_neg (by omega), th_L]; rfl
  have g3 : ∀ o k, o < hN h → hI (nw (nw (tH (bgR h n) s2) 4 0 4) 1 0 3) o k = hI (tH (bgR h n) s2) o k := fun o k ho => by rw [hI_nw, hN_nw, eN, if_neg (by omega), hI_nw, eN, if_neg (by omega)]
  obtain ⟨f1, f2, e1, e2, hrc⟩ := t_code (xs := xs) (L := L) (d := d + 37) (g := nw (nw (tH (bgR h n) s2) 4 0 4) 1 0 3) (c := hN h + 1) (i := 7) (j := 8) (m := s2.2.1) (by rw [hK_nw, hN_nw, eN, if_pos rfl]) (by rw [eM]; omega) (by rw [g1 7 (by omega)]; exact k7) (by rw [g1 8 (by omega)]; exact k8) (by rw [g2 7 (by omega)]; rw [show hL h 7 = 151 from l7]; exact hz) (by rw [g2 8 (by omega)]; rw [show hL h 8 = 151 from l8]; exact hz) (by rw [g2 7 (by omega)]; rw [show hL h 7 = 151 from l7]; decide) (by rw [g2 8 (by omega)]; rw [show hL h 8 = 151 from l8]; decide) (by rw [eM]; omega) (by rw [eM]; omega)
  obtain ⟨gc, hgc⟩ : ∃ gc, gc = cdH (nw (nw (tH (bgR h n) s2) 4 0 4) 1 0 3) (hN h + 1) s2.2.1 f1 f2 := ⟨_, rfl⟩
  have hC : COD gc (hN h + 1) s2.2.1 (aI s2) (aH s2) := by
    rw [hgc]
    exact cd_COD (by rw [eM]) (by rw [hK_nw, hN_nw, eN, if_pos rfl]) (by omega) (fun k hk => by rw [e1 k hk, g3 7 k (by omega), th_7S]) (fun k hk => by rw [e2 k hk, g3 8 k (by omega), th_8S])
  have hN4 : hN gc = hN h + 4 := by rw [hgc, cd_N.1, eM]
  have hU4 : hU gc = hU h + (7 + (s2.2.1 + s2.2.1)) := by
    rw [hgc, cd_N.2]
    show hU h + 4 + 3 + _ = _
    omega
  have hS0 : Sm (hN h) (tH (bgR h n) s2) gc := by
    rw [hgc]
    exact sm_cd (by omega) (by rw [eM]; omega) (sm_nw (by rw [hN_nw, eN]; omega) (sm_nw (by rw [eN]; exact Nat.le_refl _) sm_rfl))
  have hkp : hK gc (hN h) = 4 := by
    have hS1 : Sm (hN h + 1) (nw (nw (tH (bgR h n) s2) 4 0 4) 1 0 3) gc := by
      rw [hgc]
      exact sm_cd (Nat.le_refl _) (by rw [eM]; omega) sm_rfl
    rw [(hS1 (hN h) (by omega)).1, hK_nw, hN_nw, eN, if_neg (by omega), hK_nw, eN, if_pos rfl]
  rw [← hgc] at hrc
  obtain ⟨f3, f4, e3, e4, hrp⟩ := t_prog (xs := xs) (L := L) (d := d + 37) (g := gc) (p := hN h) (c := hN h + 1) (i := 9) (j := 10) (v := nI s2.2.2.1) hkp (by rw [hN4]; omega) (by rw [(hS0 9 (by omega)).1, th_K]; exact k9) (by rw [(hS0 10 (by omega)).1, th_K]; exact k10) (by rw [(hS0 9 (by omega)).2.1, th_L]; exact l9) (by rw [(hS0 10 (by omega)).2.1, th_L]; exact l10) (by rw [hN4]; omega) (by rw [hN4]; omega)
  refine ⟨pgH gc (hN h) (hN h + 1) (nI s2.2.2.1) f3 f4, ?_, ?_, ?_, ?_, ?_⟩
  · refine t_rp_go (a1 := none) hT0 (t_prog_loop h0 4 0 _ (by omega) bd_sp0 (fun e => absurd (c0.symm.trans e) (by decide)) (fun h1 a2 => ?_))
    rw [← hs2]
    have hk6 : hK gc 6 = 7 := by rw [(hS0 6 (by omega)).1, th_K]; exact k6
    have hr2 : hR gc 6 2 = some 9 := by rw [(hS0 6 (by omega)).2.2.2, th_R]; exact r2
    have hr3 : hR gc 6 3 = some 10 := by rw [(hS0 6 (by omega)).2.2.2, th_R]; exact r3
    have hi9 : hI gc 6 9 = nI s2.2.2.1 := by rw [(hS0 6 (by omega)).2.2.1, th_69S]
    simp only [e_29_46, e_29_47, e_29_50, e_29_51, e_29_54, e_29_57, e_29_58, e_29_61, e_29_62, e_29_63, e_29_66, e_29_67, e_29_68, e_29_71, true_and, and_true, and_self, false_and, and_false, if_true, if_false, ↓reduceIte, Nat.add_eq_left, Nat.left_eq_add, Nat.add_left_cancel_iff, not_false_eq_true, not_true_eq_false, i_pc, List.cons_append, List.nil_append, List.length_cons, List.length_nil, Nat.reduceEqDiff, Nat.reduceAdd, Nat.reduceMul, Nat.reduceSub, Nat.reduceLeDiff, Nat.reduceLT, Int32.reduceLT, Int32.reduceLE, Int32.reduceAdd, Int32.reduceSub, reduceCtorEq, true_or, or_true, or_false, false_or, ne_eq, Nat.zero_le, th_K, th_L, th_R, th_67S, th_66, th_10S, k6, h6, r3, k10, l10, c1', c2, show vp_in (0 : Int32) 4 from vin (n := 0) (by decide) (by decide), show (0 : Int32).toNatClampNeg = 0 from by decide]
    refine ⟨_, t_fit (W := aP s2) h0 k10 l10 (fun k _ => th_10S), ?_⟩
    simp only [e_29_74, e_29_79, e_29_82, e_29_83, e_29_86, e_29_87, e_29_88, e_29_91, e_29_92, e_29_95, e_29_96, e_29_99, true_and, and_true, and_self, false_and, and_false, if_true, if_false, ↓reduceIte, Nat.add_eq_left, Nat.left_eq_add, Nat.add_left_cancel_iff, not_false_eq_true, not_true_eq_false, i_pc, List.cons_append, List.nil_append, List.length_cons, List.length_nil, Nat.reduceEqDiff, Nat.reduceAdd, Nat.reduceMul, Nat.reduceSub, Nat.reduceLeDiff, Nat.reduceLT, Int32.reduceLT, Int32.reduceLE, Int32.reduceAdd, Int32.reduceSub, reduceCtorEq, true_or, or_true, or_false, false_or, ne_eq, Nat.zero_le, Option.toList, c3, bI_tt, hK_nw, hR_nw, hI_nw, hN_nw, th_K, th_R, th_68S, eN, n6, m6, k6, r0, r1, show ((1 : Int32) = 0) = False from by decide]
    refine ⟨_, hrc, ?_⟩
    simp only [e_29_102, e_29_103, e_29_106, e_29_107, e_29_110, e_29_111, e_29_114, true_and, and_true, and_self, false_and, and_false, if_true, if_false, ↓reduceIte, Nat.add_eq_left, Nat.left_eq_add, Nat.add_left_cancel_iff, not_false_eq_true, not_true_eq_false, i_pc, List.cons_append, List.nil_append, List.length_cons, List.length_nil, Nat.reduceEqDiff, Nat.reduceAdd, Nat.reduceMul, Nat.reduceSub, Nat.reduceLeDiff, Nat.reduceLT, Int32.reduceLT, Int32.reduceLE, Int32.reduceAdd, Int32.reduceSub, reduceCtorEq, true_or, or_true, or_false, false_or, ne_eq, Nat.zero_le, Option.toList, hk6, hr2, hr3, hi9, hkp]
    refine ⟨_, hrp, ?_⟩
    simp only [e_29_117, true_and, and_true, and_self, false_and, and_false, if_true, if_false, ↓reduceIte, Nat.add_eq_left, Nat.left_eq_add, Nat.add_left_cancel_iff, not_false_eq_true, not_true_eq_false, i_pc, List.cons_append, List.nil_append, List.length_cons, List.length_nil, Nat.reduceEqDiff, Nat.reduceAdd, Nat.reduceMul, Nat.reduceSub, Nat.reduceLeDiff, Nat.reduceLT, Int32.reduceLT, Int32.reduceLE, Int32.reduceAdd, Int32.reduceSub, reduceCtorEq, true_or, or_true, or_false, false_or, ne_eq, Nat.zero_le, Option.toList]
  · exact sm_pg (Nat.le_refl _) (by rw [hN4]; omega) hS0
  · rw [pg_N.1, hN4]
  · rw [pg_N.2, hU4]
    omega
  · exact pg_PRO hN4 hkp hC (fun k hk => by rw [e3 k hk, (hS0 9 (by omega)).2.2.1, th_9S]) (fun k hk => by rw [e4 k hk, (hS0 10 (by omega)).2.2.1, th_10S])
end TL

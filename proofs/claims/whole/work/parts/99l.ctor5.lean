-- THE MODEL's constructor
section MC
variable {xs : Nat → Int32} {L d : Nat} {h g h0 : Hp} {res : Res}
def mcH : List (Nat × Nat × Nat) → Hp → Hp
  | [], h => h
  | (s, k, n) :: r, h => mcH r (sR (nw h k n n) 49 s (some (hN h)))
def mcN : List (Nat × Nat × Nat) → Nat
  | [] => 0
  | (_, _, n) :: r => n + mcN r
def mcA : Nat → List (Nat × Nat × Nat) → Hp → Prop
  | _, [], _ => True
  | i, (s, k, n) :: r, h => (hR h 49 s = some i ∧ hK h i = k ∧ hL h i = n) ∧ mcA (i + 1) r h
def mcF (s : Nat) : List (Nat × Nat × Nat) → Prop
  | [] => True
  | (t, _, _) :: r => ¬ s = t ∧ mcF s r
def mcD : List (Nat × Nat × Nat) → Prop
  | [] => True
  | (s, _, _) :: r => mcF s r ∧ mcD r
theorem mc_cons {i s k n : Nat} {r : List (Nat × Nat × Nat)} (hn : hN h = i) : mcH ((s, k, n) :: r) h = mcH r (sR (nw h k n n) 49 s (some i)) := by
  show mcH r (sR (nw h k n n) 49 s (some (hN h))) = _
  rw [hn]
theorem mc_keep : ∀ (l : List (Nat × Nat × Nat)) (h : Hp), 49 < hN h → (∀ o, o < hN h → hK (mcH l h) o = hK h o ∧ hL (mcH l h) o = hL h o) ∧ (∀ o k, o < hN h → ¬ o = 49 → hR (mcH l h) o k = hR h o k) ∧ (∀ s, mcF s l → hR (mcH l h) 49 s = hR h 49 s) ∧ hN (mcH l h) = hN h + l.length ∧ hU (mcH l h) = hU h + mcN l ∧ (Zr h → Zr (mcH l h)) := by
  intro l
  induction l with
  | nil => intro h _; exact ⟨fun _ _ => ⟨rfl, rfl⟩, fun _ _ _ _ => rfl, fun _ _ => rfl, rfl, rfl, id⟩
  | cons x r ih =>
    obtain ⟨s, k, n⟩ := x
    intro h hp
    have hn1 : hN (sR (nw h k n n) 49 s (some (hN h))) = hN h + 1 := by rw [hN_sR, hN_nw]
    obtain ⟨i1, i2, i3, i4, i5, i6⟩ := ih (sR (nw h k n n) 49 s (some (hN h))) (by omega)
    rw [hn1] at i1 i2 i4
    refine ⟨fun o ho => ?_, fun o k' ho h49 => ?_, fun s' hs => ?_, ?_, ?_, fun z => i6 (zr_sR (zr_nw z))⟩
    · obtain ⟨e1, e2⟩ := i1 o (by omega)
      exact ⟨e1.trans (by rw [hK_sR, hK_nw, if_neg (by omega)]), e2.trans (by rw [hL_sR, hL_nw, if_neg (by omega)])⟩
    · exact (i2 o k' (by omega) h49).trans (by rw [hR_sR, if_neg (by omega), hR_nw, if_neg (by omega)])
    · exact (i3 s' hs.2).trans (by rw [hR_sR, if_neg (fun z => hs.1 z.2), hR_nw, if_neg (by omega)])
    · refine i4.trans ?_
      rw [List.length_cons]; omega
    · refine i5.trans ?_
      rw [hU_sR, hU_nw]
      show hU h + n + mcN r = hU h + (n + mcN r)
      omega
theorem mc_all : ∀ (l : List (Nat × Nat × Nat)) (i : Nat) (h : Hp), 49 < i → hN h = i → mcD l → mcA i l (mcH l h) := by
  intro l
  induction l with
  | nil => intro _ _ _ _ _; trivial
  | cons x r ih =>
    obtain ⟨s, k, n⟩ := x
    intro i h hi hn hd
    rw [mc_cons hn]
    have hn1 : hN (sR (nw h k n n) 49 s (some i)) = i + 1 := by rw [hN_sR, hN_nw, hn]
    obtain ⟨i1, i2, i3, i4, _⟩ := mc_keep r (sR (nw h k n n) 49 s (some i)) (by omega)
    obtain ⟨e1, e2⟩ := i1 i (by omega)
    refine ⟨⟨(i3 s hd.1).trans (by rw [hR_sR, if_pos ⟨rfl, rfl⟩]), e1.trans (by rw [hK_sR, hK_nw, if_pos hn.symm]), e2.trans (by rw [hL_sR, hL_nw, if_pos hn.symm])⟩, ih (i + 1) _ (by omega) hn1 hd.2⟩
def mcL : List (Nat × Nat × Nat) := [(1, 21, 150), (2, 21, 6384), (6, 20, 152), (7, 20, 152), (8, 20, 152), (9, 20, 152), (10, 20, 4), (11, 20, 4), (12, 20, 8), (13, 20, 8), (14, 20, 6), (15, 20, 6), (16, 20, 2), (17, 20, 12), (18, 20, 12), (19, 20, 12), (20, 20, 72), (21, 20, 12), (22, 20, 72), (23, 21, 72), (24, 20, 72), (25, 20, 72), (26, 20, 216), (35, 22, 40), (36, 22, 40), (37, 22, 40), (38, 20, 40), (39, 20, 40), (41, 20, 16), (43, 20, 16)]
theorem mc_d : mcD mcL := by
  simp only [mcL, mcD, mcF, Nat.reduceEqDiff, not_false_eq_true, and_self]
theorem mc_mo (hk : hK h 49 = 9) (ha : mcA 50 mcL h) : MO h := by
  obtain ⟨⟨r50, k50, l50⟩, ⟨r51, k51, l51⟩, ⟨r52, k52, l52⟩, ⟨r53, k53, l53⟩, ⟨r54, k54, l54⟩, ⟨r55, k55, l55⟩, ⟨r56, k56, l56⟩, ⟨r57, k57, l57⟩, ⟨r58, k58, l58⟩, ⟨r59, k59, l59⟩, ⟨r60, k60, l60⟩, ⟨r61, k61, l61⟩, ⟨r62, k62, l62⟩, ⟨r63, k63, l63⟩, ⟨r64, k64, l64⟩, ⟨r65, k65, l65⟩, ⟨r66, k66, l66⟩, ⟨r67, k67, l67⟩, ⟨r68, k68, l68⟩, ⟨r69, k69, l69⟩, ⟨r70, k70, l70⟩, ⟨r71, k71, l71⟩, ⟨r72, k72, l72⟩, ⟨r73, k73, l73⟩, ⟨r74, k74, l74⟩, ⟨r75, k75, l75⟩, ⟨r76, k76, l76⟩, ⟨r77, k77, l77⟩, ⟨r78, k78, l78⟩, ⟨r79, k79, l79⟩, _⟩ := ha
  exact ⟨hk, r50, k50, l50, r51, k51, l51, r52, k52, l52, r53, k53, l53, r54, k54, l54, r55, k55, l55, r56, k56, l56, r57, k57, l57, r58, k58, l58, r59, k59, l59, r60, k60, l60, r61, k61, l61, r62, k62, l62, r63, k63, l63, r64, k64, l64, r65, k65, l65, r66, k66, l66, r67, k67, l67, r68, k68, l68, r69, k69, l69, r70, k70, l70, r71, k71, l71, r72, k72, l72, r73, k73, l73, r74, k74, l74, r75, k75, l75, r76, k76, l76, r77, k77, l77, r78, k78, l78, r79, k79, l79⟩
theorem c_model_run (hk : hK h 49 = 9) (hn : hN h = 50) : Rn xs L (d + 1) 75 [.inr (some 49)] h (none, mcH mcL h) := by
  rw [i_rn]
  show X xs L d 75 (0, [some (.inr (some 49))], [], h) _
  simp only [e_75_0, e_75_1, true_and, and_true, and_self, false_and, and_false, if_true, if_false, ↓reduceIte, Nat.add_eq_left, Nat.left_eq_add, Nat.add_left_cancel_iff, not_false_eq_true, not_true_eq_false, i_pc, List.cons_append, List.nil_append, List.length_cons, List.length_nil, Nat.reduceEqDiff, Nat.reduceAdd, Nat.reduceMul, Nat.reduceSub, Nat.reduceLeDiff, Nat.reduceLT, Int32.reduceLT, Int32.reduceLE, Int32.reduceAdd, Int32.reduceSub, reduceCtorEq, true_or, or_true, or_false, false_or, ne_eq, Nat.zero_le, hk]
  unfold mcL
  have q_0 : hK (nw h 21 150 150) 49 = 9 := by rw [hK_nw, hn, if_neg (by decide)]; exact hk
  simp only [e_75_4, e_75_5, e_75_8, e_75_10, true_and, and_true, and_self, false_and, and_false, if_true, if_false, ↓reduceIte, Nat.add_eq_left, Nat.left_eq_add, Nat.add_left_cancel_iff, not_false_eq_true, not_true_eq_false, i_pc, List.cons_append, List.nil_append, List.length_cons, List.length_nil, Nat.reduceEqDiff, Nat.reduceAdd, Nat.reduceMul, Nat.reduceSub, Nat.reduceLeDiff, Nat.reduceLT, Int32.reduceLT, Int32.reduceLE, Int32.reduceAdd, Int32.reduceSub, reduceCtorEq, true_or, or_true, or_false, false_or, ne_eq, Nat.zero_le, hn, q_0, show (150 : Int32).toNatClampNeg = 150 from by decide, show ((150 : Int32) < 0) = False from by decide]
  rw [mc_cons hn]
  have hk_1 : hK (sR (nw h 21 150 150) 49 1 (some 50)) 49 = 9 := q_0
  have hn_1 : hN (sR (nw h 21 150 150) 49 1 (some 50)) = 51 := by rw [hN_sR, hN_nw, hn]
  clear q_0 hk hn
  generalize sR (nw h 21 150 150) 49 1 (some 50) = h_1 at *
  have q_1 : hK (nw h_1 21 6384 6384) 49 = 9 := by rw [hK_nw, hn_1, if_neg (by decide)]; exact hk_1
  simp only [e_75_13, e_75_14, e_75_17, e_75_19, true_and, and_true, and_self, false_and, and_false, if_true, if_false, ↓reduceIte, Nat.add_eq_left, Nat.left_eq_add, Nat.add_left_cancel_iff, not_false_eq_true, not_true_eq_false, i_pc, List.cons_append, List.nil_append, List.length_cons, List.length_nil, Nat.reduceEqDiff, Nat.reduceAdd, Nat.reduceMul, Nat.reduceSub, Nat.reduceLeDiff, Nat.reduceLT, Int32.reduceLT, Int32.reduceLE, Int32.reduceAdd, Int32.reduceSub, reduceCtorEq, true_or, or_true, or_false, false_or, ne_eq, Nat.zero_le, hn_1, q_1, show (6384 : Int32).toNatClampNeg = 6384 from by decide, show ((6384 : Int32) < 0) = False from by decide]
  rw [mc_cons hn_1]
  have hk_2 : hK (sR (nw h_1 21 6384 6384) 49 2 (some 51)) 49 = 9 := q_1
  have hn_2 : hN (sR (nw h_1 21 6384 6384) 49 2 (some 51)) = 52 := by rw [hN_sR, hN_nw, hn_1]
  clear q_1 hk_1 hn_1
  generalize sR (nw h_1 21 6384 6384) 49 2 (some 51) = h_2 at *
  have q_2 : hK (nw h_2 20 152 152) 49 = 9 := by rw [hK_nw, hn_2, if_neg (by decide)]; exact hk_2
  simp only [e_75_22, e_75_23, e_75_26, e_75_28, true_and, and_true, and_self, false_and, and_false, if_true, if_false, ↓reduceIte, Nat.add_eq_left, Nat.left_eq_add, Nat.add_left_cancel_iff, not_false_eq_true, not_true_eq_false, i_pc, List.cons_append, List.nil_append, List.length_cons, List.length_nil, Nat.reduceEqDiff, Nat.reduceAdd, Nat.reduceMul, Nat.reduceSub, Nat.reduceLeDiff, Nat.reduceLT, Int32.reduceLT, Int32.reduceLE, Int32.reduceAdd, Int32.reduceSub, reduceCtorEq, true_or, or_true, or_false, false_or, ne_eq, Nat.zero_le, hn_2, q_2, show (152 : Int32).toNatClampNeg = 152 from by decide, show ((152 : Int32) < 0) = False from by decide]
  rw [mc_cons hn_2]
  have hk_3 : hK (sR (nw h_2 20 152 152) 49 6 (some 52)) 49 = 9 := q_2
  have hn_3 : hN (sR (nw h_2 20 152 152) 49 6 (some 52)) = 53 := by rw [hN_sR, hN_nw, hn_2]
  clear q_2 hk_2 hn_2
  generalize sR (nw h_2 20 152 152) 49 6 (some 52) = h_3 at *
  have q_3 : hK (nw h_3 20 152 152) 49 = 9 := by rw [hK_nw, hn_3, if_neg (by decide)]; exact hk_3
  simp only [e_75_31, e_75_32, e_75_35, e_75_37, true_and, and_true, and_self, false_and, and_false, if_true, if_false, ↓reduceIte, Nat.add_eq_left, Nat.left_eq_add, Nat.add_left_cancel_iff, not_false_eq_true, not_true_eq_false, i_pc, List.cons_append, List.nil_append, List.length_cons, List.length_nil, Nat.reduceEqDiff, Nat.reduceAdd, Nat.reduceMul, Nat.reduceSub, Nat.reduceLeDiff, Nat.reduceLT, Int32.reduceLT, Int32.reduceLE, Int32.reduceAdd, Int32.reduceSub, reduceCtorEq, true_or, or_true, or_false, false_or, ne_eq, Nat.zero_le, hn_3, q_3, show (152 : Int32).toNatClampNeg = 152 from by decide, show ((152 : Int32) < 0) = False from by decide]
  rw [mc_cons hn_3]
  have hk_4 : hK (sR (nw h_3 20 152 152) 49 7 (some 53)) 49 = 9 := q_3
  have hn_4 : hN (sR (nw h_3 20 152 152) 49 7 (some 53)) = 54 := by rw [hN_sR, hN_nw, hn_3]
  clear q_3 hk_3 hn_3
  generalize sR (nw h_3 20 152 152) 49 7 (some 53) = h_4 at *
  have q_4 : hK (nw h_4 20 152 152) 49 = 9 := by rw [hK_nw, hn_4, if_neg (by decide)]; exact hk_4
  simp only [e_75_40, e_75_41, e_75_44, e_75_46, true_and, and_true, and_self, false_and, and_false, if_true, if_false, ↓reduceIte, Nat.add_eq_left, Nat.left_eq_add, Nat.add_left_cancel_iff, not_false_eq_true, not_true_eq_false, i_pc, List.cons_append, List.nil_append, List.length_cons, List.length_nil, Nat.reduceEqDiff, Nat.reduceAdd, Nat.reduceMul, Nat.reduceSub, Nat.reduceLeDiff, Nat.reduceLT, Int32.reduceLT, Int32.reduceLE, Int32.reduceAdd, Int32.reduceSub, reduceCtorEq, true_or, or_true, or_false, false_or, ne_eq, Nat.zero_le, hn_4, q_4, show (152 : Int32).toNatClampNeg = 152 from by decide, show ((152 : Int32) < 0) = False from by decide]
  rw [mc_cons hn_4]
  have hk_5 : hK (sR (nw h_4 20 152 152) 49 8 (some 54)) 49 = 9 := q_4
  have hn_5 : hN (sR (nw h_4 20 152 152) 49 8 (some 54)) = 55 := by rw [hN_sR, hN_nw, hn_4]
  clear q_4 hk_4 hn_4
  generalize sR (nw h_4 20 152 152) 49 8 (some 54) = h_5 at *
  have q_5 : hK (nw h_5 20 152 152) 49 = 9 := by rw [hK_nw, hn_5, if_neg (by decide)]; exact hk_5
  simp only [e_75_49, e_75_50, e_75_53, e_75_55, true_and, and_true, and_self, false_and, and_false, if_true, if_false, ↓reduceIte, Nat.add_eq_left, Nat.left_eq_add, Nat.add_left_cancel_iff, not_false_eq_true, not_true_eq_false, i_pc, List.cons_append, List.nil_append, List.length_cons, List.length_nil, Nat.reduceEqDiff, Nat.reduceAdd, Nat.reduceMul, Nat.reduceSub, Nat.reduceLeDiff, Nat.reduceLT, Int32.reduceLT, Int32.reduceLE, Int32.reduceAdd, Int32.reduceSub, reduceCtorEq, true_or, or_true, or_false, false_or, ne_eq, Nat.zero_le, hn_5, q_5, show (152 : Int32).toNatClampNeg = 152 from by decide, show ((152 : Int32) < 0) = False from by decide]
  rw [mc_cons hn_5]
  have hk_6 : hK (sR (nw h_5 20 152 152) 49 9 (some 55)) 49 = 9 := q_5
  have hn_6 : hN (sR (nw h_5 20 152 152) 49 9 (some 55)) = 56 := by rw [hN_sR, hN_nw, hn_5]
  clear q_5 hk_5 hn_5
  generalize sR (nw h_5 20 152 152) 49 9 (some 55) = h_6 at *
  have q_6 : hK (nw h_6 20 4 4) 49 = 9 := by rw [hK_nw, hn_6, if_neg (by decide)]; exact hk_6
  simp only [e_75_58, e_75_59, e_75_60, e_75_62, true_and, and_true, and_self, false_and, and_false, if_true, if_false, ↓reduceIte, Nat.add_eq_left, Nat.left_eq_add, Nat.add_left_cancel_iff, not_false_eq_true, not_true_eq_false, i_pc, List.cons_append, List.nil_append, List.length_cons, List.length_nil, Nat.reduceEqDiff, Nat.reduceAdd, Nat.reduceMul, Nat.reduceSub, Nat.reduceLeDiff, Nat.reduceLT, Int32.reduceLT, Int32.reduceLE, Int32.reduceAdd, Int32.reduceSub, reduceCtorEq, true_or, or_true, or_false, false_or, ne_eq, Nat.zero_le, hn_6, q_6, show (4 : Int32).toNatClampNeg = 4 from by decide, show ((4 : Int32) < 0) = False from by decide]
  rw [mc_cons hn_6]
  have hk_7 : hK (sR (nw h_6 20 4 4) 49 10 (some 56)) 49 = 9 := q_6
  have hn_7 : hN (sR (nw h_6 20 4 4) 49 10 (some 56)) = 57 := by rw [hN_sR, hN_nw, hn_6]
  clear q_6 hk_6 hn_6
  generalize sR (nw h_6 20 4 4) 49 10 (some 56) = h_7 at *
  have q_7 : hK (nw h_7 20 4 4) 49 = 9 := by rw [hK_nw, hn_7, if_neg (by decide)]; exact hk_7
  simp only [e_75_65, e_75_66, e_75_67, e_75_69, true_and, and_true, and_self, false_and, and_false, if_true, if_false, ↓reduceIte, Nat.add_eq_left, Nat.left_eq_add, Nat.add_left_cancel_iff, not_false_eq_true, not_true_eq_false, i_pc, List.cons_append, List.nil_append, List.length_cons, List.length_nil, Nat.reduceEqDiff, Nat.reduceAdd, Nat.reduceMul, Nat.reduceSub, Nat.reduceLeDiff, Nat.reduceLT, Int32.reduceLT, Int32.reduceLE, Int32.reduceAdd, Int32.reduceSub, reduceCtorEq, true_or, or_true, or_false, false_or, ne_eq, Nat.zero_le, hn_7, q_7, show (4 : Int32).toNatClampNeg = 4 from by decide, show ((4 : Int32) < 0) = False from by decide]
  rw [mc_cons hn_7]
  have hk_8 : hK (sR (nw h_7 20 4 4) 49 11 (some 57)) 49 = 9 := q_7
  have hn_8 : hN (sR (nw h_7 20 4 4) 49 11 (some 57)) = 58 := by rw [hN_sR, hN_nw, hn_7]
  clear q_7 hk_7 hn_7
  generalize sR (nw h_7 20 4 4) 49 11 (some 57) = h_8 at *
  have q_8 : hK (nw h_8 20 8 8) 49 = 9 := by rw [hK_nw, hn_8, if_neg (by decide)]; exact hk_8
  simp only [e_75_72, e_75_73, e_75_75, e_75_77, true_and, and_true, and_self, false_and, and_false, if_true, if_false, ↓reduceIte, Nat.add_eq_left, Nat.left_eq_add, Nat.add_left_cancel_iff, not_false_eq_true, not_true_eq_false, i_pc, List.cons_append, List.nil_append, List.length_cons, List.length_nil, Nat.reduceEqDiff, Nat.reduceAdd, Nat.reduceMul, Nat.reduceSub, Nat.reduceLeDiff, Nat.reduceLT, Int32.reduceLT, Int32.reduceLE, Int32.reduceAdd, Int32.reduceSub, reduceCtorEq, true_or, or_true, or_false, false_or, ne_eq, Nat.zero_le, hn_8, q_8, show (8 : Int32).toNatClampNeg = 8 from by decide, show ((8 : Int32) < 0) = False from by decide]
  rw [mc_cons hn_8]
  have hk_9 : hK (sR (nw h_8 20 8 8) 49 12 (some 58)) 49 = 9 := q_8
  have hn_9 : hN (sR (nw h_8 20 8 8) 49 12 (some 58)) = 59 := by rw [hN_sR, hN_nw, hn_8]
  clear q_8 hk_8 hn_8
  generalize sR (nw h_8 20 8 8) 49 12 (some 58) = h_9 at *
  have q_9 : hK (nw h_9 20 8 8) 49 = 9 := by rw [hK_nw, hn_9, if_neg (by decide)]; exact hk_9
  simp only [e_75_80, e_75_81, e_75_83, e_75_85, true_and, and_true, and_self, false_and, and_false, if_true, if_false, ↓reduceIte, Nat.add_eq_left, Nat.left_eq_add, Nat.add_left_cancel_iff, not_false_eq_true, not_true_eq_false, i_pc, List.cons_append, List.nil_append, List.length_cons, List.length_nil, Nat.reduceEqDiff, Nat.reduceAdd, Nat.reduceMul, Nat.reduceSub, Nat.reduceLeDiff, Nat.reduceLT, Int32.reduceLT, Int32.reduceLE, Int32.reduceAdd, Int32.reduceSub, reduceCtorEq, true_or, or_true, or_false, false_or, ne_eq, Nat.zero_le, hn_9, q_9, show (8 : Int32).toNatClampNeg = 8 from by decide, show ((8 : Int32) < 0) = False from by decide]
  rw [mc_cons hn_9]
  have hk_10 : hK (sR (nw h_9 20 8 8) 49 13 (some 59)) 49 = 9 := q_9
  have hn_10 : hN (sR (nw h_9 20 8 8) 49 13 (some 59)) = 60 := by rw [hN_sR, hN_nw, hn_9]
  clear q_9 hk_9 hn_9
  generalize sR (nw h_9 20 8 8) 49 13 (some 59) = h_10 at *
  have q_10 : hK (nw h_10 20 6 6) 49 = 9 := by rw [hK_nw, hn_10, if_neg (by decide)]; exact hk_10
  simp only [e_75_88, e_75_89, e_75_91, e_75_93, true_and, and_true, and_self, false_and, and_false, if_true, if_false, ↓reduceIte, Nat.add_eq_left, Nat.left_eq_add, Nat.add_left_cancel_iff, not_false_eq_true, not_true_eq_false, i_pc, List.cons_append, List.nil_append, List.length_cons, List.length_nil, Nat.reduceEqDiff, Nat.reduceAdd, Nat.reduceMul, Nat.reduceSub, Nat.reduceLeDiff, Nat.reduceLT, Int32.reduceLT, Int32.reduceLE, Int32.reduceAdd, Int32.reduceSub, reduceCtorEq, true_or, or_true, or_false, false_or, ne_eq, Nat.zero_le, hn_10, q_10, show (6 : Int32).toNatClampNeg = 6 from by decide, show ((6 : Int32) < 0) = False from by decide]
  rw [mc_cons hn_10]
  have hk_11 : hK (sR (nw h_10 20 6 6) 49 14 (some 60)) 49 = 9 := q_10
  have hn_11 : hN (sR (nw h_10 20 6 6) 49 14 (some 60)) = 61 := by rw [hN_sR, hN_nw, hn_10]
  clear q_10 hk_10 hn_10
  generalize sR (nw h_10 20 6 6) 49 14 (some 60) = h_11 at *
  have q_11 : hK (nw h_11 20 6 6) 49 = 9 := by rw [hK_nw, hn_11, if_neg (by decide)]; exact hk_11
  simp only [e_75_96, e_75_97, e_75_99, e_75_101, true_and, and_true, and_self, false_and, and_false, if_true, if_false, ↓reduceIte, Nat.add_eq_left, Nat.left_eq_add, Nat.add_left_cancel_iff, not_false_eq_true, not_true_eq_false, i_pc, List.cons_append, List.nil_append, List.length_cons, List.length_nil, Nat.reduceEqDiff, Nat.reduceAdd, Nat.reduceMul, Nat.reduceSub, Nat.reduceLeDiff, Nat.reduceLT, Int32.reduceLT, Int32.reduceLE, Int32.reduceAdd, Int32.reduceSub, reduceCtorEq, true_or, or_true, or_false, false_or, ne_eq, Nat.zero_le, hn_11, q_11, show (6 : Int32).toNatClampNeg = 6 from by decide, show ((6 : Int32) < 0) = False from by decide]
  rw [mc_cons hn_11]
  have hk_12 : hK (sR (nw h_11 20 6 6) 49 15 (some 61)) 49 = 9 := q_11
  have hn_12 : hN (sR (nw h_11 20 6 6) 49 15 (some 61)) = 62 := by rw [hN_sR, hN_nw, hn_11]
  clear q_11 hk_11 hn_11
  generalize sR (nw h_11 20 6 6) 49 15 (some 61) = h_12 at *
  have q_12 : hK (nw h_12 20 2 2) 49 = 9 := by rw [hK_nw, hn_12, if_neg (by decide)]; exact hk_12
  simp only [e_75_104, e_75_105, e_75_106, e_75_108, true_and, and_true, and_self, false_and, and_false, if_true, if_false, ↓reduceIte, Nat.add_eq_left, Nat.left_eq_add, Nat.add_left_cancel_iff, not_false_eq_true, not_true_eq_false, i_pc, List.cons_append, List.nil_append, List.length_cons, List.length_nil, Nat.reduceEqDiff, Nat.reduceAdd, Nat.reduceMul, Nat.reduceSub, Nat.reduceLeDiff, Nat.reduceLT, Int32.reduceLT, Int32.reduceLE, Int32.reduceAdd, Int32.reduceSub, reduceCtorEq, true_or, or_true, or_false, false_or, ne_eq, Nat.zero_le, hn_12, q_12, show (2 : Int32).toNatClampNeg = 2 from by decide, show ((2 : Int32) < 0) = False from by decide]
  rw [mc_cons hn_12]
  have hk_13 : hK (sR (nw h_12 20 2 2) 49 16 (some 62)) 49 = 9 := q_12
  have hn_13 : hN (sR (nw h_12 20 2 2) 49 16 (some 62)) = 63 := by rw [hN_sR, hN_nw, hn_12]
  clear q_12 hk_12 hn_12
  generalize sR (nw h_12 20 2 2) 49 16 (some 62) = h_13 at *
  have q_13 : hK (nw h_13 20 12 12) 49 = 9 := by rw [hK_nw, hn_13, if_neg (by decide)]; exact hk_13
  simp only [e_75_111, e_75_112, e_75_114, e_75_116, true_and, and_true, and_self, false_and, and_false, if_true, if_false, ↓reduceIte, Nat.add_eq_left, Nat.left_eq_add, Nat.add_left_cancel_iff, not_false_eq_true, not_true_eq_false, i_pc, List.cons_append, List.nil_append, List.length_cons, List.length_nil, Nat.reduceEqDiff, Nat.reduceAdd, Nat.reduceMul, Nat.reduceSub, Nat.reduceLeDiff, Nat.reduceLT, Int32.reduceLT, Int32.reduceLE, Int32.reduceAdd, Int32.reduceSub, reduceCtorEq, true_or, or_true, or_false, false_or, ne_eq, Nat.zero_le, hn_13, q_13, show (12 : Int32).toNatClampNeg = 12 from by decide, show ((12 : Int32) < 0) = False from by decide]
  rw [mc_cons hn_13]
  have hk_14 : hK (sR (nw h_13 20 12 12) 49 17 (some 63)) 49 = 9 := q_13
  have hn_14 : hN (sR (nw h_13 20 12 12) 49 17 (some 63)) = 64 := by rw [hN_sR, hN_nw, hn_13]
  clear q_13 hk_13 hn_13
  generalize sR (nw h_13 20 12 12) 49 17 (some 63) = h_14 at *
  have q_14 : hK (nw h_14 20 12 12) 49 = 9 := by rw [hK_nw, hn_14, if_neg (by decide)]; exact hk_14
  simp only [e_75_119, e_75_120, e_75_122, e_75_124, true_and, and_true, and_self, false_and, and_false, if_true, if_false, ↓reduceIte, Nat.add_eq_left, Nat.left_eq_add, Nat.add_left_cancel_iff, not_false_eq_true, not_true_eq_false, i_pc, List.cons_append, List.nil_append, List.length_cons, List.length_nil, Nat.reduceEqDiff, Nat.reduceAdd, Nat.reduceMul, Nat.reduceSub, Nat.reduceLeDiff, Nat.reduceLT, Int32.reduceLT, Int32.reduceLE, Int32.reduceAdd, Int32.reduceSub, reduceCtorEq, true_or, or_true, or_false, false_or, ne_eq, Nat.zero_le, hn_14, q_14, show (12 : Int32).toNatClampNeg = 12 from by decide, show ((12 : Int32) < 0) = False from by decide]
  rw [mc_cons hn_14]
  have hk_15 : hK (sR (nw h_14 20 12 12) 49 18 (some 64)) 49 = 9 := q_14
  have hn_15 : hN (sR (nw h_14 20 12 12) 49 18 (some 64)) = 65 := by rw [hN_sR, hN_nw, hn_14]
  clear q_14 hk_14 hn_14
  generalize sR (nw h_14 20 12 12) 49 18 (some 64) = h_15 at *
  have q_15 : hK (nw h_15 20 12 12) 49 = 9 := by rw [hK_nw, hn_15, if_neg (by decide)]; exact hk_15
  simp only [e_75_127, e_75_128, e_75_130, e_75_132, true_and, and_true, and_self, false_and, and_false, if_true, if_false, ↓reduceIte, Nat.add_eq_left, Nat.left_eq_add, Nat.add_left_cancel_iff, not_false_eq_true, not_true_eq_false, i_pc, List.cons_append, List.nil_append, List.length_cons, List.length_nil, Nat.reduceEqDiff, Nat.reduceAdd, Nat.reduceMul, Nat.reduceSub, Nat.reduceLeDiff, Nat.reduceLT, Int32.reduceLT, Int32.reduceLE, Int32.reduceAdd, Int32.reduceSub, reduceCtorEq, true_or, or_true, or_false, false_or, ne_eq, Nat.zero_le, hn_15, q_15, show (12 : Int32).toNatClampNeg = 12 from by decide, show ((12 : Int32) < 0) = False from by decide]
  rw [mc_cons hn_15]
  have hk_16 : hK (sR (nw h_15 20 12 12) 49 19 (some 65)) 49 = 9 := q_15
  have hn_16 : hN (sR (nw h_15 20 12 12) 49 19 (some 65)) = 66 := by rw [hN_sR, hN_nw, hn_15]
  clear q_15 hk_15 hn_15
  generalize sR (nw h_15 20 12 12) 49 19 (some 65) = h_16 at *
  have q_16 : hK (nw h_16 20 72 72) 49 = 9 := by rw [hK_nw, hn_16, if_neg (by decide)]; exact hk_16
  simp only [e_75_135, e_75_136, e_75_138, e_75_140, true_and, and_true, and_self, false_and, and_false, if_true, if_false, ↓reduceIte, Nat.add_eq_left, Nat.left_eq_add, Nat.add_left_cancel_iff, not_false_eq_true, not_true_eq_false, i_pc, List.cons_append, List.nil_append, List.length_cons, List.length_nil, Nat.reduceEqDiff, Nat.reduceAdd, Nat.reduceMul, Nat.reduceSub, Nat.reduceLeDiff, Nat.reduceLT, Int32.reduceLT, Int32.reduceLE, Int32.reduceAdd, Int32.reduceSub, reduceCtorEq, true_or, or_true, or_false, false_or, ne_eq, Nat.zero_le, hn_16, q_16, show (72 : Int32).toNatClampNeg = 72 from by decide, show ((72 : Int32) < 0) = False from by decide]
  rw [mc_cons hn_16]
  have hk_17 : hK (sR (nw h_16 20 72 72) 49 20 (some 66)) 49 = 9 := q_16
  have hn_17 : hN (sR (nw h_16 20 72 72) 49 20 (some 66)) = 67 := by rw [hN_sR, hN_nw, hn_16]
  clear q_16 hk_16 hn_16
  generalize sR (nw h_16 20 72 72) 49 20 (some 66) = h_17 at *
  have q_17 : hK (nw h_17 20 12 12) 49 = 9 := by rw [hK_nw, hn_17, if_neg (by decide)]; exact hk_17
  simp only [e_75_143, e_75_144, e_75_146, e_75_148, true_and, and_true, and_self, false_and, and_false, if_true, if_false, ↓reduceIte, Nat.add_eq_left, Nat.left_eq_add, Nat.add_left_cancel_iff, not_false_eq_true, not_true_eq_false, i_pc, List.cons_append, List.nil_append, List.length_cons, List.length_nil, Nat.reduceEqDiff, Nat.reduceAdd, Nat.reduceMul, Nat.reduceSub, Nat.reduceLeDiff, Nat.reduceLT, Int32.reduceLT, Int32.reduceLE, Int32.reduceAdd, Int32.reduceSub, reduceCtorEq, true_or, or_true, or_false, false_or, ne_eq, Nat.zero_le, hn_17, q_17, show (12 : Int32).toNatClampNeg = 12 from by decide, show ((12 : Int32) < 0) = False from by decide]
  rw [mc_cons hn_17]
  have hk_18 : hK (sR (nw h_17 20 12 12) 49 21 (some 67)) 49 = 9 := q_17
  have hn_18 : hN (sR (nw h_17 20 12 12) 49 21 (some 67)) = 68 := by rw [hN_sR, hN_nw, hn_17]
  clear q_17 hk_17 hn_17
  generalize sR (nw h_17 20 12 12) 49 21 (some 67) = h_18 at *
  have q_18 : hK (nw h_18 20 72 72) 49 = 9 := by rw [hK_nw, hn_18, if_neg (by decide)]; exact hk_18
  simp only [e_75_151, e_75_152, e_75_154, e_75_156, true_and, and_true, and_self, false_and, and_false, if_true, if_false, ↓reduceIte, Nat.add_eq_left, Nat.left_eq_add, Nat.add_left_cancel_iff, not_false_eq_true, not_true_eq_false, i_pc, List.cons_append, List.nil_append, List.length_cons, List.length_nil, Nat.reduceEqDiff, Nat.reduceAdd, Nat.reduceMul, Nat.reduceSub, Nat.reduceLeDiff, Nat.reduceLT, Int32.reduceLT, Int32.reduceLE, Int32.reduceAdd, Int32.reduceSub, reduceCtorEq, true_or, or_true, or_false, false_or, ne_eq, Nat.zero_le, hn_18, q_18, show (72 : Int32).toNatClampNeg = 72 from by decide, show ((72 : Int32) < 0) = False from by decide]
  rw [mc_cons hn_18]
  have hk_19 : hK (sR (nw h_18 20 72 72) 49 22 (some 68)) 49 = 9 := q_18
  have hn_19 : hN (sR (nw h_18 20 72 72) 49 22 (some 68)) = 69 := by rw [hN_sR, hN_nw, hn_18]
  clear q_18 hk_18 hn_18
  generalize sR (nw h_18 20 72 72) 49 22 (some 68) = h_19 at *
  have q_19 : hK (nw h_19 21 72 72) 49 = 9 := by rw [hK_nw, hn_19, if_neg (by decide)]; exact hk_19
  simp only [e_75_159, e_75_160, e_75_162, e_75_164, true_and, and_true, and_self, false_and, and_false, if_true, if_false, ↓reduceIte, Nat.add_eq_left, Nat.left_eq_add, Nat.add_left_cancel_iff, not_false_eq_true, not_true_eq_false, i_pc, List.cons_append, List.nil_append, List.length_cons, List.length_nil, Nat.reduceEqDiff, Nat.reduceAdd, Nat.reduceMul, Nat.reduceSub, Nat.reduceLeDiff, Nat.reduceLT, Int32.reduceLT, Int32.reduceLE, Int32.reduceAdd, Int32.reduceSub, reduceCtorEq, true_or, or_true, or_false, false_or, ne_eq, Nat.zero_le, hn_19, q_19, show (72 : Int32).toNatClampNeg = 72 from by decide, show ((72 : Int32) < 0) = False from by decide]
  rw [mc_cons hn_19]
  have hk_20 : hK (sR (nw h_19 21 72 72) 49 23 (some 69)) 49 = 9 := q_19
  have hn_20 : hN (sR (nw h_19 21 72 72) 49 23 (some 69)) = 70 := by rw [hN_sR, hN_nw, hn_19]
  clear q_19 hk_19 hn_19
  generalize sR (nw h_19 21 72 72) 49 23 (some 69) = h_20 at *
  have q_20 : hK (nw h_20 20 72 72) 49 = 9 := by rw [hK_nw, hn_20, if_neg (by decide)]; exact hk_20
  simp only [e_75_167, e_75_168, e_75_170, e_75_172, true_and, and_true, and_self, false_and, and_false, if_true, if_false, ↓reduceIte, Nat.add_eq_left, Nat.left_eq_add, Nat.add_left_cancel_iff, not_false_eq_true, not_true_eq_false, i_pc, List.cons_append, List.nil_append, List.length_cons, List.length_nil, Nat.reduceEqDiff, Nat.reduceAdd, Nat.reduceMul, Nat.reduceSub, Nat.reduceLeDiff, Nat.reduceLT, Int32.reduceLT, Int32.reduceLE, Int32.reduceAdd, Int32.reduceSub, reduceCtorEq, true_or, or_true, or_false, false_or, ne_eq, Nat.zero_le, hn_20, q_20, show (72 : Int32).toNatClampNeg = 72 from by decide, show ((72 : Int32) < 0) = False from by decide]
  rw [mc_cons hn_20]
  have hk_21 : hK (sR (nw h_20 20 72 72) 49 24 (some 70)) 49 = 9 := q_20
  have hn_21 : hN (sR (nw h_20 20 72 72) 49 24 (some 70)) = 71 := by rw [hN_sR, hN_nw, hn_20]
  clear q_20 hk_20 hn_20
  generalize sR (nw h_20 20 72 72) 49 24 (some 70) = h_21 at *
  have q_21 : hK (nw h_21 20 72 72) 49 = 9 := by rw [hK_nw, hn_21, if_neg (by decide)]; exact hk_21
  simp only [e_75_175, e_75_176, e_75_178, e_75_180, true_and, and_true, and_self, false_and, and_false, if_true, if_false, ↓reduceIte, Nat.add_eq_left, Nat.left_eq_add, Nat.add_left_cancel_iff, not_false_eq_true, not_true_eq_false, i_pc, List.cons_append, List.nil_append, List.length_cons, List.length_nil, Nat.reduceEqDiff, Nat.reduceAdd, Nat.reduceMul, Nat.reduceSub, Nat.reduceLeDiff, Nat.reduceLT, Int32.reduceLT, Int32.reduceLE, Int32.reduceAdd, Int32.reduceSub, reduceCtorEq, true_or, or_true, or_false, false_or, ne_eq, Nat.zero_le, hn_21, q_21, show (72 : Int32).toNatClampNeg = 72 from by decide, show ((72 : Int32) < 0) = False from by decide]
  rw [mc_cons hn_21]
  have hk_22 : hK (sR (nw h_21 20 72 72) 49 25 (some 71)) 49 = 9 := q_21
  have hn_22 : hN (sR (nw h_21 20 72 72) 49 25 (some 71)) = 72 := by rw [hN_sR, hN_nw, hn_21]
  clear q_21 hk_21 hn_21
  generalize sR (nw h_21 20 72 72) 49 25 (some 71) = h_22 at *
  have q_22 : hK (nw h_22 20 216 216) 49 = 9 := by rw [hK_nw, hn_22, if_neg (by decide)]; exact hk_22
  simp only [e_75_183, e_75_184, e_75_187, e_75_189, true_and, and_true, and_self, false_and, and_false, if_true, if_false, ↓reduceIte, Nat.add_eq_left, Nat.left_eq_add, Nat.add_left_cancel_iff, not_false_eq_true, not_true_eq_false, i_pc, List.cons_append, List.nil_append, List.length_cons, List.length_nil, Nat.reduceEqDiff, Nat.reduceAdd, Nat.reduceMul, Nat.reduceSub, Nat.reduceLeDiff, Nat.reduceLT, Int32.reduceLT, Int32.reduceLE, Int32.reduceAdd, Int32.reduceSub, reduceCtorEq, true_or, or_true, or_false, false_or, ne_eq, Nat.zero_le, hn_22, q_22, show (216 : Int32).toNatClampNeg = 216 from by decide, show ((216 : Int32) < 0) = False from by decide]
  rw [mc_cons hn_22]
  have hk_23 : hK (sR (nw h_22 20 216 216) 49 26 (some 72)) 49 = 9 := q_22
  have hn_23 : hN (sR (nw h_22 20 216 216) 49 26 (some 72)) = 73 := by rw [hN_sR, hN_nw, hn_22]
  clear q_22 hk_22 hn_22
  generalize sR (nw h_22 20 216 216) 49 26 (some 72) = h_23 at *
  have q_23 : hK (nw h_23 22 40 40) 49 = 9 := by rw [hK_nw, hn_23, if_neg (by decide)]; exact hk_23
  simp only [e_75_192, e_75_193, e_75_195, e_75_197, true_and, and_true, and_self, false_and, and_false, if_true, if_false, ↓reduceIte, Nat.add_eq_left, Nat.left_eq_add, Nat.add_left_cancel_iff, not_false_eq_true, not_true_eq_false, i_pc, List.cons_append, List.nil_append, List.length_cons, List.length_nil, Nat.reduceEqDiff, Nat.reduceAdd, Nat.reduceMul, Nat.reduceSub, Nat.reduceLeDiff, Nat.reduceLT, Int32.reduceLT, Int32.reduceLE, Int32.reduceAdd, Int32.reduceSub, reduceCtorEq, true_or, or_true, or_false, false_or, ne_eq, Nat.zero_le, hn_23, q_23, show (40 : Int32).toNatClampNeg = 40 from by decide, show ((40 : Int32) < 0) = False from by decide]
  rw [mc_cons hn_23]
  have hk_24 : hK (sR (nw h_23 22 40 40) 49 35 (some 73)) 49 = 9 := q_23
  have hn_24 : hN (sR (nw h_23 22 40 40) 49 35 (some 73)) = 74 := by rw [hN_sR, hN_nw, hn_23]
  clear q_23 hk_23 hn_23
  generalize sR (nw h_23 22 40 40) 49 35 (some 73) = h_24 at *
  have q_24 : hK (nw h_24 22 40 40) 49 = 9 := by rw [hK_nw, hn_24, if_neg (by decide)]; exact hk_24
  simp only [e_75_200, e_75_201, e_75_203, e_75_205, true_and, and_true, and_self, false_and, and_false, if_true, if_false, ↓reduceIte, Nat.add_eq_left, Nat.left_eq_add, Nat.add_left_cancel_iff, not_false_eq_true, not_true_eq_false, i_pc, List.cons_append, List.nil_append, List.length_cons, List.length_nil, Nat.reduceEqDiff, Nat.reduceAdd, Nat.reduceMul, Nat.reduceSub, Nat.reduceLeDiff, Nat.reduceLT, Int32.reduceLT, Int32.reduceLE, Int32.reduceAdd, Int32.reduceSub, reduceCtorEq, true_or, or_true, or_false, false_or, ne_eq, Nat.zero_le, hn_24, q_24, show (40 : Int32).toNatClampNeg = 40 from by decide, show ((40 : Int32) < 0) = False from by decide]
  rw [mc_cons hn_24]
  have hk_25 : hK (sR (nw h_24 22 40 40) 49 36 (some 74)) 49 = 9 := q_24
  have hn_25 : hN (sR (nw h_24 22 40 40) 49 36 (some 74)) = 75 := by rw [hN_sR, hN_nw, hn_24]
  clear q_24 hk_24 hn_24
  generalize sR (nw h_24 22 40 40) 49 36 (some 74) = h_25 at *
  have q_25 : hK (nw h_25 22 40 40) 49 = 9 := by rw [hK_nw, hn_25, if_neg (by decide)]; exact hk_25
  simp only [e_75_208, e_75_209, e_75_211, e_75_213, true_and, and_true, and_self, false_and, and_false, if_true, if_false, ↓reduceIte, Nat.add_eq_left, Nat.left_eq_add, Nat.add_left_cancel_iff, not_false_eq_true, not_true_eq_false, i_pc, List.cons_append, List.nil_append, List.length_cons, List.length_nil, Nat.reduceEqDiff, Nat.reduceAdd, Nat.reduceMul, Nat.reduceSub, Nat.reduceLeDiff, Nat.reduceLT, Int32.reduceLT, Int32.reduceLE, Int32.reduceAdd, Int32.reduceSub, reduceCtorEq, true_or, or_true, or_false, false_or, ne_eq, Nat.zero_le, hn_25, q_25, show (40 : Int32).toNatClampNeg = 40 from by decide, show ((40 : Int32) < 0) = False from by decide]
  rw [mc_cons hn_25]
  have hk_26 : hK (sR (nw h_25 22 40 40) 49 37 (some 75)) 49 = 9 := q_25
  have hn_26 : hN (sR (nw h_25 22 40 40) 49 37 (some 75)) = 76 := by rw [hN_sR, hN_nw, hn_25]
  clear q_25 hk_25 hn_25
  generalize sR (nw h_25 22 40 40) 49 37 (some 75) = h_26 at *
  have q_26 : hK (nw h_26 20 40 40) 49 = 9 := by rw [hK_nw, hn_26, if_neg (by decide)]; exact hk_26
  simp only [e_75_216, e_75_217, e_75_219, e_75_221, true_and, and_true, and_self, false_and, and_false, if_true, if_false, ↓reduceIte, Nat.add_eq_left, Nat.left_eq_add, Nat.add_left_cancel_iff, not_false_eq_true, not_true_eq_false, i_pc, List.cons_append, List.nil_append, List.length_cons, List.length_nil, Nat.reduceEqDiff, Nat.reduceAdd, Nat.reduceMul, Nat.reduceSub, Nat.reduceLeDiff, Nat.reduceLT, Int32.reduceLT, Int32.reduceLE, Int32.reduceAdd, Int32.reduceSub, reduceCtorEq, true_or, or_true, or_false, false_or, ne_eq, Nat.zero_le, hn_26, q_26, show (40 : Int32).toNatClampNeg = 40 from by decide, show ((40 : Int32) < 0) = False from by decide]
  rw [mc_cons hn_26]
  have hk_27 : hK (sR (nw h_26 20 40 40) 49 38 (some 76)) 49 = 9 := q_26
  have hn_27 : hN (sR (nw h_26 20 40 40) 49 38 (some 76)) = 77 := by rw [hN_sR, hN_nw, hn_26]
  clear q_26 hk_26 hn_26
  generalize sR (nw h_26 20 40 40) 49 38 (some 76) = h_27 at *
  have q_27 : hK (nw h_27 20 40 40) 49 = 9 := by rw [hK_nw, hn_27, if_neg (by decide)]; exact hk_27
  simp only [e_75_224, e_75_225, e_75_227, e_75_229, true_and, and_true, and_self, false_and, and_false, if_true, if_false, ↓reduceIte, Nat.add_eq_left, Nat.left_eq_add, Nat.add_left_cancel_iff, not_false_eq_true, not_true_eq_false, i_pc, List.cons_append, List.nil_append, List.length_cons, List.length_nil, Nat.reduceEqDiff, Nat.reduceAdd, Nat.reduceMul, Nat.reduceSub, Nat.reduceLeDiff, Nat.reduceLT, Int32.reduceLT, Int32.reduceLE, Int32.reduceAdd, Int32.reduceSub, reduceCtorEq, true_or, or_true, or_false, false_or, ne_eq, Nat.zero_le, hn_27, q_27, show (40 : Int32).toNatClampNeg = 40 from by decide, show ((40 : Int32) < 0) = False from by decide]
  rw [mc_cons hn_27]
  have hk_28 : hK (sR (nw h_27 20 40 40) 49 39 (some 77)) 49 = 9 := q_27
  have hn_28 : hN (sR (nw h_27 20 40 40) 49 39 (some 77)) = 78 := by rw [hN_sR, hN_nw, hn_27]
  clear q_27 hk_27 hn_27
  generalize sR (nw h_27 20 40 40) 49 39 (some 77) = h_28 at *
  have q_28 : hK (nw h_28 20 16 16) 49 = 9 := by rw [hK_nw, hn_28, if_neg (by decide)]; exact hk_28
  simp only [e_75_232, e_75_233, e_75_235, e_75_237, true_and, and_true, and_self, false_and, and_false, if_true, if_false, ↓reduceIte, Nat.add_eq_left, Nat.left_eq_add, Nat.add_left_cancel_iff, not_false_eq_true, not_true_eq_false, i_pc, List.cons_append, List.nil_append, List.length_cons, List.length_nil, Nat.reduceEqDiff, Nat.reduceAdd, Nat.reduceMul, Nat.reduceSub, Nat.reduceLeDiff, Nat.reduceLT, Int32.reduceLT, Int32.reduceLE, Int32.reduceAdd, Int32.reduceSub, reduceCtorEq, true_or, or_true, or_false, false_or, ne_eq, Nat.zero_le, hn_28, q_28, show (16 : Int32).toNatClampNeg = 16 from by decide, show ((16 : Int32) < 0) = False from by decide]
  rw [mc_cons hn_28]
  have hk_29 : hK (sR (nw h_28 20 16 16) 49 41 (some 78)) 49 = 9 := q_28
  have hn_29 : hN (sR (nw h_28 20 16 16) 49 41 (some 78)) = 79 := by rw [hN_sR, hN_nw, hn_28]
  clear q_28 hk_28 hn_28
  generalize sR (nw h_28 20 16 16) 49 41 (some 78) = h_29 at *
  have q_29 : hK (nw h_29 20 16 16) 49 = 9 := by rw [hK_nw, hn_29, if_neg (by decide)]; exact hk_29
  simp only [e_75_240, e_75_241, e_75_243, e_75_245, true_and, and_true, and_self, false_and, and_false, if_true, if_false, ↓reduceIte, Nat.add_eq_left, Nat.left_eq_add, Nat.add_left_cancel_iff, not_false_eq_true, not_true_eq_false, i_pc, List.cons_append, List.nil_append, List.length_cons, List.length_nil, Nat.reduceEqDiff, Nat.reduceAdd, Nat.reduceMul, Nat.reduceSub, Nat.reduceLeDiff, Nat.reduceLT, Int32.reduceLT, Int32.reduceLE, Int32.reduceAdd, Int32.reduceSub, reduceCtorEq, true_or, or_true, or_false, false_or, ne_eq, Nat.zero_le, hn_29, q_29, show (16 : Int32).toNatClampNeg = 16 from by decide, show ((16 : Int32) < 0) = False from by decide]
  rw [mc_cons hn_29]
  have hk_30 : hK (sR (nw h_29 20 16 16) 49 43 (some 79)) 49 = 9 := q_29
  have hn_30 : hN (sR (nw h_29 20 16 16) 49 43 (some 79)) = 80 := by rw [hN_sR, hN_nw, hn_29]
  clear q_29 hk_29 hn_29
  generalize sR (nw h_29 20 16 16) 49 43 (some 79) = h_30 at *
  simp only [e_75_248, true_and, and_true, and_self, false_and, and_false, if_true, if_false, ↓reduceIte, Nat.add_eq_left, Nat.left_eq_add, Nat.add_left_cancel_iff, not_false_eq_true, not_true_eq_false, i_pc, List.cons_append, List.nil_append, List.length_cons, List.length_nil, Nat.reduceEqDiff, Nat.reduceAdd, Nat.reduceMul, Nat.reduceSub, Nat.reduceLeDiff, Nat.reduceLT, Int32.reduceLT, Int32.reduceLE, Int32.reduceAdd, Int32.reduceSub, reduceCtorEq, true_or, or_true, or_false, false_or, ne_eq, Nat.zero_le]
  rfl
theorem c_model (hk : hK h 49 = 9) (hn : hN h = 50) (hz : Zr h) : ∃ g, Rn xs L (d + 1) 75 [.inr (some 49)] h (none, g) ∧ MO g ∧ hN g = 80 ∧ hU g = hU h + 8036 ∧ Zr g ∧ ∀ o, o < 49 → hK g o = hK h o ∧ hL g o = hL h o ∧ ∀ k, hR g o k = hR h o k := by
  obtain ⟨i1, i2, i3, i4, i5, i6⟩ := mc_keep mcL h (by omega)
  refine ⟨mcH mcL h, c_model_run hk hn, mc_mo ?_ (mc_all mcL 50 h (by decide) hn mc_d), ?_, ?_, i6 hz, fun o ho => ⟨(i1 o (by omega)).1, (i1 o (by omega)).2, fun k => i2 o k (by omega) (by omega)⟩⟩
  · exact (i1 49 (by omega)).1.trans hk
  · rw [i4, hn]; rfl
  · rw [i5]; rfl
end MC

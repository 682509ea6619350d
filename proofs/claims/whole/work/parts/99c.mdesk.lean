-- the model: unstop, readRow
def cpH (r n : Nat) (h : Hp) : Hp := sA h 51 (fun j => if 152 * r ≤ j ∧ j < 152 * r + 152 then tS h n (j - 152 * r) else hI h 51 j)
/-- the typed text is a whole expression -/
def rowK (ar T : Nat → Int32) (n : Nat) : Bool := decide (0 < n) && (match sm ar T 0 true (0, 0, 0) [] with
  | some x => decide (x.1 = n)
  | none => false)
section ND
variable {xs : Nat → Int32} {L d : Nat} {h h1 h2 h3 : Hp} {res : Res} {l n r : Nat} {ar : Nat → Int32}
theorem m_unstop_no {b : Int32} (hO : MO h) (hr : Rn xs L (d + 2) 112 [.inr (some 49), .inl b] h (some (.inl (-1)), h)) : Rn xs L (d + 3) 111 [.inr (some 49), .inl b] h (some (.inl (-1)), h) := by
  rw [i_rn]
  show X xs L (d + 2) 111 (0, [some (.inr (some 49)), some (.inl b), none], [], h) _
  simp only [e_111_0, e_111_1, e_111_2, true_and, and_true, and_self, false_and, and_false, if_true, if_false, ↓reduceIte, Nat.add_eq_left, Nat.left_eq_add, Nat.add_left_cancel_iff, not_false_eq_true, not_true_eq_false, i_pc, List.cons_append, List.nil_append, List.length_cons, List.length_nil, Nat.reduceEqDiff, Nat.reduceAdd, Nat.reduceMul, Nat.reduceSub, Nat.reduceLeDiff, Nat.reduceLT, Int32.reduceLT, Int32.reduceLE, Int32.reduceAdd, Int32.reduceSub, reduceCtorEq, true_or, or_true, or_false, false_or, ne_eq, Nat.zero_le, mo_k hO]
  refine ⟨_, hr, ?_⟩
  simp only [e_111_5, e_111_6, e_111_7, e_111_17, e_111_18, true_and, and_true, and_self, false_and, and_false, if_true, if_false, ↓reduceIte, Nat.add_eq_left, Nat.left_eq_add, Nat.add_left_cancel_iff, not_false_eq_true, not_true_eq_false, i_pc, List.cons_append, List.nil_append, List.length_cons, List.length_nil, Nat.reduceEqDiff, Nat.reduceAdd, Nat.reduceMul, Nat.reduceSub, Nat.reduceLeDiff, Nat.reduceLT, Int32.reduceLT, Int32.reduceLE, Int32.reduceAdd, Int32.reduceSub, reduceCtorEq, true_or, or_true, or_false, false_or, ne_eq, Nat.zero_le, Option.toList, show ((-1 : Int32) < 0) = True from by decide]
theorem m_unstop {v : Int32} (hO : MO h) (hl : l < 40) (hr : Rn xs L (d + 2) 112 [.inr (some 49), .inl (nI l)] h (some (.inl v), h)) (hv : ¬ v < 0) : Rn xs L (d + 3) 111 [.inr (some 49), .inl (nI l)] h (some (.inl v), sI h 73 l 0) := by
  have q1 : vp_in (nI l) 40 := vin hl (by decide)
  rw [i_rn]
  show X xs L (d + 2) 111 (0, [some (.inr (some 49)), some (.inl (nI l)), none], [], h) _
  simp only [e_111_0, e_111_1, e_111_2, true_and, and_true, and_self, false_and, and_false, if_true, if_false, ↓reduceIte, Nat.add_eq_left, Nat.left_eq_add, Nat.add_left_cancel_iff, not_false_eq_true, not_true_eq_false, i_pc, List.cons_append, List.nil_append, List.length_cons, List.length_nil, Nat.reduceEqDiff, Nat.reduceAdd, Nat.reduceMul, Nat.reduceSub, Nat.reduceLeDiff, Nat.reduceLT, Int32.reduceLT, Int32.reduceLE, Int32.reduceAdd, Int32.reduceSub, reduceCtorEq, true_or, or_true, or_false, false_or, ne_eq, Nat.zero_le, mo_k hO]
  refine ⟨_, hr, ?_⟩
  simp only [e_111_5, e_111_6, e_111_7, e_111_10, e_111_11, e_111_14, e_111_15, e_111_16, e_111_17, e_111_18, true_and, and_true, and_self, false_and, and_false, if_true, if_false, ↓reduceIte, Nat.add_eq_left, Nat.left_eq_add, Nat.add_left_cancel_iff, not_false_eq_true, not_true_eq_false, i_pc, List.cons_append, List.nil_append, List.length_cons, List.length_nil, Nat.reduceEqDiff, Nat.reduceAdd, Nat.reduceMul, Nat.reduceSub, Nat.reduceLeDiff, Nat.reduceLT, Int32.reduceLT, Int32.reduceLE, Int32.reduceAdd, Int32.reduceSub, reduceCtorEq, true_or, or_true, or_false, false_or, ne_eq, Nat.zero_le, Option.toList, hv, mo_k hO, mo_r73 hO, mo_k73 hO, mo_l73 hO, q1, nI_cl (show l < 2 ^ 31 by omega), show vp_nar .boolean 0 = 0 from by decide]
theorem tS_TX (hn : n ≤ 150) (hc : ∀ j, j < n → 32 ≤ hI h 50 j ∧ hI h 50 j ≤ 126) : TX (tS h n) n := ⟨hn, fun p hp => by unfold tS; rw [if_pos hp]; exact hc p hp, fun p hp _ => if_neg (by omega)⟩
theorem m_row (hO : MO h) (hA : AR h ar) (hr : r < 42) (hn2 : n ≤ 150) (hn : hI h 49 0 = nI n) (hc : ∀ j, j < n → 32 ≤ hI h 50 j ∧ hI h 50 j ≤ 126) : ∃ F G, Rn xs L (d + 4) 109 [.inr (some 49), .inl (nI r)] h (some (.inl (bI (rowK ar (tS h n) n))), sI (eH (cpH r n h) F G) 49 0 0) := by
  have hO1 : MO (cpH r n h) := hO
  have e0 : hI (cpH r n h) 49 0 = nI n := by unfold cpH; rw [hI_sA, if_neg (by decide)]; exact hn
  have e1 : (152 : Int32) * nI r = nI (152 * r) := by rw [show (152 : Int32) = nI 152 from rfl, pk_mul]
  have hAR : AR (cpH r n h) ar := fun f hf => by
    unfold cpH
    rw [hI_sA, if_neg (by decide), hI_sA, if_neg (by decide)]
    exact hA f hf
  have hTT : ∀ j, j < 152 → hI (cpH r n h) 51 (152 * r + j) = tS h n j := fun j hj => by
    unfold cpH
    rw [hI_sA, if_pos rfl, if_pos (by omega), show 152 * r + j - 152 * r = j by omega]
  obtain ⟨F, G, hx⟩ := m_ex (xs := xs) (L := L) (d := d) (b := 152 * r) (p := 0) hO1 hAR (by omega) hTT (tS_TX hn2 hc) (Nat.zero_le _)
  by_cases c0 : n = 0
  · subst c0
    refine ⟨hI (cpH r 0 h) 60, hI (cpH r 0 h) 61, ?_⟩
    rw [show eH (cpH r 0 h) (hI (cpH r 0 h) 60) (hI (cpH r 0 h) 61) = cpH r 0 h by
      unfold eH
      rw [sA_id (fun j => by rw [hI_sA, if_neg (by decide)]), sA_id (fun j => rfl)], show rowK ar (tS h 0) 0 = false from rfl]
    rw [i_rn]
    show X xs L (d + 3) 109 (0, [some (.inr (some 49)), some (.inl (nI r)), none], [], h) _
    simp only [e_109_0, e_109_1, e_109_2, true_and, and_true, and_self, false_and, and_false, if_true, if_false, ↓reduceIte, Nat.add_eq_left, Nat.left_eq_add, Nat.add_left_cancel_iff, not_false_eq_true, not_true_eq_false, i_pc, List.cons_append, List.nil_append, List.length_cons, List.length_nil, Nat.reduceEqDiff, Nat.reduceAdd, Nat.reduceMul, Nat.reduceSub, Nat.reduceLeDiff, Nat.reduceLT, Int32.reduceLT, Int32.reduceLE, Int32.reduceAdd, Int32.reduceSub, reduceCtorEq, true_or, or_true, or_false, false_or, ne_eq, Nat.zero_le, mo_k hO]
    refine ⟨_, m_copy (n := 0) hr hn2 hO hn hc, ?_⟩
    rw [show sA h 51 (fun j => if 152 * r ≤ j ∧ j < 152 * r + 152 then tS h 0 (j - 152 * r) else hI h 51 j) = cpH r 0 h from rfl]
    simp only [e_109_5, e_109_6, e_109_9, e_109_38, e_109_39, e_109_40, e_109_41, e_109_42, e_109_45, e_109_46, true_and, and_true, and_self, false_and, and_false, if_true, if_false, ↓reduceIte, Nat.add_eq_left, Nat.left_eq_add, Nat.add_left_cancel_iff, not_false_eq_true, not_true_eq_false, i_pc, List.cons_append, List.nil_append, List.length_cons, List.length_nil, Nat.reduceEqDiff, Nat.reduceAdd, Nat.reduceMul, Nat.reduceSub, Nat.reduceLeDiff, Nat.reduceLT, Int32.reduceLT, Int32.reduceLE, Int32.reduceAdd, Int32.reduceSub, reduceCtorEq, true_or, or_true, or_false, false_or, ne_eq, Nat.zero_le, Option.toList, mo_k hO1, e0, show (nI 0 ≤ 0) = True from by decide, bI_ff]
  · have q1 : ¬ nI n ≤ 0 := nI_nle (by omega) (by omega)
    have hO2 : MO (eH (cpH r n h) F G) := hO
    have e2 : hI (eH (cpH r n h) F G) 49 0 = nI n := by
      unfold eH
      rw [hI_sA, if_neg (by decide), hI_sA, if_neg (by decide)]; exact e0
    refine ⟨F, G, ?_⟩
    rw [i_rn]
    show X xs L (d + 3) 109 (0, [some (.inr (some 49)), some (.inl (nI r)), none], [], h) _
    simp only [e_109_0, e_109_1, e_109_2, true_and, and_true, and_self, false_and, and_false, if_true, if_false, ↓reduceIte, Nat.add_eq_left, Nat.left_eq_add, Nat.add_left_cancel_iff, not_false_eq_true, not_true_eq_false, i_pc, List.cons_append, List.nil_append, List.length_cons, List.length_nil, Nat.reduceEqDiff, Nat.reduceAdd, Nat.reduceMul, Nat.reduceSub, Nat.reduceLeDiff, Nat.reduceLT, Int32.reduceLT, Int32.reduceLE, Int32.reduceAdd, Int32.reduceSub, reduceCtorEq, true_or, or_true, or_false, false_or, ne_eq, Nat.zero_le, mo_k hO]
    refine ⟨_, m_copy (n := n) hr hn2 hO hn hc, ?_⟩
    rw [show sA h 51 (fun j => if 152 * r ≤ j ∧ j < 152 * r + 152 then tS h n (j - 152 * r) else hI h 51 j) = cpH r n h from rfl]
    simp only [e_109_5, e_109_6, e_109_9, e_109_12, e_109_13, e_109_16, e_109_17, e_109_18, true_and, and_true, and_self, false_and, and_false, if_true, if_false, ↓reduceIte, Nat.add_eq_left, Nat.left_eq_add, Nat.add_left_cancel_iff, not_false_eq_true, not_true_eq_false, i_pc, List.cons_append, List.nil_append, List.length_cons, List.length_nil, Nat.reduceEqDiff, Nat.reduceAdd, Nat.reduceMul, Nat.reduceSub, Nat.reduceLeDiff, Nat.reduceLT, Int32.reduceLT, Int32.reduceLE, Int32.reduceAdd, Int32.reduceSub, reduceCtorEq, true_or, or_true, or_false, false_or, ne_eq, Nat.zero_le, Option.toList, mo_k hO1, e0, q1, e1]
    refine ⟨_, hx, ?_⟩
    have hrk : rowK ar (tS h n) n = (match sm ar (tS h n) 0 true (0, 0, 0) [] with
      | some x => decide (x.1 = n)
      | none => false) := by
      unfold rowK
      rw [decide_eq_true (show 0 < n by omega), Bool.true_and]
    cases hs : sm ar (tS h n) 0 true (0, 0, 0) [] with
    | none =>
      rw [hs] at hrk
      have q2 : ¬ (-1 : Int32) = nI (152 * r + n) := fun z => nI_m1 (by omega) z.symm
      rw [hrk]
      show X _ _ _ _ (21, _, [.inl (-1)], _) (some (.inl (bI false)), _)
      simp only [e_109_21, e_109_24, e_109_25, e_109_26, e_109_27, e_109_30, e_109_31, e_109_38, e_109_39, e_109_40, e_109_41, e_109_42, e_109_45, e_109_46, true_and, and_true, and_self, false_and, and_false, if_true, if_false, ↓reduceIte, Nat.add_eq_left, Nat.left_eq_add, Nat.add_left_cancel_iff, not_false_eq_true, not_true_eq_false, i_pc, List.cons_append, List.nil_append, List.length_cons, List.length_nil, Nat.reduceEqDiff, Nat.reduceAdd, Nat.reduceMul, Nat.reduceSub, Nat.reduceLeDiff, Nat.reduceLT, Int32.reduceLT, Int32.reduceLE, Int32.reduceAdd, Int32.reduceSub, reduceCtorEq, true_or, or_true, or_false, false_or, ne_eq, Nat.zero_le, mo_k hO2, e1, e2, nI_add, q2, bI_ff]
    | some x =>
      rw [hs] at hrk
      rw [hrk]
      show X _ _ _ _ (21, _, [.inl (nI (152 * r + x.1))], _) (some (.inl (bI (decide (x.1 = n)))), _)
      have hxn := (sm_rng (tS_TX hn2 hc) 152 0 true (0, 0, 0) [] x.1 x.2 (by omega) (Nat.zero_le _) hs).1
      by_cases c1 : x.1 = n
      · rw [bI_t c1, c1]
        simp only [e_109_21, e_109_24, e_109_25, e_109_26, e_109_27, e_109_30, e_109_31, e_109_34, e_109_35, e_109_38, e_109_39, e_109_40, e_109_41, e_109_42, e_109_45, e_109_46, true_and, and_true, and_self, false_and, and_false, if_true, if_false, ↓reduceIte, Nat.add_eq_left, Nat.left_eq_add, Nat.add_left_cancel_iff, not_false_eq_true, not_true_eq_false, i_pc, List.cons_append, List.nil_append, List.length_cons, List.length_nil, Nat.reduceEqDiff, Nat.reduceAdd, Nat.reduceMul, Nat.reduceSub, Nat.reduceLeDiff, Nat.reduceLT, Int32.reduceLT, Int32.reduceLE, Int32.reduceAdd, Int32.reduceSub, reduceCtorEq, true_or, or_true, or_false, false_or, ne_eq, Nat.zero_le, mo_k hO2, e1, e2, nI_add]
      · have q2 : ¬ nI (152 * r + x.1) = nI (152 * r + n) := fun z => c1 (by have := (nI_eq (by omega) (by omega)).mp z; omega)
        rw [bI_f c1]
        simp only [e_109_21, e_109_24, e_109_25, e_109_26, e_109_27, e_109_30, e_109_31, e_109_38, e_109_39, e_109_40, e_109_41, e_109_42, e_109_45, e_109_46, true_and, and_true, and_self, false_and, and_false, if_true, if_false, ↓reduceIte, Nat.add_eq_left, Nat.left_eq_add, Nat.add_left_cancel_iff, not_false_eq_true, not_true_eq_false, i_pc, List.cons_append, List.nil_append, List.length_cons, List.length_nil, Nat.reduceEqDiff, Nat.reduceAdd, Nat.reduceMul, Nat.reduceSub, Nat.reduceLeDiff, Nat.reduceLT, Int32.reduceLT, Int32.reduceLE, Int32.reduceAdd, Int32.reduceSub, reduceCtorEq, true_or, or_true, or_false, false_or, ne_eq, Nat.zero_le, mo_k hO2, e1, e2, nI_add, q2]
end ND

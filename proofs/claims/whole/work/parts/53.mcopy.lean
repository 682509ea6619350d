-- the model: copy of the typed text into a row
section MR
variable {xs : Nat → Int32} {L d : Nat} {h : Hp} {res : Res} {r n : Nat}
/-- the text's sign at k, ';' behind it -/
def tS (h : Hp) (n k : Nat) : Int32 := if k < n then hI h 50 k else 59
theorem m_copy_loop (hr : r < 42) (hn2 : n ≤ 150) : ∀ (m k : Nat) (h : Hp), k + m = 152 → MO h → hI h 49 0 = nI n → (∀ j, j < n → 32 ≤ hI h 50 j ∧ hI h 50 j ≤ 126) → X xs L d 81 (2, [some (.inr (some 49)), some (.inl (nI r)), some (.inl (nI k))], [], h) (none, sA h 51 (fun j => if 152 * r + k ≤ j ∧ j < 152 * r + 152 then tS h n (j - 152 * r) else hI h 51 j)) := by
  intro m
  induction m with
  | zero =>
    intro k h hk hO hn hc
    have hk2 : k = 152 := by omega
    subst hk2
    rw [sA_id (fun j => if_neg (by omega))]
    simp only [e_81_2, e_81_3, e_81_6, e_81_46, true_and, and_true, and_self, false_and, and_false, if_true, if_false, ↓reduceIte, Nat.add_eq_left, Nat.left_eq_add, Nat.add_left_cancel_iff, not_false_eq_true, not_true_eq_false, i_pc, List.cons_append, List.nil_append, List.length_cons, List.length_nil, Nat.reduceEqDiff, Nat.reduceAdd, Nat.reduceMul, Nat.reduceSub, Nat.reduceLeDiff, Nat.reduceLT, Int32.reduceLT, Int32.reduceLE, Int32.reduceAdd, Int32.reduceSub, reduceCtorEq, true_or, or_true, or_false, false_or, ne_eq, Nat.zero_le, show ((152 : Int32) ≤ nI 152) = True from by decide]
  | succ m ih =>
    intro k h hk hO hn hc
    have c1 : ¬ (152 : Int32) ≤ nI k := nI_ge (b := 152) (by omega) (by decide)
    have e1 : (152 : Int32) * nI r + nI k = nI (152 * r + k) := by rw [show (152 : Int32) = nI 152 from rfl, pk_mul, nI_add]
    have c2 : vp_in (nI (152 * r + k)) 6384 := vin (by omega) (by decide)
    have hgo := ih (k + 1) (sI h 51 (152 * r + k) (tS h n k)) (by omega) hO (by rw [hI_sI, if_neg (by omega)]; exact hn) (fun j hj => by rw [hI_sI, if_neg (by omega)]; exact hc j hj)
    have e2 : sA (sI h 51 (152 * r + k) (tS h n k)) 51 (fun j => if 152 * r + (k + 1) ≤ j ∧ j < 152 * r + 152 then tS (sI h 51 (152 * r + k) (tS h n k)) n (j - 152 * r) else hI (sI h 51 (152 * r + k) (tS h n k)) 51 j) = sA h 51 (fun j => if 152 * r + k ≤ j ∧ j < 152 * r + 152 then tS h n (j - 152 * r) else hI h 51 j) := by
      rw [sA_sI]
      refine sA_congr (fun j => ?_)
      have q0 : tS (sI h 51 (152 * r + k) (tS h n k)) n (j - 152 * r) = tS h n (j - 152 * r) := by
        unfold tS
        rw [hI_sI, if_neg (show ¬ (50 = 51 ∧ j - 152 * r = 152 * r + k) from fun z => absurd z.1 (by decide))]
      rw [q0, hI_sI]
      by_cases q1 : j = 152 * r + k
      · subst q1
        rw [if_neg (by omega), if_pos ⟨rfl, rfl⟩, if_pos (by omega), show 152 * r + k - 152 * r = k by omega]
      · rw [if_neg (show ¬ (51 = 51 ∧ j = 152 * r + k) from fun z => q1 z.2)]
        by_cases q2 : 152 * r + (k + 1) ≤ j ∧ j < 152 * r + 152
        · rw [if_pos q2, if_pos (by omega)]
        · rw [if_neg q2, if_neg (by omega)]
    rw [e2] at hgo
    rw [e_81_2]
    by_cases c3 : k < n
    · have c4 : ¬ nI n ≤ nI k := nI_ge c3 (by omega)
      have c5 : vp_in (nI k) 150 := vin (by omega) (by decide)
      have e3 : tS h n k = hI h 50 k := if_pos c3
      rw [e3] at hgo
      simp only [e_81_3, e_81_6, e_81_9, e_81_10, e_81_13, e_81_16, e_81_17, e_81_18, e_81_19, e_81_20, e_81_21, e_81_22, e_81_25, e_81_28, e_81_29, e_81_32, e_81_33, e_81_34, e_81_39, e_81_40, e_81_43, true_and, and_true, and_self, false_and, and_false, if_true, if_false, ↓reduceIte, Nat.add_eq_left, Nat.left_eq_add, Nat.add_left_cancel_iff, not_false_eq_true, not_true_eq_false, i_pc, List.cons_append, List.nil_append, List.length_cons, List.length_nil, Nat.reduceEqDiff, Nat.reduceAdd, Nat.reduceMul, Nat.reduceSub, Nat.reduceLeDiff, Nat.reduceLT, Int32.reduceLT, Int32.reduceLE, Int32.reduceAdd, Int32.reduceSub, reduceCtorEq, true_or, or_true, or_false, false_or, ne_eq, Nat.zero_le, mo_k hO, mo_r50 hO, mo_k50 hO, mo_l50 hO, mo_r51 hO, mo_k51 hO, mo_l51 hO, hn, c1, c2, c4, c5, e1, nI_1, ch_nar (hc k c3).1 (hc k c3).2, nI_cl (show k < 2 ^ 31 by omega), nI_cl (show 152 * r + k < 2 ^ 31 by omega)]
      exact hgo
    · have c4 : nI n ≤ nI k := nI_le (by omega) (by omega)
      have e3 : tS h n k = 59 := if_neg c3
      rw [e3] at hgo
      simp only [e_81_3, e_81_6, e_81_9, e_81_10, e_81_13, e_81_16, e_81_17, e_81_18, e_81_19, e_81_20, e_81_21, e_81_22, e_81_25, e_81_37, e_81_39, e_81_40, e_81_43, true_and, and_true, and_self, false_and, and_false, if_true, if_false, ↓reduceIte, Nat.add_eq_left, Nat.left_eq_add, Nat.add_left_cancel_iff, not_false_eq_true, not_true_eq_false, i_pc, List.cons_append, List.nil_append, List.length_cons, List.length_nil, Nat.reduceEqDiff, Nat.reduceAdd, Nat.reduceMul, Nat.reduceSub, Nat.reduceLeDiff, Nat.reduceLT, Int32.reduceLT, Int32.reduceLE, Int32.reduceAdd, Int32.reduceSub, reduceCtorEq, true_or, or_true, or_false, false_or, ne_eq, Nat.zero_le, mo_k hO, mo_r50 hO, mo_k50 hO, mo_l50 hO, mo_r51 hO, mo_k51 hO, mo_l51 hO, hn, c1, c2, c4, e1, nI_1, show vp_nar .char 59 = 59 from by decide, nI_cl (show k < 2 ^ 31 by omega), nI_cl (show 152 * r + k < 2 ^ 31 by omega)]
      exact hgo
end MR

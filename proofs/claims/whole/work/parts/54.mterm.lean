-- the model: copy, term
section MS
variable {xs : Nat → Int32} {L d : Nat} {h : Hp} {res : Res} {r n P k : Nat}
theorem m_copy (hr : r < 42) (hn2 : n ≤ 150) (hO : MO h) (hn : hI h 49 0 = nI n) (hc : ∀ j, j < n → 32 ≤ hI h 50 j ∧ hI h 50 j ≤ 126) : Rn xs L (d + 1) 81 [.inr (some 49), .inl (nI r)] h (none, sA h 51 (fun j => if 152 * r ≤ j ∧ j < 152 * r + 152 then tS h n (j - 152 * r) else hI h 51 j)) := by
  rw [i_rn]
  show X xs L d 81 (0, [some (.inr (some 49)), some (.inl (nI r)), none], [], h) _
  simp only [e_81_0, e_81_1, true_and, and_true, and_self, false_and, and_false, if_true, if_false, ↓reduceIte, Nat.add_eq_left, Nat.left_eq_add, Nat.add_left_cancel_iff, not_false_eq_true, not_true_eq_false, i_pc, List.cons_append, List.nil_append, List.length_cons, List.length_nil, Nat.reduceEqDiff, Nat.reduceAdd, Nat.reduceMul, Nat.reduceSub, Nat.reduceLeDiff, Nat.reduceLT, Int32.reduceLT, Int32.reduceLE, Int32.reduceAdd, Int32.reduceSub, reduceCtorEq, true_or, or_true, or_false, false_or, ne_eq, Nat.zero_le]
  exact m_copy_loop (r := r) (n := n) hr hn2 152 0 h (by omega) hO hn hc
theorem m_tm_loop {a2 a3 : Option AV} (hO : MO h) : ∀ (m i : Nat), P + i + m < 6384 → (∀ j, i ≤ j → j < i + m → isDg (hI h 51 (P + j))) → ¬ isDg (hI h 51 (P + (i + m))) →
    X xs L (d + 1) 82 (17, [some (.inr (some 49)), some (.inl (nI P)), a2, a3, some (.inl (nI (P + i)))], [], h) (some (.inl (if i + m ≤ 3 then nI (P + (i + m)) else -1)), h) := by
  intro m
  induction m with
  | zero =>
    intro i hp hd hnd
    have h2 : vp_in (nI (P + i)) 6384 := vin (by omega) (by decide)
    have hnd2 : ¬ (48 ≤ hI h 51 (P + i) ∧ hI h 51 (P + i) ≤ 57) := hnd
    have e1 : nI (P + i) - nI P = nI i := by rw [pk_sub (by omega)]; congr 1; omega
    rw [e_82_17]
    simp only [e_82_18, e_82_21, e_82_23, e_82_24, true_and, and_true, and_self, false_and, and_false, if_true, if_false, ↓reduceIte, Nat.add_eq_left, Nat.left_eq_add, Nat.add_left_cancel_iff, not_false_eq_true, not_true_eq_false, i_pc, List.cons_append, List.nil_append, List.length_cons, List.length_nil, Nat.reduceEqDiff, Nat.reduceAdd, Nat.reduceMul, Nat.reduceSub, Nat.reduceLeDiff, Nat.reduceLT, Int32.reduceLT, Int32.reduceLE, Int32.reduceAdd, Int32.reduceSub, reduceCtorEq, true_or, or_true, or_false, false_or, ne_eq, Nat.zero_le, mo_k hO, mo_r51 hO, mo_k51 hO, mo_l51 hO, h2, nI_cl (show P + i < 2 ^ 31 by omega)]
    refine ⟨_, m_isDig, ?_⟩
    by_cases h3 : i ≤ 3
    · have h4 : ¬ 3 < nI i := Int32.not_lt.mpr (nI_le (b := 3) h3 (by decide))
      simp only [e_82_27, e_82_36, e_82_38, e_82_39, e_82_40, e_82_41, e_82_44, e_82_46, e_82_49, e_82_50, true_and, and_true, and_self, false_and, and_false, if_true, if_false, ↓reduceIte, Nat.add_eq_left, Nat.left_eq_add, Nat.add_left_cancel_iff, not_false_eq_true, not_true_eq_false, i_pc, List.cons_append, List.nil_append, List.length_cons, List.length_nil, Nat.reduceEqDiff, Nat.reduceAdd, Nat.reduceMul, Nat.reduceSub, Nat.reduceLeDiff, Nat.reduceLT, Int32.reduceLT, Int32.reduceLE, Int32.reduceAdd, Int32.reduceSub, reduceCtorEq, true_or, or_true, or_false, false_or, ne_eq, Nat.zero_le, Option.toList, bI_f hnd2, e1, h3, h4, Nat.add_zero]
    · have h4 : 3 < nI i := nI_lt (a := 3) (by omega) (by omega)
      simp only [e_82_27, e_82_36, e_82_38, e_82_39, e_82_40, e_82_41, e_82_44, e_82_46, e_82_49, e_82_50, true_and, and_true, and_self, false_and, and_false, if_true, if_false, ↓reduceIte, Nat.add_eq_left, Nat.left_eq_add, Nat.add_left_cancel_iff, not_false_eq_true, not_true_eq_false, i_pc, List.cons_append, List.nil_append, List.length_cons, List.length_nil, Nat.reduceEqDiff, Nat.reduceAdd, Nat.reduceMul, Nat.reduceSub, Nat.reduceLeDiff, Nat.reduceLT, Int32.reduceLT, Int32.reduceLE, Int32.reduceAdd, Int32.reduceSub, reduceCtorEq, true_or, or_true, or_false, false_or, ne_eq, Nat.zero_le, Option.toList, bI_f hnd2, e1, h3, h4, Nat.add_zero]
  | succ m ih =>
    intro i hp hd hnd
    have h2 : vp_in (nI (P + i)) 6384 := vin (by omega) (by decide)
    have hd2 : 48 ≤ hI h 51 (P + i) ∧ hI h 51 (P + i) ≤ 57 := hd i (by omega) (by omega)
    rw [e_82_17]
    simp only [e_82_18, e_82_21, e_82_23, e_82_24, true_and, and_true, and_self, false_and, and_false, if_true, if_false, ↓reduceIte, Nat.add_eq_left, Nat.left_eq_add, Nat.add_left_cancel_iff, not_false_eq_true, not_true_eq_false, i_pc, List.cons_append, List.nil_append, List.length_cons, List.length_nil, Nat.reduceEqDiff, Nat.reduceAdd, Nat.reduceMul, Nat.reduceSub, Nat.reduceLeDiff, Nat.reduceLT, Int32.reduceLT, Int32.reduceLE, Int32.reduceAdd, Int32.reduceSub, reduceCtorEq, true_or, or_true, or_false, false_or, ne_eq, Nat.zero_le, mo_k hO, mo_r51 hO, mo_k51 hO, mo_l51 hO, h2, nI_cl (show P + i < 2 ^ 31 by omega)]
    refine ⟨_, m_isDig, ?_⟩
    simp only [e_82_27, e_82_30, e_82_33, true_and, and_true, and_self, false_and, and_false, if_true, if_false, ↓reduceIte, Nat.add_eq_left, Nat.left_eq_add, Nat.add_left_cancel_iff, not_false_eq_true, not_true_eq_false, i_pc, List.cons_append, List.nil_append, List.length_cons, List.length_nil, Nat.reduceEqDiff, Nat.reduceAdd, Nat.reduceMul, Nat.reduceSub, Nat.reduceLeDiff, Nat.reduceLT, Int32.reduceLT, Int32.reduceLE, Int32.reduceAdd, Int32.reduceSub, reduceCtorEq, true_or, or_true, or_false, false_or, ne_eq, Nat.zero_le, Option.toList, bI_t hd2, nI_1, show ((1 : Int32) = 0) = False from by decide]
    have hgo := ih (i + 1) (by omega) (fun j h7 h8 => hd j (by omega) (by omega)) (by rw [show i + 1 + m = i + (m + 1) by omega]; exact hnd)
    rw [show i + 1 + m = i + (m + 1) by omega] at hgo
    exact hgo
theorem m_tm_dig {m : Nat} {kk : Int32} (hO : MO h) (hm : 0 < m) (hp : P + m < 6384) (hd : ∀ j, j < m → isDg (hI h 51 (P + j))) (hnd : ¬ isDg (hI h 51 (P + m))) : Rn xs L (d + 2) 82 [.inr (some 49), .inl (nI P), .inl kk] h (some (.inl (if m ≤ 3 then nI (P + m) else -1)), h) := by
  have h2 : vp_in (nI P) 6384 := vin (by omega) (by decide)
  have hd2 : 48 ≤ hI h 51 P ∧ hI h 51 P ≤ 57 := hd 0 hm
  rw [i_rn]
  show X xs L (d + 1) 82 (0, [some (.inr (some 49)), some (.inl (nI P)), some (.inl kk), none, none], [], h) _
  simp only [e_82_0, e_82_1, e_82_4, e_82_5, e_82_6, e_82_7, e_82_8, true_and, and_true, and_self, false_and, and_false, if_true, if_false, ↓reduceIte, Nat.add_eq_left, Nat.left_eq_add, Nat.add_left_cancel_iff, not_false_eq_true, not_true_eq_false, i_pc, List.cons_append, List.nil_append, List.length_cons, List.length_nil, Nat.reduceEqDiff, Nat.reduceAdd, Nat.reduceMul, Nat.reduceSub, Nat.reduceLeDiff, Nat.reduceLT, Int32.reduceLT, Int32.reduceLE, Int32.reduceAdd, Int32.reduceSub, reduceCtorEq, true_or, or_true, or_false, false_or, ne_eq, Nat.zero_le, mo_k hO, mo_r51 hO, mo_k51 hO, mo_l51 hO, h2, nI_cl (show P < 2 ^ 31 by omega)]
  refine ⟨_, m_isDig, ?_⟩
  simp only [e_82_11, e_82_14, e_82_15, true_and, and_true, and_self, false_and, and_false, if_true, if_false, ↓reduceIte, Nat.add_eq_left, Nat.left_eq_add, Nat.add_left_cancel_iff, not_false_eq_true, not_true_eq_false, i_pc, List.cons_append, List.nil_append, List.length_cons, List.length_nil, Nat.reduceEqDiff, Nat.reduceAdd, Nat.reduceMul, Nat.reduceSub, Nat.reduceLeDiff, Nat.reduceLT, Int32.reduceLT, Int32.reduceLE, Int32.reduceAdd, Int32.reduceSub, reduceCtorEq, true_or, or_true, or_false, false_or, ne_eq, Nat.zero_le, Option.toList, bI_t hd2, show ((1 : Int32) = 0) = False from by decide]
  have hgo := m_tm_loop (xs := xs) (L := L) (d := d) (P := P) (a2 := some (.inl kk)) (a3 := some (.inl (hI h 51 P))) hO m 0 (by omega) (fun j h7 h8 => hd j (by omega)) (by rw [Nat.zero_add]; exact hnd)
  rw [Nat.zero_add, Nat.add_zero] at hgo
  exact hgo
theorem m_tm_var {kk : Int32} (hO : MO h) (hp : P < 6384) (hc : 97 ≤ hI h 51 P ∧ hI h 51 P ≤ 102) : Rn xs L (d + 2) 82 [.inr (some 49), .inl (nI P), .inl kk] h (some (.inl (nI (P + 1))), h) := by
  have h2 : vp_in (nI P) 6384 := vin (by omega) (by decide)
  have h3 : ¬ (48 ≤ hI h 51 P ∧ hI h 51 P ≤ 57) := fun z => absurd (Int32.le_trans hc.1 z.2) (by decide)
  rw [i_rn]
  show X xs L (d + 1) 82 (0, [some (.inr (some 49)), some (.inl (nI P)), some (.inl kk), none, none], [], h) _
  simp only [e_82_0, e_82_1, e_82_4, e_82_5, e_82_6, e_82_7, e_82_8, true_and, and_true, and_self, false_and, and_false, if_true, if_false, ↓reduceIte, Nat.add_eq_left, Nat.left_eq_add, Nat.add_left_cancel_iff, not_false_eq_true, not_true_eq_false, i_pc, List.cons_append, List.nil_append, List.length_cons, List.length_nil, Nat.reduceEqDiff, Nat.reduceAdd, Nat.reduceMul, Nat.reduceSub, Nat.reduceLeDiff, Nat.reduceLT, Int32.reduceLT, Int32.reduceLE, Int32.reduceAdd, Int32.reduceSub, reduceCtorEq, true_or, or_true, or_false, false_or, ne_eq, Nat.zero_le, mo_k hO, mo_r51 hO, mo_k51 hO, mo_l51 hO, h2, nI_cl (show P < 2 ^ 31 by omega)]
  refine ⟨_, m_isDig, ?_⟩
  simp only [e_82_11, e_82_51, e_82_52, true_and, and_true, and_self, false_and, and_false, if_true, if_false, ↓reduceIte, Nat.add_eq_left, Nat.left_eq_add, Nat.add_left_cancel_iff, not_false_eq_true, not_true_eq_false, i_pc, List.cons_append, List.nil_append, List.length_cons, List.length_nil, Nat.reduceEqDiff, Nat.reduceAdd, Nat.reduceMul, Nat.reduceSub, Nat.reduceLeDiff, Nat.reduceLT, Int32.reduceLT, Int32.reduceLE, Int32.reduceAdd, Int32.reduceSub, reduceCtorEq, true_or, or_true, or_false, false_or, ne_eq, Nat.zero_le, Option.toList, bI_f h3]
  refine ⟨_, m_isVar, ?_⟩
  simp only [e_82_55, e_82_58, e_82_59, e_82_60, e_82_61, true_and, and_true, and_self, false_and, and_false, if_true, if_false, ↓reduceIte, Nat.add_eq_left, Nat.left_eq_add, Nat.add_left_cancel_iff, not_false_eq_true, not_true_eq_false, i_pc, List.cons_append, List.nil_append, List.length_cons, List.length_nil, Nat.reduceEqDiff, Nat.reduceAdd, Nat.reduceMul, Nat.reduceSub, Nat.reduceLeDiff, Nat.reduceLT, Int32.reduceLT, Int32.reduceLE, Int32.reduceAdd, Int32.reduceSub, reduceCtorEq, true_or, or_true, or_false, false_or, ne_eq, Nat.zero_le, Option.toList, bI_t hc, nI_1, show ((1 : Int32) = 0) = False from by decide]
/-- term, where it is no number and no variable -/
theorem m_tm_pre (hO : MO h) (hp : P < 6384) (hk : k ≤ 5) (h3 : ¬ (48 ≤ hI h 51 P ∧ hI h 51 P ≤ 57)) (h4 : ¬ (97 ≤ hI h 51 P ∧ hI h 51 P ≤ 102)) (h5 : k = 5 → res = (some (.inl (-1)), h)) (hX : k < 5 → X xs L (d + 1) 82 (69, [some (.inr (some 49)), some (.inl (nI P)), some (.inl (nI k)), some (.inl (hI h 51 P)), none], [], h) res) : Rn xs L (d + 2) 82 [.inr (some 49), .inl (nI P), .inl (nI k)] h res := by
  have h2 : vp_in (nI P) 6384 := vin (by omega) (by decide)
  rw [i_rn]
  show X xs L (d + 1) 82 (0, [some (.inr (some 49)), some (.inl (nI P)), some (.inl (nI k)), none, none], [], h) _
  simp only [e_82_0, e_82_1, e_82_4, e_82_5, e_82_6, e_82_7, e_82_8, true_and, and_true, and_self, false_and, and_false, if_true, if_false, ↓reduceIte, Nat.add_eq_left, Nat.left_eq_add, Nat.add_left_cancel_iff, not_false_eq_true, not_true_eq_false, i_pc, List.cons_append, List.nil_append, List.length_cons, List.length_nil, Nat.reduceEqDiff, Nat.reduceAdd, Nat.reduceMul, Nat.reduceSub, Nat.reduceLeDiff, Nat.reduceLT, Int32.reduceLT, Int32.reduceLE, Int32.reduceAdd, Int32.reduceSub, reduceCtorEq, true_or, or_true, or_false, false_or, ne_eq, Nat.zero_le, mo_k hO, mo_r51 hO, mo_k51 hO, mo_l51 hO, h2, nI_cl (show P < 2 ^ 31 by omega)]
  refine ⟨_, m_isDig, ?_⟩
  simp only [e_82_11, e_82_51, e_82_52, true_and, and_true, and_self, false_and, and_false, if_true, if_false, ↓reduceIte, Nat.add_eq_left, Nat.left_eq_add, Nat.add_left_cancel_iff, not_false_eq_true, not_true_eq_false, i_pc, List.cons_append, List.nil_append, List.length_cons, List.length_nil, Nat.reduceEqDiff, Nat.reduceAdd, Nat.reduceMul, Nat.reduceSub, Nat.reduceLeDiff, Nat.reduceLT, Int32.reduceLT, Int32.reduceLE, Int32.reduceAdd, Int32.reduceSub, reduceCtorEq, true_or, or_true, or_false, false_or, ne_eq, Nat.zero_le, Option.toList, bI_f h3]
  refine ⟨_, m_isVar, ?_⟩
  by_cases c5 : k = 5
  · subst c5
    rw [h5 rfl]
    simp only [e_82_55, e_82_62, e_82_63, e_82_64, e_82_67, e_82_68, true_and, and_true, and_self, false_and, and_false, if_true, if_false, ↓reduceIte, Nat.add_eq_left, Nat.left_eq_add, Nat.add_left_cancel_iff, not_false_eq_true, not_true_eq_false, i_pc, List.cons_append, List.nil_append, List.length_cons, List.length_nil, Nat.reduceEqDiff, Nat.reduceAdd, Nat.reduceMul, Nat.reduceSub, Nat.reduceLeDiff, Nat.reduceLT, Int32.reduceLT, Int32.reduceLE, Int32.reduceAdd, Int32.reduceSub, reduceCtorEq, true_or, or_true, or_false, false_or, ne_eq, Nat.zero_le, Option.toList, bI_f h4, show (nI 5 = 5) = True from by decide]
  · have c6 : ¬ nI k = 5 := fun e => c5 ((nI_eq (a := k) (b := 5) (by omega) (by decide)).mp e)
    simp only [e_82_55, e_82_62, e_82_63, e_82_64, true_and, and_true, and_self, false_and, and_false, if_true, if_false, ↓reduceIte, Nat.add_eq_left, Nat.left_eq_add, Nat.add_left_cancel_iff, not_false_eq_true, not_true_eq_false, i_pc, List.cons_append, List.nil_append, List.length_cons, List.length_nil, Nat.reduceEqDiff, Nat.reduceAdd, Nat.reduceMul, Nat.reduceSub, Nat.reduceLeDiff, Nat.reduceLT, Int32.reduceLT, Int32.reduceLE, Int32.reduceAdd, Int32.reduceSub, reduceCtorEq, true_or, or_true, or_false, false_or, ne_eq, Nat.zero_le, Option.toList, bI_f h4, c6]
    exact hX (by omega)
theorem m_tm_5 (hO : MO h) (hp : P < 6384) (h3 : ¬ (48 ≤ hI h 51 P ∧ hI h 51 P ≤ 57)) (h4 : ¬ (97 ≤ hI h 51 P ∧ hI h 51 P ≤ 102)) : Rn xs L (d + 2) 82 [.inr (some 49), .inl (nI P), .inl (nI 5)] h (some (.inl (-1)), h) :=
  m_tm_pre hO hp (by decide) h3 h4 (fun _ => rfl) (fun z => absurd z (by decide))
theorem m_tm_open (hO : MO h) (hp : P < 6384) (hk : k < 5) (hc : hI h 51 P = 40) : Rn xs L (d + 2) 82 [.inr (some 49), .inl (nI P), .inl (nI k)] h (some (.inl (nI (P + 1))), sI h 60 k (-1)) := by
  refine m_tm_pre hO hp (by omega) (by rw [hc]; decide) (by rw [hc]; decide) (fun e => by omega) (fun _ => ?_)
  have h2 : vp_in (nI k) 6 := vin (by omega) (by decide)
  simp only [e_82_69, e_82_70, e_82_72, e_82_75, e_82_76, e_82_79, e_82_80, e_82_81, e_82_82, e_82_83, e_82_84, e_82_85, true_and, and_true, and_self, false_and, and_false, if_true, if_false, ↓reduceIte, Nat.add_eq_left, Nat.left_eq_add, Nat.add_left_cancel_iff, not_false_eq_true, not_true_eq_false, i_pc, List.cons_append, List.nil_append, List.length_cons, List.length_nil, Nat.reduceEqDiff, Nat.reduceAdd, Nat.reduceMul, Nat.reduceSub, Nat.reduceLeDiff, Nat.reduceLT, Int32.reduceLT, Int32.reduceLE, Int32.reduceAdd, Int32.reduceSub, reduceCtorEq, true_or, or_true, or_false, false_or, ne_eq, Nat.zero_le, hK_sI, hL_sI, hR_sI, hI_sI, hN_sI, hU_sI, hK_sR, hL_sR, hI_sR, hR_sR, hN_sR, hU_sR, hK_sA, hL_sA, hR_sA, hI_sA, hN_sA, hU_sA, mo_k hO, mo_r60 hO, mo_k60 hO, mo_l60 hO, hc, h2, nI_1, nI_cl (show k < 2 ^ 31 by omega)]
theorem m_tm_fun {f b : Nat} (hO : MO h) (hp : P + 1 < 6384) (hk : k < 5) (hf : f < 4) (hc : hI h 51 P = nI (65 + f)) (hb : hI h 56 f = nI b) (hb2 : b < 1000) : Rn xs L (d + 2) 82 [.inr (some 49), .inl (nI P), .inl (nI k)] h (if 0 < b ∧ hI h 51 (P + 1) = 40 then (some (.inl (nI (P + 2))), sI (sI h 60 k (nI f)) 61 k 0) else (some (.inl (-1)), h)) := by
  have h3 : ¬ (48 ≤ nI (65 + f) ∧ nI (65 + f) ≤ 57) := fun z => absurd z.2 (nI_ge (a := 57) (b := 65 + f) (by omega) (by omega))
  have h4 : ¬ (97 ≤ nI (65 + f) ∧ nI (65 + f) ≤ 102) := fun z => absurd z.1 (nI_ge (b := 97) (a := 65 + f) (by omega) (by decide))
  have h5 : ¬ nI (65 + f) = 40 := fun e => by have := (nI_eq (a := 65 + f) (b := 40) (by omega) (by decide)).mp e; omega
  have h6 : 65 ≤ nI (65 + f) ∧ nI (65 + f) ≤ 68 := ⟨nI_le (a := 65) (by omega) (by omega), nI_le (b := 68) (by omega) (by decide)⟩
  have e1 : nI (65 + f) - 65 = nI f := by rw [show (65 : Int32) = nI 65 from rfl, pk_sub (by omega)]; congr 1; omega
  have e2 : nI P + 2 = nI (P + 2) := by rw [show (2 : Int32) = nI 2 from rfl, nI_add]
  have q2 : vp_in (nI f) 4 := vin hf (by decide)
  have q3 : vp_in (nI (P + 1)) 6384 := vin (by omega) (by decide)
  have q4 : vp_in (nI k) 6 := vin (by omega) (by decide)
  refine m_tm_pre hO (by omega) (by omega) (by rw [hc]; exact h3) (by rw [hc]; exact h4) (fun e => by omega) (fun _ => ?_)
  simp only [e_82_69, e_82_70, e_82_72, e_82_86, e_82_87, true_and, and_true, and_self, false_and, and_false, if_true, if_false, ↓reduceIte, Nat.add_eq_left, Nat.left_eq_add, Nat.add_left_cancel_iff, not_false_eq_true, not_true_eq_false, i_pc, List.cons_append, List.nil_append, List.length_cons, List.length_nil, Nat.reduceEqDiff, Nat.reduceAdd, Nat.reduceMul, Nat.reduceSub, Nat.reduceLeDiff, Nat.reduceLT, Int32.reduceLT, Int32.reduceLE, Int32.reduceAdd, Int32.reduceSub, reduceCtorEq, true_or, or_true, or_false, false_or, ne_eq, Nat.zero_le, hc, h5]
  refine ⟨_, m_isFun, ?_⟩
  by_cases c1 : b = 0
  · subst c1
    simp only [e_82_90, e_82_93, e_82_94, e_82_97, e_82_98, e_82_100, e_82_101, e_82_102, e_82_118, e_82_119, true_and, and_true, and_self, false_and, and_false, if_true, if_false, ↓reduceIte, Nat.add_eq_left, Nat.left_eq_add, Nat.add_left_cancel_iff, not_false_eq_true, not_true_eq_false, i_pc, List.cons_append, List.nil_append, List.length_cons, List.length_nil, Nat.reduceEqDiff, Nat.reduceAdd, Nat.reduceMul, Nat.reduceSub, Nat.reduceLeDiff, Nat.reduceLT, Int32.reduceLT, Int32.reduceLE, Int32.reduceAdd, Int32.reduceSub, reduceCtorEq, true_or, or_true, or_false, false_or, ne_eq, Nat.zero_le, Option.toList, bI_t h6, show ((1 : Int32) = 0) = False from by decide, mo_k hO, mo_r56 hO, mo_k56 hO, mo_l56 hO, e1, q2, hb, show (nI 0 = 0) = True from by decide, nI_cl (show f < 2 ^ 31 by omega), Nat.lt_irrefl]
  · have c2 : ¬ nI b = 0 := nI_ne0 (by omega) (by omega)
    by_cases c3 : hI h 51 (P + 1) = 40
    · rw [if_pos ⟨by omega, c3⟩]
      simp only [e_82_90, e_82_93, e_82_94, e_82_97, e_82_98, e_82_100, e_82_101, e_82_102, e_82_105, e_82_106, e_82_109, e_82_110, e_82_111, e_82_112, e_82_113, e_82_115, e_82_120, e_82_121, e_82_124, e_82_125, e_82_126, e_82_128, e_82_129, e_82_130, e_82_131, e_82_134, e_82_135, e_82_136, e_82_137, e_82_138, e_82_139, e_82_140, true_and, and_true, and_self, false_and, and_false, if_true, if_false, ↓reduceIte, Nat.add_eq_left, Nat.left_eq_add, Nat.add_left_cancel_iff, not_false_eq_true, not_true_eq_false, i_pc, List.cons_append, List.nil_append, List.length_cons, List.length_nil, Nat.reduceEqDiff, Nat.reduceAdd, Nat.reduceMul, Nat.reduceSub, Nat.reduceLeDiff, Nat.reduceLT, Int32.reduceLT, Int32.reduceLE, Int32.reduceAdd, Int32.reduceSub, reduceCtorEq, true_or, or_true, or_false, false_or, ne_eq, Nat.zero_le, hK_sI, hL_sI, hR_sI, hI_sI, hN_sI, hU_sI, hK_sR, hL_sR, hI_sR, hR_sR, hN_sR, hU_sR, hK_sA, hL_sA, hR_sA, hI_sA, hN_sA, hU_sA, Option.toList, bI_t h6, show ((1 : Int32) = 0) = False from by decide, mo_k hO, mo_r51 hO, mo_k51 hO, mo_l51 hO, mo_r56 hO, mo_k56 hO, mo_l56 hO, mo_r60 hO, mo_k60 hO, mo_l60 hO, mo_r61 hO, mo_k61 hO, mo_l61 hO, e1, e2, q2, q3, q4, hb, c2, c3, nI_1, nI_cl (show f < 2 ^ 31 by omega), nI_cl (show k < 2 ^ 31 by omega), nI_cl (show P + 1 < 2 ^ 31 by omega)]
    · rw [if_neg (fun z => c3 z.2)]
      simp only [e_82_90, e_82_93, e_82_94, e_82_97, e_82_98, e_82_100, e_82_101, e_82_102, e_82_105, e_82_106, e_82_109, e_82_110, e_82_111, e_82_112, e_82_113, e_82_115, e_82_118, e_82_119, true_and, and_true, and_self, false_and, and_false, if_true, if_false, ↓reduceIte, Nat.add_eq_left, Nat.left_eq_add, Nat.add_left_cancel_iff, not_false_eq_true, not_true_eq_false, i_pc, List.cons_append, List.nil_append, List.length_cons, List.length_nil, Nat.reduceEqDiff, Nat.reduceAdd, Nat.reduceMul, Nat.reduceSub, Nat.reduceLeDiff, Nat.reduceLT, Int32.reduceLT, Int32.reduceLE, Int32.reduceAdd, Int32.reduceSub, reduceCtorEq, true_or, or_true, or_false, false_or, ne_eq, Nat.zero_le, Option.toList, bI_t h6, show ((1 : Int32) = 0) = False from by decide, mo_k hO, mo_r51 hO, mo_k51 hO, mo_l51 hO, mo_r56 hO, mo_k56 hO, mo_l56 hO, e1, q2, q3, hb, c2, c3, nI_1, nI_cl (show f < 2 ^ 31 by omega), nI_cl (show P + 1 < 2 ^ 31 by omega)]
theorem m_tm_no (hO : MO h) (hp : P < 6384) (hk : k ≤ 5) (h3 : ¬ (48 ≤ hI h 51 P ∧ hI h 51 P ≤ 57)) (h4 : ¬ (97 ≤ hI h 51 P ∧ hI h 51 P ≤ 102)) (h5 : ¬ hI h 51 P = 40) (h6 : ¬ (65 ≤ hI h 51 P ∧ hI h 51 P ≤ 68)) : Rn xs L (d + 2) 82 [.inr (some 49), .inl (nI P), .inl (nI k)] h (some (.inl (-1)), h) := by
  refine m_tm_pre hO hp hk h3 h4 (fun _ => rfl) (fun _ => ?_)
  simp only [e_82_69, e_82_70, e_82_72, e_82_86, e_82_87, true_and, and_true, and_self, false_and, and_false, if_true, if_false, ↓reduceIte, Nat.add_eq_left, Nat.left_eq_add, Nat.add_left_cancel_iff, not_false_eq_true, not_true_eq_false, i_pc, List.cons_append, List.nil_append, List.length_cons, List.length_nil, Nat.reduceEqDiff, Nat.reduceAdd, Nat.reduceMul, Nat.reduceSub, Nat.reduceLeDiff, Nat.reduceLT, Int32.reduceLT, Int32.reduceLE, Int32.reduceAdd, Int32.reduceSub, reduceCtorEq, true_or, or_true, or_false, false_or, ne_eq, Nat.zero_le, h5]
  refine ⟨_, m_isFun, ?_⟩
  simp only [e_82_90, e_82_118, e_82_119, true_and, and_true, and_self, false_and, and_false, if_true, if_false, ↓reduceIte, Nat.add_eq_left, Nat.left_eq_add, Nat.add_left_cancel_iff, not_false_eq_true, not_true_eq_false, i_pc, List.cons_append, List.nil_append, List.length_cons, List.length_nil, Nat.reduceEqDiff, Nat.reduceAdd, Nat.reduceMul, Nat.reduceSub, Nat.reduceLeDiff, Nat.reduceLT, Int32.reduceLT, Int32.reduceLE, Int32.reduceAdd, Int32.reduceSub, reduceCtorEq, true_or, or_true, or_false, false_or, ne_eq, Nat.zero_le, Option.toList, bI_f h6]
end MS

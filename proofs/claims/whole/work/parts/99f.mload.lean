-- the model: load
section NG
variable {xs : Nat → Int32} {L d : Nat} {h h1 h2 h3 : Hp} {res : Res} {l n r t : Nat} {ar : Nat → Int32} {old : Int32}
theorem m_again {b : Int32} (hO : MO h) (hr : Rn xs L d 87 [.inr (some 49)] h (some (.inl b), h1)) : Rn xs L (d + 1) 88 [.inr (some 49)] h (none, h1) := by
  rw [i_rn]
  show X xs L d 88 (0, [some (.inr (some 49)), none], [], h) _
  simp only [e_88_0, e_88_1, true_and, and_true, and_self, false_and, and_false, if_true, if_false, ↓reduceIte, Nat.add_eq_left, Nat.left_eq_add, Nat.add_left_cancel_iff, not_false_eq_true, not_true_eq_false, i_pc, List.cons_append, List.nil_append, List.length_cons, List.length_nil, Nat.reduceEqDiff, Nat.reduceAdd, Nat.reduceMul, Nat.reduceSub, Nat.reduceLeDiff, Nat.reduceLT, Int32.reduceLT, Int32.reduceLE, Int32.reduceAdd, Int32.reduceSub, reduceCtorEq, true_or, or_true, or_false, false_or, ne_eq, Nat.zero_le, mo_k hO]
  refine ⟨_, hr, ?_⟩
  simp only [e_88_4, e_88_5, true_and, and_true, and_self, false_and, and_false, if_true, if_false, ↓reduceIte, Nat.add_eq_left, Nat.left_eq_add, Nat.add_left_cancel_iff, not_false_eq_true, not_true_eq_false, i_pc, List.cons_append, List.nil_append, List.length_cons, List.length_nil, Nat.reduceEqDiff, Nat.reduceAdd, Nat.reduceMul, Nat.reduceSub, Nat.reduceLeDiff, Nat.reduceLT, Int32.reduceLT, Int32.reduceLE, Int32.reduceAdd, Int32.reduceSub, reduceCtorEq, true_or, or_true, or_false, false_or, ne_eq, Nat.zero_le, Option.toList]
theorem m_ld_loop1 {a1 : Option AV} : ∀ (m k : Nat) (h : Hp), k + m = 152 → MO h → (∀ j, j < 152 → vp_nar .char (hI h 51 j) = hI h 51 j) → X xs L d 89 (36, [some (.inr (some 49)), a1, some (.inl (nI 152))], [], sA h 51 (fun j => if 6232 + k ≤ j ∧ j < 6384 then hI h 51 (j - 6232) else hI h 51 j)) res → X xs L d 89 (7, [some (.inr (some 49)), a1, some (.inl (nI k))], [], h) res := by
  intro m
  induction m with
  | zero =>
    intro k h hk hO hc hX
    have : k = 152 := by omega
    subst this
    rw [sA_id (fun j => if_neg (by omega))] at hX
    simp only [e_89_7, e_89_8, e_89_11, true_and, and_true, and_self, false_and, and_false, if_true, if_false, ↓reduceIte, Nat.add_eq_left, Nat.left_eq_add, Nat.add_left_cancel_iff, not_false_eq_true, not_true_eq_false, i_pc, List.cons_append, List.nil_append, List.length_cons, List.length_nil, Nat.reduceEqDiff, Nat.reduceAdd, Nat.reduceMul, Nat.reduceSub, Nat.reduceLeDiff, Nat.reduceLT, Int32.reduceLT, Int32.reduceLE, Int32.reduceAdd, Int32.reduceSub, reduceCtorEq, true_or, or_true, or_false, false_or, ne_eq, Nat.zero_le, show ((152 : Int32) ≤ nI 152) = True from by decide]
    exact hX
  | succ m ih =>
    intro k h hk hO hc hX
    have c1 : ¬ (152 : Int32) ≤ nI k := nI_ge (b := 152) (by omega) (by decide)
    have e2 : (6232 : Int32) + nI k = nI (6232 + k) := by rw [show (6232 : Int32) = nI 6232 from rfl, nI_add]
    have c2 : vp_in (nI k) 6384 := vin (by omega) (by decide)
    have c3 : vp_in (nI (6232 + k)) 6384 := vin (by omega) (by decide)
    have e3 : sA (sI h 51 (6232 + k) (hI h 51 k)) 51 (fun j => if 6232 + (k + 1) ≤ j ∧ j < 6384 then hI (sI h 51 (6232 + k) (hI h 51 k)) 51 (j - 6232) else hI (sI h 51 (6232 + k) (hI h 51 k)) 51 j) = sA h 51 (fun j => if 6232 + k ≤ j ∧ j < 6384 then hI h 51 (j - 6232) else hI h 51 j) := by
      rw [sA_sI]
      refine sA_congr (fun j => ?_)
      by_cases c : j = 6232 + k
      · subst c
        rw [if_neg (by omega), if_pos (by omega), hI_is, show 6232 + k - 6232 = k by omega]
      · by_cases c4 : 6232 + (k + 1) ≤ j ∧ j < 6384
        · rw [if_pos c4, if_pos (show 6232 + k ≤ j ∧ j < 6384 by omega), hI_ne (by omega)]
        · rw [if_neg c4, if_neg (show ¬ (6232 + k ≤ j ∧ j < 6384) by omega), hI_ne (by omega)]
    have hgo := ih (k + 1) (sI h 51 (6232 + k) (hI h 51 k)) (by omega) hO (fun j hj => by rw [hI_ne (by omega)]; exact hc j hj) (by rw [e3]; exact hX)
    rw [e_89_7]
    simp only [e_89_8, e_89_11, e_89_14, e_89_15, e_89_18, e_89_21, e_89_22, e_89_23, e_89_24, e_89_27, e_89_28, e_89_29, e_89_30, e_89_33, true_and, and_true, and_self, false_and, and_false, if_true, if_false, ↓reduceIte, Nat.add_eq_left, Nat.left_eq_add, Nat.add_left_cancel_iff, not_false_eq_true, not_true_eq_false, i_pc, List.cons_append, List.nil_append, List.length_cons, List.length_nil, Nat.reduceEqDiff, Nat.reduceAdd, Nat.reduceMul, Nat.reduceSub, Nat.reduceLeDiff, Nat.reduceLT, Int32.reduceLT, Int32.reduceLE, Int32.reduceAdd, Int32.reduceSub, reduceCtorEq, true_or, or_true, or_false, false_or, ne_eq, Nat.zero_le, mo_k hO, mo_r51 hO, mo_k51 hO, mo_l51 hO, c1, c2, c3, e2, nI_1, hc k (show k < 152 by omega), nI_cl (show k < 2 ^ 31 by omega), nI_cl (show 6232 + k < 2 ^ 31 by omega)]
    exact hgo
theorem m_ld_loop2 {a1 : Option AV} : ∀ (m k : Nat) (h : Hp), k + m = 152 → MO h → (∀ j, j < 152 → vp_nar .char (hI h 51 (6232 + j)) = hI h 51 (6232 + j)) → X xs L d 89 (92, [some (.inr (some 49)), a1, some (.inl (nI 152))], [], sA h 51 (fun j => if k ≤ j ∧ j < 152 then hI h 51 (6232 + j) else hI h 51 j)) res → X xs L d 89 (63, [some (.inr (some 49)), a1, some (.inl (nI k))], [], h) res := by
  intro m
  induction m with
  | zero =>
    intro k h hk hO hc hX
    have : k = 152 := by omega
    subst this
    rw [sA_id (fun j => if_neg (by omega))] at hX
    simp only [e_89_63, e_89_64, e_89_67, true_and, and_true, and_self, false_and, and_false, if_true, if_false, ↓reduceIte, Nat.add_eq_left, Nat.left_eq_add, Nat.add_left_cancel_iff, not_false_eq_true, not_true_eq_false, i_pc, List.cons_append, List.nil_append, List.length_cons, List.length_nil, Nat.reduceEqDiff, Nat.reduceAdd, Nat.reduceMul, Nat.reduceSub, Nat.reduceLeDiff, Nat.reduceLT, Int32.reduceLT, Int32.reduceLE, Int32.reduceAdd, Int32.reduceSub, reduceCtorEq, true_or, or_true, or_false, false_or, ne_eq, Nat.zero_le, show ((152 : Int32) ≤ nI 152) = True from by decide]
    exact hX
  | succ m ih =>
    intro k h hk hO hc hX
    have c1 : ¬ (152 : Int32) ≤ nI k := nI_ge (b := 152) (by omega) (by decide)
    have e2 : (6232 : Int32) + nI k = nI (6232 + k) := by rw [show (6232 : Int32) = nI 6232 from rfl, nI_add]
    have c2 : vp_in (nI k) 6384 := vin (by omega) (by decide)
    have c3 : vp_in (nI (6232 + k)) 6384 := vin (by omega) (by decide)
    have e3 : sA (sI h 51 k (hI h 51 (6232 + k))) 51 (fun j => if k + 1 ≤ j ∧ j < 152 then hI (sI h 51 k (hI h 51 (6232 + k))) 51 (6232 + j) else hI (sI h 51 k (hI h 51 (6232 + k))) 51 j) = sA h 51 (fun j => if k ≤ j ∧ j < 152 then hI h 51 (6232 + j) else hI h 51 j) := by
      rw [sA_sI]
      refine sA_congr (fun j => ?_)
      by_cases c : j = k
      · subst c
        rw [if_neg (by omega), if_pos (by omega), hI_is]
      · by_cases c4 : k + 1 ≤ j ∧ j < 152
        · rw [if_pos c4, if_pos (show k ≤ j ∧ j < 152 by omega), hI_ne (by omega)]
        · rw [if_neg c4, if_neg (show ¬ (k ≤ j ∧ j < 152) by omega), hI_ne (by omega)]
    have hgo := ih (k + 1) (sI h 51 k (hI h 51 (6232 + k))) (by omega) hO (fun j hj => by rw [hI_ne (by omega)]; exact hc j hj) (by rw [e3]; exact hX)
    rw [e_89_63]
    simp only [e_89_64, e_89_67, e_89_70, e_89_71, e_89_74, e_89_75, e_89_76, e_89_79, e_89_82, e_89_83, e_89_84, e_89_85, e_89_86, e_89_89, true_and, and_true, and_self, false_and, and_false, if_true, if_false, ↓reduceIte, Nat.add_eq_left, Nat.left_eq_add, Nat.add_left_cancel_iff, not_false_eq_true, not_true_eq_false, i_pc, List.cons_append, List.nil_append, List.length_cons, List.length_nil, Nat.reduceEqDiff, Nat.reduceAdd, Nat.reduceMul, Nat.reduceSub, Nat.reduceLeDiff, Nat.reduceLT, Int32.reduceLT, Int32.reduceLE, Int32.reduceAdd, Int32.reduceSub, reduceCtorEq, true_or, or_true, or_false, false_or, ne_eq, Nat.zero_le, mo_k hO, mo_r51 hO, mo_k51 hO, mo_l51 hO, c1, c2, c3, e2, nI_1, hc k (show k < 152 by omega), nI_cl (show k < 2 ^ 31 by omega), nI_cl (show 6232 + k < 2 ^ 31 by omega)]
    exact hgo
theorem m_ld_loop3 {a1 : Option AV} : ∀ (m k : Nat) (h : Hp), k + m = 40 → MO h → X xs L d 89 (178, [some (.inr (some 49)), a1, some (.inl (nI 40))], [], sA h 73 (fun j => if k ≤ j ∧ j < 40 then 0 else hI h 73 j)) res → X xs L d 89 (159, [some (.inr (some 49)), a1, some (.inl (nI k))], [], h) res := by
  intro m
  induction m with
  | zero =>
    intro k h hk hO hX
    have : k = 40 := by omega
    subst this
    rw [sA_id (fun j => if_neg (by omega))] at hX
    simp only [e_89_159, e_89_160, e_89_162, true_and, and_true, and_self, false_and, and_false, if_true, if_false, ↓reduceIte, Nat.add_eq_left, Nat.left_eq_add, Nat.add_left_cancel_iff, not_false_eq_true, not_true_eq_false, i_pc, List.cons_append, List.nil_append, List.length_cons, List.length_nil, Nat.reduceEqDiff, Nat.reduceAdd, Nat.reduceMul, Nat.reduceSub, Nat.reduceLeDiff, Nat.reduceLT, Int32.reduceLT, Int32.reduceLE, Int32.reduceAdd, Int32.reduceSub, reduceCtorEq, true_or, or_true, or_false, false_or, ne_eq, Nat.zero_le, show ((40 : Int32) ≤ nI 40) = True from by decide]
    exact hX
  | succ m ih =>
    intro k h hk hO hX
    have c1 : ¬ (40 : Int32) ≤ nI k := nI_ge (b := 40) (by omega) (by decide)
    have c2 : vp_in (nI k) 40 := vin (by omega) (by decide)
    have e3 : sA (sI h 73 k 0) 73 (fun j => if k + 1 ≤ j ∧ j < 40 then 0 else hI (sI h 73 k 0) 73 j) = sA h 73 (fun j => if k ≤ j ∧ j < 40 then 0 else hI h 73 j) := by
      rw [sA_sI]
      refine sA_congr (fun j => ?_)
      by_cases c : j = k
      · subst c
        rw [if_neg (by omega), if_pos (by omega), hI_is]
      · by_cases c4 : k + 1 ≤ j ∧ j < 40
        · rw [if_pos c4, if_pos (show k ≤ j ∧ j < 40 by omega)]
        · rw [if_neg c4, if_neg (show ¬ (k ≤ j ∧ j < 40) by omega), hI_ne (by omega)]
    have hgo := ih (k + 1) (sI h 73 k 0) (by omega) hO (by rw [e3]; exact hX)
    rw [e_89_159]
    simp only [e_89_160, e_89_162, e_89_165, e_89_166, e_89_169, e_89_170, e_89_171, e_89_172, e_89_175, true_and, and_true, and_self, false_and, and_false, if_true, if_false, ↓reduceIte, Nat.add_eq_left, Nat.left_eq_add, Nat.add_left_cancel_iff, not_false_eq_true, not_true_eq_false, i_pc, List.cons_append, List.nil_append, List.length_cons, List.length_nil, Nat.reduceEqDiff, Nat.reduceAdd, Nat.reduceMul, Nat.reduceSub, Nat.reduceLeDiff, Nat.reduceLT, Int32.reduceLT, Int32.reduceLE, Int32.reduceAdd, Int32.reduceSub, reduceCtorEq, true_or, or_true, or_false, false_or, ne_eq, Nat.zero_le, mo_k hO, mo_r73 hO, mo_k73 hO, mo_l73 hO, c1, c2, nI_1, nI_cl (show k < 2 ^ 31 by omega), show vp_nar .boolean 0 = 0 from by decide]
    exact hgo
def ld1 (h : Hp) : Hp := sA h 51 (fun j => if 6232 ≤ j ∧ j < 6384 then hI h 51 (j - 6232) else hI h 51 j)
def ld2 (n : Nat) (h : Hp) : Hp := sI (sI (cpH 0 n (ld1 h)) 49 3 (nI n)) 49 0 0
theorem m_ld_pre (hO : MO h) (hn : hI h 49 0 = nI n) (hn2 : n ≤ 150) (hc : ∀ j, j < n → 32 ≤ hI h 50 j ∧ hI h 50 j ≤ 126) (hv : ∀ j, j < 152 → vp_nar .char (hI h 51 j) = hI h 51 j) (hX : X xs L (d + 1) 89 (54, [some (.inr (some 49)), some (.inl (hI h 49 3)), some (.inl (nI 152))], [], ld2 n h) res) : Rn xs L (d + 2) 89 [.inr (some 49)] h res := by
  have hO1 : MO (ld1 h) := hO
  have e0 : hI (ld1 h) 49 0 = nI n := by unfold ld1; rw [hI_sA, if_neg (by decide)]; exact hn
  have e5 : ∀ j, hI (ld1 h) 50 j = hI h 50 j := fun j => by unfold ld1; rw [hI_sA, if_neg (by decide)]
  have hO2 : MO (cpH 0 n (ld1 h)) := hO
  have e1 : hI (cpH 0 n (ld1 h)) 49 0 = nI n := by unfold cpH; rw [hI_sA, if_neg (by decide)]; exact e0
  rw [i_rn]
  show X xs L (d + 1) 89 (0, [some (.inr (some 49)), none, none], [], h) _
  simp only [e_89_0, e_89_1, e_89_4, e_89_5, e_89_6, true_and, and_true, and_self, false_and, and_false, if_true, if_false, ↓reduceIte, Nat.add_eq_left, Nat.left_eq_add, Nat.add_left_cancel_iff, not_false_eq_true, not_true_eq_false, i_pc, List.cons_append, List.nil_append, List.length_cons, List.length_nil, Nat.reduceEqDiff, Nat.reduceAdd, Nat.reduceMul, Nat.reduceSub, Nat.reduceLeDiff, Nat.reduceLT, Int32.reduceLT, Int32.reduceLE, Int32.reduceAdd, Int32.reduceSub, reduceCtorEq, true_or, or_true, or_false, false_or, ne_eq, Nat.zero_le, mo_k hO]
  refine m_ld_loop1 152 0 h (by omega) hO hv ?_
  rw [show sA h 51 (fun j => if 6232 + 0 ≤ j ∧ j < 6384 then hI h 51 (j - 6232) else hI h 51 j) = ld1 h from rfl]
  simp only [e_89_36, e_89_37, e_89_38, true_and, and_true, and_self, false_and, and_false, if_true, if_false, ↓reduceIte, Nat.add_eq_left, Nat.left_eq_add, Nat.add_left_cancel_iff, not_false_eq_true, not_true_eq_false, i_pc, List.cons_append, List.nil_append, List.length_cons, List.length_nil, Nat.reduceEqDiff, Nat.reduceAdd, Nat.reduceMul, Nat.reduceSub, Nat.reduceLeDiff, Nat.reduceLT, Int32.reduceLT, Int32.reduceLE, Int32.reduceAdd, Int32.reduceSub, reduceCtorEq, true_or, or_true, or_false, false_or, ne_eq, Nat.zero_le, mo_k hO1]
  refine ⟨_, m_copy (r := 0) (n := n) (by decide) hn2 hO1 e0 (fun j hj => by rw [e5]; exact hc j hj), ?_⟩
  rw [show sA (ld1 h) 51 (fun j => if 152 * 0 ≤ j ∧ j < 152 * 0 + 152 then tS (ld1 h) n (j - 152 * 0) else hI (ld1 h) 51 j) = cpH 0 n (ld1 h) from rfl]
  simp only [e_89_41, e_89_42, e_89_43, e_89_46, e_89_49, e_89_50, e_89_51, true_and, and_true, and_self, false_and, and_false, if_true, if_false, ↓reduceIte, Nat.add_eq_left, Nat.left_eq_add, Nat.add_left_cancel_iff, not_false_eq_true, not_true_eq_false, i_pc, List.cons_append, List.nil_append, List.length_cons, List.length_nil, Nat.reduceEqDiff, Nat.reduceAdd, Nat.reduceMul, Nat.reduceSub, Nat.reduceLeDiff, Nat.reduceLT, Int32.reduceLT, Int32.reduceLE, Int32.reduceAdd, Int32.reduceSub, reduceCtorEq, true_or, or_true, or_false, false_or, ne_eq, Nat.zero_le, hK_sI, Option.toList, mo_k hO2, e1]
  exact hX
def rs1 (old : Int32) (h : Hp) : Hp := sI (sA h 51 (fun j => if j < 152 then hI h 51 (6232 + j) else hI h 51 j)) 49 3 old
theorem m_load_no (hO : MO h) (hn : hI h 49 0 = nI n) (hn2 : n ≤ 150) (hc : ∀ j, j < n → 32 ≤ hI h 50 j ∧ hI h 50 j ≤ 126) (hv : ∀ j, j < 152 → vp_nar .char (hI h 51 j) = hI h 51 j) (hp : Rn xs L (d + 1) 87 [.inr (some 49)] (ld2 n h) (some (.inl 0), h1)) (hO1 : MO h1) (hv1 : ∀ j, j < 152 → vp_nar .char (hI h1 51 (6232 + j)) = hI h1 51 (6232 + j)) (hl : (hI h1 49 4 = 0 ∧ h3 = rs1 (hI h 49 3) h1) ∨ (¬ hI h1 49 4 = 0 ∧ Rn xs L (d + 1) 88 [.inr (some 49)] (rs1 (hI h 49 3) h1) (none, h3))) : Rn xs L (d + 2) 89 [.inr (some 49)] h (some (.inl (-1)), h3) := by
  refine m_ld_pre hO hn hn2 hc hv ?_
  have hO2 : MO (ld2 n h) := hO
  simp only [e_89_54, e_89_55, true_and, and_true, and_self, false_and, and_false, if_true, if_false, ↓reduceIte, Nat.add_eq_left, Nat.left_eq_add, Nat.add_left_cancel_iff, not_false_eq_true, not_true_eq_false, i_pc, List.cons_append, List.nil_append, List.length_cons, List.length_nil, Nat.reduceEqDiff, Nat.reduceAdd, Nat.reduceMul, Nat.reduceSub, Nat.reduceLeDiff, Nat.reduceLT, Int32.reduceLT, Int32.reduceLE, Int32.reduceAdd, Int32.reduceSub, reduceCtorEq, true_or, or_true, or_false, false_or, ne_eq, Nat.zero_le, mo_k hO2]
  refine ⟨_, hp, ?_⟩
  simp only [e_89_58, e_89_61, e_89_62, true_and, and_true, and_self, false_and, and_false, if_true, if_false, ↓reduceIte, Nat.add_eq_left, Nat.left_eq_add, Nat.add_left_cancel_iff, not_false_eq_true, not_true_eq_false, i_pc, List.cons_append, List.nil_append, List.length_cons, List.length_nil, Nat.reduceEqDiff, Nat.reduceAdd, Nat.reduceMul, Nat.reduceSub, Nat.reduceLeDiff, Nat.reduceLT, Int32.reduceLT, Int32.reduceLE, Int32.reduceAdd, Int32.reduceSub, reduceCtorEq, true_or, or_true, or_false, false_or, ne_eq, Nat.zero_le, Option.toList]
  refine m_ld_loop2 152 0 h1 (by omega) hO1 hv1 ?_
  have e : (fun j => if 0 ≤ j ∧ j < 152 then hI h1 51 (6232 + j) else hI h1 51 j) = fun j => if j < 152 then hI h1 51 (6232 + j) else hI h1 51 j := funext (fun j => by
    by_cases c : j < 152
    · rw [if_pos c, if_pos ⟨Nat.zero_le _, c⟩]
    · rw [if_neg c, if_neg (fun z => c z.2)])
  rw [e]
  have hO3 : MO (rs1 (hI h 49 3) h1) := hO1
  have e4 : hI (rs1 (hI h 49 3) h1) 49 4 = hI h1 49 4 := by unfold rs1; rw [hI_ne (by omega), hI_sA, if_neg (by decide)]
  have hgo : X xs L (d + 1) 89 (97, [some (.inr (some 49)), some (.inl (hI h 49 3)), some (.inl (nI 152))], [], rs1 (hI h 49 3) h1) (some (.inl (-1)), h3) := by
    rcases hl with ⟨c1, c2⟩ | ⟨c1, c2⟩
    · rw [c2]
      simp only [e_89_97, e_89_98, e_89_101, e_89_108, e_89_109, true_and, and_true, and_self, false_and, and_false, if_true, if_false, ↓reduceIte, Nat.add_eq_left, Nat.left_eq_add, Nat.add_left_cancel_iff, not_false_eq_true, not_true_eq_false, i_pc, List.cons_append, List.nil_append, List.length_cons, List.length_nil, Nat.reduceEqDiff, Nat.reduceAdd, Nat.reduceMul, Nat.reduceSub, Nat.reduceLeDiff, Nat.reduceLT, Int32.reduceLT, Int32.reduceLE, Int32.reduceAdd, Int32.reduceSub, reduceCtorEq, true_or, or_true, or_false, false_or, ne_eq, Nat.zero_le, mo_k hO3, e4, c1]
    · simp only [e_89_97, e_89_98, e_89_101, e_89_104, e_89_105, true_and, and_true, and_self, false_and, and_false, if_true, if_false, ↓reduceIte, Nat.add_eq_left, Nat.left_eq_add, Nat.add_left_cancel_iff, not_false_eq_true, not_true_eq_false, i_pc, List.cons_append, List.nil_append, List.length_cons, List.length_nil, Nat.reduceEqDiff, Nat.reduceAdd, Nat.reduceMul, Nat.reduceSub, Nat.reduceLeDiff, Nat.reduceLT, Int32.reduceLT, Int32.reduceLE, Int32.reduceAdd, Int32.reduceSub, reduceCtorEq, true_or, or_true, or_false, false_or, ne_eq, Nat.zero_le, mo_k hO3, e4, c1]
      refine ⟨_, c2, ?_⟩
      simp only [e_89_108, e_89_109, true_and, and_true, and_self, false_and, and_false, if_true, if_false, ↓reduceIte, Nat.add_eq_left, Nat.left_eq_add, Nat.add_left_cancel_iff, not_false_eq_true, not_true_eq_false, i_pc, List.cons_append, List.nil_append, List.length_cons, List.length_nil, Nat.reduceEqDiff, Nat.reduceAdd, Nat.reduceMul, Nat.reduceSub, Nat.reduceLeDiff, Nat.reduceLT, Int32.reduceLT, Int32.reduceLE, Int32.reduceAdd, Int32.reduceSub, reduceCtorEq, true_or, or_true, or_false, false_or, ne_eq, Nat.zero_le, Option.toList]
  simp only [e_89_92, e_89_93, e_89_94, true_and, and_true, and_self, false_and, and_false, if_true, if_false, ↓reduceIte, Nat.add_eq_left, Nat.left_eq_add, Nat.add_left_cancel_iff, not_false_eq_true, not_true_eq_false, i_pc, List.cons_append, List.nil_append, List.length_cons, List.length_nil, Nat.reduceEqDiff, Nat.reduceAdd, Nat.reduceMul, Nat.reduceSub, Nat.reduceLeDiff, Nat.reduceLT, Int32.reduceLT, Int32.reduceLE, Int32.reduceAdd, Int32.reduceSub, reduceCtorEq, true_or, or_true, or_false, false_or, ne_eq, Nat.zero_le, hK_sA, mo_k hO1]
  exact hgo
def ldM (h : Hp) : Hp := sA (sI (sI (sI (sI (sI (sI (sI (sI (sI h 49 4 1) 49 30 0) 49 31 0) 49 32 0) 62 0 0) 49 33 0) 49 34 0) 49 40 0) 49 42 0) 73 (fun j => if j < 40 then 0 else hI h 73 j)
theorem m_load_yes (hO : MO h) (hn : hI h 49 0 = nI n) (hn2 : n ≤ 150) (hc : ∀ j, j < n → 32 ≤ hI h 50 j ∧ hI h 50 j ≤ 126) (hv : ∀ j, j < 152 → vp_nar .char (hI h 51 j) = hI h 51 j) (hp : Rn xs L (d + 1) 87 [.inr (some 49)] (ld2 n h) (some (.inl 1), h1)) (hO1 : MO h1) : Rn xs L (d + 2) 89 [.inr (some 49)] h (some (.inl (hI h1 49 5)), ldM h1) := by
  refine m_ld_pre hO hn hn2 hc hv ?_
  have hO2 : MO (ld2 n h) := hO
  simp only [e_89_54, e_89_55, true_and, and_true, and_self, false_and, and_false, if_true, if_false, ↓reduceIte, Nat.add_eq_left, Nat.left_eq_add, Nat.add_left_cancel_iff, not_false_eq_true, not_true_eq_false, i_pc, List.cons_append, List.nil_append, List.length_cons, List.length_nil, Nat.reduceEqDiff, Nat.reduceAdd, Nat.reduceMul, Nat.reduceSub, Nat.reduceLeDiff, Nat.reduceLT, Int32.reduceLT, Int32.reduceLE, Int32.reduceAdd, Int32.reduceSub, reduceCtorEq, true_or, or_true, or_false, false_or, ne_eq, Nat.zero_le, mo_k hO2]
  refine ⟨_, hp, ?_⟩
  simp only [e_89_58, e_89_110, e_89_111, e_89_112, e_89_115, e_89_116, e_89_117, e_89_120, e_89_121, e_89_122, e_89_125, e_89_126, e_89_127, e_89_130, e_89_131, e_89_134, e_89_135, e_89_136, e_89_137, e_89_138, e_89_139, e_89_142, e_89_143, e_89_144, e_89_147, e_89_148, e_89_149, e_89_152, e_89_153, e_89_154, e_89_157, e_89_158, true_and, and_true, and_self, false_and, and_false, if_true, if_false, ↓reduceIte, Nat.add_eq_left, Nat.left_eq_add, Nat.add_left_cancel_iff, not_false_eq_true, not_true_eq_false, i_pc, List.cons_append, List.nil_append, List.length_cons, List.length_nil, Nat.reduceEqDiff, Nat.reduceAdd, Nat.reduceMul, Nat.reduceSub, Nat.reduceLeDiff, Nat.reduceLT, Int32.reduceLT, Int32.reduceLE, Int32.reduceAdd, Int32.reduceSub, reduceCtorEq, true_or, or_true, or_false, false_or, ne_eq, Nat.zero_le, hK_sI, hL_sI, hR_sI, Option.toList, mo_k hO1, mo_r62 hO1, mo_k62 hO1, mo_l62 hO1, z2, z0, show ((1 : Int32) = 0) = False from by decide, show vp_nar .boolean 1 = 1 from by decide, show vp_nar .boolean 0 = 0 from by decide]
  refine m_ld_loop3 40 0 _ (by omega) hO1 ?_
  have e : (fun j => if 0 ≤ j ∧ j < 40 then (0 : Int32) else hI (sI (sI (sI (sI (sI (sI (sI (sI (sI h1 49 4 1) 49 30 0) 49 31 0) 49 32 0) 62 0 0) 49 33 0) 49 34 0) 49 40 0) 49 42 0) 73 j) = fun j => if j < 40 then 0 else hI h1 73 j := funext (fun j => by
    rw [hI_ne (by omega), hI_ne (by omega), hI_ne (by omega), hI_ne (by omega), hI_ne (by omega), hI_ne (by omega), hI_ne (by omega), hI_ne (by omega), hI_ne (by omega)]
    by_cases c : j < 40
    · rw [if_pos c, if_pos ⟨Nat.zero_le _, c⟩]
    · rw [if_neg c, if_neg (fun z => c z.2)])
  rw [e]
  have e5 : hI (ldM h1) 49 5 = hI h1 49 5 := by
    unfold ldM
    rw [hI_sA, if_neg (by decide), hI_ne (by omega), hI_ne (by omega), hI_ne (by omega), hI_ne (by omega), hI_ne (by omega), hI_ne (by omega), hI_ne (by omega), hI_ne (by omega), hI_ne (by omega)]
  have hO5 : MO (ldM h1) := hO1
  rw [show sA (sI (sI (sI (sI (sI (sI (sI (sI (sI h1 49 4 1) 49 30 0) 49 31 0) 49 32 0) 62 0 0) 49 33 0) 49 34 0) 49 40 0) 49 42 0) 73 (fun j => if j < 40 then 0 else hI h1 73 j) = ldM h1 from rfl]
  simp only [e_89_178, e_89_179, e_89_182, true_and, and_true, and_self, false_and, and_false, if_true, if_false, ↓reduceIte, Nat.add_eq_left, Nat.left_eq_add, Nat.add_left_cancel_iff, not_false_eq_true, not_true_eq_false, i_pc, List.cons_append, List.nil_append, List.length_cons, List.length_nil, Nat.reduceEqDiff, Nat.reduceAdd, Nat.reduceMul, Nat.reduceSub, Nat.reduceLeDiff, Nat.reduceLT, Int32.reduceLT, Int32.reduceLE, Int32.reduceAdd, Int32.reduceSub, reduceCtorEq, true_or, or_true, or_false, false_or, ne_eq, Nat.zero_le, mo_k hO5, e5]
end NG

-- the model: stop, go
section NF
variable {xs : Nat → Int32} {L d : Nat} {h h1 h2 h3 : Hp} {res : Res} {l n r t : Nat} {ar : Nat → Int32}
/-- stop before it is decided -/
theorem m_stop_pre {line ign lg : Int32} {good : Bool} (hO : MO h) (hn : hI h 49 0 = nI n) (hn2 : n ≤ 150) (hl : (hI h 49 4 = 0 ∧ good = false ∧ h1 = h) ∨ (hI h 49 4 = 1 ∧ Rn xs L (d + 4) 109 [.inr (some 49), .inl (nI 41)] h (some (.inl (bI good)), h1))) (hO1 : MO h1) (hX : X xs L (d + 4) 110 (42, [some (.inr (some 49)), some (.inl line), some (.inl ign), some (.inl lg), some (.inl (bI (decide (n = 0)))), some (.inl (bI good)), none], [], sI h1 49 0 0) res) : Rn xs L (d + 5) 110 [.inr (some 49), .inl line, .inl ign, .inl lg] h res := by
  rw [i_rn]
  show X xs L (d + 4) 110 (0, [some (.inr (some 49)), some (.inl line), some (.inl ign), some (.inl lg), none, none, none], [], h) _
  have h12 : ∀ res, X xs L (d + 4) 110 (14, [some (.inr (some 49)), some (.inl line), some (.inl ign), some (.inl lg), some (.inl (bI (decide (n = 0)))), none, none], [], h) res → X xs L (d + 4) 110 (0, [some (.inr (some 49)), some (.inl line), some (.inl ign), some (.inl lg), none, none, none], [], h) res := fun res hX0 => by
    by_cases c : n = 0
    · rw [bI_t c] at hX0
      rw [c] at hn
      simp only [e_110_0, e_110_1, e_110_4, e_110_7, e_110_8, e_110_12, true_and, and_true, and_self, false_and, and_false, if_true, if_false, ↓reduceIte, Nat.add_eq_left, Nat.left_eq_add, Nat.add_left_cancel_iff, not_false_eq_true, not_true_eq_false, i_pc, List.cons_append, List.nil_append, List.length_cons, List.length_nil, Nat.reduceEqDiff, Nat.reduceAdd, Nat.reduceMul, Nat.reduceSub, Nat.reduceLeDiff, Nat.reduceLT, Int32.reduceLT, Int32.reduceLE, Int32.reduceAdd, Int32.reduceSub, reduceCtorEq, true_or, or_true, or_false, false_or, ne_eq, Nat.zero_le, mo_k hO, hn, show (nI 0 = 0) = True from by decide]
      exact hX0
    · have c2 : ¬ nI n = 0 := nI_ne0 (by omega) (by omega)
      rw [bI_f c] at hX0
      simp only [e_110_0, e_110_1, e_110_4, e_110_11, e_110_12, true_and, and_true, and_self, false_and, and_false, if_true, if_false, ↓reduceIte, Nat.add_eq_left, Nat.left_eq_add, Nat.add_left_cancel_iff, not_false_eq_true, not_true_eq_false, i_pc, List.cons_append, List.nil_append, List.length_cons, List.length_nil, Nat.reduceEqDiff, Nat.reduceAdd, Nat.reduceMul, Nat.reduceSub, Nat.reduceLeDiff, Nat.reduceLT, Int32.reduceLT, Int32.reduceLE, Int32.reduceAdd, Int32.reduceSub, reduceCtorEq, true_or, or_true, or_false, false_or, ne_eq, Nat.zero_le, mo_k hO, hn, c2]
      exact hX0
  refine h12 _ ?_
  rcases hl with ⟨e1, e2, e3⟩ | ⟨e1, hr⟩
  · subst e2
    subst e3
    simp only [e_110_14, e_110_15, e_110_18, e_110_34, e_110_35, e_110_37, e_110_38, e_110_39, true_and, and_true, and_self, false_and, and_false, if_true, if_false, ↓reduceIte, Nat.add_eq_left, Nat.left_eq_add, Nat.add_left_cancel_iff, not_false_eq_true, not_true_eq_false, i_pc, List.cons_append, List.nil_append, List.length_cons, List.length_nil, Nat.reduceEqDiff, Nat.reduceAdd, Nat.reduceMul, Nat.reduceSub, Nat.reduceLeDiff, Nat.reduceLT, Int32.reduceLT, Int32.reduceLE, Int32.reduceAdd, Int32.reduceSub, reduceCtorEq, true_or, or_true, or_false, false_or, ne_eq, Nat.zero_le, mo_k hO, e1]
    exact hX
  · simp only [e_110_14, e_110_15, e_110_18, e_110_21, e_110_22, e_110_24, true_and, and_true, and_self, false_and, and_false, if_true, if_false, ↓reduceIte, Nat.add_eq_left, Nat.left_eq_add, Nat.add_left_cancel_iff, not_false_eq_true, not_true_eq_false, i_pc, List.cons_append, List.nil_append, List.length_cons, List.length_nil, Nat.reduceEqDiff, Nat.reduceAdd, Nat.reduceMul, Nat.reduceSub, Nat.reduceLeDiff, Nat.reduceLT, Int32.reduceLT, Int32.reduceLE, Int32.reduceAdd, Int32.reduceSub, reduceCtorEq, true_or, or_true, or_false, false_or, ne_eq, Nat.zero_le, mo_k hO, e1, show ((1 : Int32) = 0) = False from by decide]
    refine ⟨_, hr, ?_⟩
    cases good with
    | false =>
      simp only [e_110_27, e_110_34, e_110_35, e_110_37, e_110_38, e_110_39, true_and, and_true, and_self, false_and, and_false, if_true, if_false, ↓reduceIte, Nat.add_eq_left, Nat.left_eq_add, Nat.add_left_cancel_iff, not_false_eq_true, not_true_eq_false, i_pc, List.cons_append, List.nil_append, List.length_cons, List.length_nil, Nat.reduceEqDiff, Nat.reduceAdd, Nat.reduceMul, Nat.reduceSub, Nat.reduceLeDiff, Nat.reduceLT, Int32.reduceLT, Int32.reduceLE, Int32.reduceAdd, Int32.reduceSub, reduceCtorEq, true_or, or_true, or_false, false_or, ne_eq, Nat.zero_le, Option.toList, mo_k hO1, bI_ff]
      exact hX
    | true =>
      simp only [e_110_27, e_110_30, e_110_31, e_110_35, e_110_37, e_110_38, e_110_39, true_and, and_true, and_self, false_and, and_false, if_true, if_false, ↓reduceIte, Nat.add_eq_left, Nat.left_eq_add, Nat.add_left_cancel_iff, not_false_eq_true, not_true_eq_false, i_pc, List.cons_append, List.nil_append, List.length_cons, List.length_nil, Nat.reduceEqDiff, Nat.reduceAdd, Nat.reduceMul, Nat.reduceSub, Nat.reduceLeDiff, Nat.reduceLT, Int32.reduceLT, Int32.reduceLE, Int32.reduceAdd, Int32.reduceSub, reduceCtorEq, true_or, or_true, or_false, false_or, ne_eq, Nat.zero_le, Option.toList, mo_k hO1, bI_tt, show ((1 : Int32) = 0) = False from by decide]
      exact hX
theorem m_stop_no {line ign lg : Int32} {good : Bool} (hO : MO h) (hn : hI h 49 0 = nI n) (hn2 : n ≤ 150) (hl : (hI h 49 4 = 0 ∧ good = false ∧ h1 = h) ∨ (hI h 49 4 = 1 ∧ Rn xs L (d + 4) 109 [.inr (some 49), .inl (nI 41)] h (some (.inl (bI good)), h1))) (hO1 : MO h1) (hbad : ¬ (¬ hI h1 49 4 = 0 ∧ ¬ line < 0 ∧ line < hI h1 49 5) ∨ ign < 0 ∨ (¬ n = 0 ∧ good = false)) : Rn xs L (d + 5) 110 [.inr (some 49), .inl line, .inl ign, .inl lg] h (some (.inl 0), sI h1 49 0 0) := by
  refine m_stop_pre hO hn hn2 hl hO1 ?_
  have hO1' : MO (sI h1 49 0 0) := hO1
  have e4 : hI (sI h1 49 0 0) 49 4 = hI h1 49 4 := hI_ne (by omega)
  have e5 : hI (sI h1 49 0 0) 49 5 = hI h1 49 5 := hI_ne (by omega)
  simp only [e_110_42, e_110_43, e_110_44, true_and, and_true, and_self, false_and, and_false, if_true, if_false, ↓reduceIte, Nat.add_eq_left, Nat.left_eq_add, Nat.add_left_cancel_iff, not_false_eq_true, not_true_eq_false, i_pc, List.cons_append, List.nil_append, List.length_cons, List.length_nil, Nat.reduceEqDiff, Nat.reduceAdd, Nat.reduceMul, Nat.reduceSub, Nat.reduceLeDiff, Nat.reduceLT, Int32.reduceLT, Int32.reduceLE, Int32.reduceAdd, Int32.reduceSub, reduceCtorEq, true_or, or_true, or_false, false_or, ne_eq, Nat.zero_le, mo_k hO1']
  refine ⟨_, m_isLine hO1', ?_⟩
  rw [e4, e5]
  by_cases c1 : ¬ hI h1 49 4 = 0 ∧ ¬ line < 0 ∧ line < hI h1 49 5
  · rw [bI_t c1]
    by_cases c2 : ign < 0
    · simp only [e_110_47, e_110_50, e_110_51, e_110_64, e_110_65, true_and, and_true, and_self, false_and, and_false, if_true, if_false, ↓reduceIte, Nat.add_eq_left, Nat.left_eq_add, Nat.add_left_cancel_iff, not_false_eq_true, not_true_eq_false, i_pc, List.cons_append, List.nil_append, List.length_cons, List.length_nil, Nat.reduceEqDiff, Nat.reduceAdd, Nat.reduceMul, Nat.reduceSub, Nat.reduceLeDiff, Nat.reduceLT, Int32.reduceLT, Int32.reduceLE, Int32.reduceAdd, Int32.reduceSub, reduceCtorEq, true_or, or_true, or_false, false_or, ne_eq, Nat.zero_le, Option.toList, c2, show ((1 : Int32) = 0) = False from by decide]
    · obtain ⟨c3, c4⟩ := (hbad.resolve_left (fun z => z c1)).resolve_left c2
      subst c4
      rw [bI_f c3, bI_ff]
      simp only [e_110_47, e_110_50, e_110_51, e_110_54, e_110_56, e_110_59, e_110_61, e_110_64, e_110_65, true_and, and_true, and_self, false_and, and_false, if_true, if_false, ↓reduceIte, Nat.add_eq_left, Nat.left_eq_add, Nat.add_left_cancel_iff, not_false_eq_true, not_true_eq_false, i_pc, List.cons_append, List.nil_append, List.length_cons, List.length_nil, Nat.reduceEqDiff, Nat.reduceAdd, Nat.reduceMul, Nat.reduceSub, Nat.reduceLeDiff, Nat.reduceLT, Int32.reduceLT, Int32.reduceLE, Int32.reduceAdd, Int32.reduceSub, reduceCtorEq, true_or, or_true, or_false, false_or, ne_eq, Nat.zero_le, Option.toList, c2, show ((1 : Int32) = 0) = False from by decide]
  · rw [bI_f c1]
    simp only [e_110_47, e_110_64, e_110_65, true_and, and_true, and_self, false_and, and_false, if_true, if_false, ↓reduceIte, Nat.add_eq_left, Nat.left_eq_add, Nat.add_left_cancel_iff, not_false_eq_true, not_true_eq_false, i_pc, List.cons_append, List.nil_append, List.length_cons, List.length_nil, Nat.reduceEqDiff, Nat.reduceAdd, Nat.reduceMul, Nat.reduceSub, Nat.reduceLeDiff, Nat.reduceLT, Int32.reduceLT, Int32.reduceLE, Int32.reduceAdd, Int32.reduceSub, reduceCtorEq, true_or, or_true, or_false, false_or, ne_eq, Nat.zero_le, Option.toList]
theorem m_stp_loop {a2 a3 a4 a5 : Option AV} (hl : l < 40) : ∀ (m k : Nat) (h : Hp), k + m = 152 → MO h → (∀ j, j < 152 → 32 ≤ hI h 51 (6232 + j) ∧ hI h 51 (6232 + j) ≤ 126) → X xs L d 110 (113, [some (.inr (some 49)), some (.inl (nI l)), a2, a3, a4, a5, some (.inl (nI k))], [], h) (some (.inl 1), sA h 51 (fun j => if 152 * (1 + l) + k ≤ j ∧ j < 152 * (1 + l) + 152 then hI h 51 (6232 + (j - 152 * (1 + l))) else hI h 51 j)) := by
  intro m
  induction m with
  | zero =>
    intro k h hk hO hc
    have : k = 152 := by omega
    subst this
    rw [sA_id (fun j => if_neg (by omega))]
    simp only [e_110_113, e_110_115, e_110_118, e_110_153, e_110_154, true_and, and_true, and_self, false_and, and_false, if_true, if_false, ↓reduceIte, Nat.add_eq_left, Nat.left_eq_add, Nat.add_left_cancel_iff, not_false_eq_true, not_true_eq_false, i_pc, List.cons_append, List.nil_append, List.length_cons, List.length_nil, Nat.reduceEqDiff, Nat.reduceAdd, Nat.reduceMul, Nat.reduceSub, Nat.reduceLeDiff, Nat.reduceLT, Int32.reduceLT, Int32.reduceLE, Int32.reduceAdd, Int32.reduceSub, reduceCtorEq, true_or, or_true, or_false, false_or, ne_eq, Nat.zero_le, show ((152 : Int32) ≤ nI 152) = True from by decide]
  | succ m ih =>
    intro k h hk hO hc
    have c1 : ¬ (152 : Int32) ≤ nI k := nI_ge (b := 152) (by omega) (by decide)
    have e1 : (152 : Int32) * (1 + nI l) + nI k = nI (152 * (1 + l) + k) := by rw [show (152 : Int32) = nI 152 from rfl, show (1 : Int32) = nI 1 from rfl, nI_add, pk_mul, nI_add]
    have e2 : (6232 : Int32) + nI k = nI (6232 + k) := by rw [show (6232 : Int32) = nI 6232 from rfl, nI_add]
    have c2 : vp_in (nI (152 * (1 + l) + k)) 6384 := vin (by omega) (by decide)
    have c3 : vp_in (nI (6232 + k)) 6384 := vin (by omega) (by decide)
    have hck := hc k (by omega)
    have hgo := ih (k + 1) (sI h 51 (152 * (1 + l) + k) (hI h 51 (6232 + k))) (by omega) hO (fun j hj => by rw [hI_ne (by omega)]; exact hc j hj)
    have e3 : sA (sI h 51 (152 * (1 + l) + k) (hI h 51 (6232 + k))) 51 (fun j => if 152 * (1 + l) + (k + 1) ≤ j ∧ j < 152 * (1 + l) + 152 then hI (sI h 51 (152 * (1 + l) + k) (hI h 51 (6232 + k))) 51 (6232 + (j - 152 * (1 + l))) else hI (sI h 51 (152 * (1 + l) + k) (hI h 51 (6232 + k))) 51 j) = sA h 51 (fun j => if 152 * (1 + l) + k ≤ j ∧ j < 152 * (1 + l) + 152 then hI h 51 (6232 + (j - 152 * (1 + l))) else hI h 51 j) := by
      rw [sA_sI]
      refine sA_congr (fun j => ?_)
      by_cases c : j = 152 * (1 + l) + k
      · subst c
        rw [if_neg (by omega), if_pos (by omega), hI_is, show 152 * (1 + l) + k - 152 * (1 + l) = k by omega]
      · by_cases c4 : 152 * (1 + l) + (k + 1) ≤ j ∧ j < 152 * (1 + l) + 152
        · rw [if_pos c4, if_pos (show 152 * (1 + l) + k ≤ j ∧ j < 152 * (1 + l) + 152 by omega), hI_ne (by omega)]
        · rw [if_neg c4, if_neg (show ¬ (152 * (1 + l) + k ≤ j ∧ j < 152 * (1 + l) + 152) by omega), hI_ne (by omega)]
    rw [e3] at hgo
    rw [e_110_113]
    simp only [e_110_115, e_110_118, e_110_121, e_110_122, e_110_125, e_110_128, e_110_129, e_110_130, e_110_131, e_110_132, e_110_134, e_110_135, e_110_136, e_110_139, e_110_142, e_110_144, e_110_145, e_110_146, e_110_147, e_110_150, true_and, and_true, and_self, false_and, and_false, if_true, if_false, ↓reduceIte, Nat.add_eq_left, Nat.left_eq_add, Nat.add_left_cancel_iff, not_false_eq_true, not_true_eq_false, i_pc, List.cons_append, List.nil_append, List.length_cons, List.length_nil, Nat.reduceEqDiff, Nat.reduceAdd, Nat.reduceMul, Nat.reduceSub, Nat.reduceLeDiff, Nat.reduceLT, Int32.reduceLT, Int32.reduceLE, Int32.reduceAdd, Int32.reduceSub, reduceCtorEq, true_or, or_true, or_false, false_or, ne_eq, Nat.zero_le, mo_k hO, mo_r51 hO, mo_k51 hO, mo_l51 hO, c1, c2, c3, e1, e2, nI_1, ch_nar hck.1 hck.2, nI_cl (show 152 * (1 + l) + k < 2 ^ 31 by omega), nI_cl (show 6232 + k < 2 ^ 31 by omega)]
    exact hgo
def stpH (l : Nat) (cond lg ign : Int32) (h : Hp) : Hp := sA (sI (sI (sI (sI (sI h 73 l 1) 74 l cond) 75 l lg) 76 l ign) 77 l 0) 51 (fun j => if 152 * (1 + l) ≤ j ∧ j < 152 * (1 + l) + 152 then hI h 51 (6232 + (j - 152 * (1 + l))) else hI h 51 j)
theorem m_stop_yes {ign lg : Int32} {good : Bool} (hO : MO h) (hn : hI h 49 0 = nI n) (hn2 : n ≤ 150) (hl : hI h 49 4 = 1 ∧ Rn xs L (d + 4) 109 [.inr (some 49), .inl (nI 41)] h (some (.inl (bI good)), h1)) (hO1 : MO h1) (hl1 : ¬ hI h1 49 4 = 0 ∧ ¬ nI l < 0 ∧ nI l < hI h1 49 5) (hl4 : l < 40) (hi : ¬ ign < 0) (hg : n = 0 ∨ good = true) (hlg : lg = 0 ∨ lg = 1) (hc : ∀ j, j < 152 → 32 ≤ hI h1 51 (6232 + j) ∧ hI h1 51 (6232 + j) ≤ 126) : Rn xs L (d + 5) 110 [.inr (some 49), .inl (nI l), .inl ign, .inl lg] h (some (.inl 1), stpH l (if n = 0 then 0 else 1) lg ign (sI h1 49 0 0)) := by
  refine m_stop_pre hO hn hn2 (Or.inr hl) hO1 ?_
  have hO1' : MO (sI h1 49 0 0) := hO1
  have e4 : hI (sI h1 49 0 0) 49 4 = hI h1 49 4 := hI_ne (by omega)
  have e5 : hI (sI h1 49 0 0) 49 5 = hI h1 49 5 := hI_ne (by omega)
  have q1 : vp_in (nI l) 40 := vin hl4 (by decide)
  have nlg : vp_nar .boolean lg = lg := by rcases hlg with e | e <;> rw [e] <;> decide
  simp only [e_110_42, e_110_43, e_110_44, true_and, and_true, and_self, false_and, and_false, if_true, if_false, ↓reduceIte, Nat.add_eq_left, Nat.left_eq_add, Nat.add_left_cancel_iff, not_false_eq_true, not_true_eq_false, i_pc, List.cons_append, List.nil_append, List.length_cons, List.length_nil, Nat.reduceEqDiff, Nat.reduceAdd, Nat.reduceMul, Nat.reduceSub, Nat.reduceLeDiff, Nat.reduceLT, Int32.reduceLT, Int32.reduceLE, Int32.reduceAdd, Int32.reduceSub, reduceCtorEq, true_or, or_true, or_false, false_or, ne_eq, Nat.zero_le, mo_k hO1']
  refine ⟨_, m_isLine hO1', ?_⟩
  rw [e4, e5, bI_t hl1]
  have fin : ∀ (cond : Int32) (a4 a5 : Option AV), X xs L (d + 4) 110 (110, [some (.inr (some 49)), some (.inl (nI l)), some (.inl ign), some (.inl lg), a4, a5, none], [], sI (sI (sI (sI (sI (sI h1 49 0 0) 73 l 1) 74 l cond) 75 l lg) 76 l ign) 77 l 0) (some (.inl 1), stpH l cond lg ign (sI h1 49 0 0)) := fun cond a4 a5 => by
    simp only [e_110_110, e_110_111, true_and, and_true, and_self, false_and, and_false, if_true, if_false, ↓reduceIte, Nat.add_eq_left, Nat.left_eq_add, Nat.add_left_cancel_iff, not_false_eq_true, not_true_eq_false, i_pc, List.cons_append, List.nil_append, List.length_cons, List.length_nil, Nat.reduceEqDiff, Nat.reduceAdd, Nat.reduceMul, Nat.reduceSub, Nat.reduceLeDiff, Nat.reduceLT, Int32.reduceLT, Int32.reduceLE, Int32.reduceAdd, Int32.reduceSub, reduceCtorEq, true_or, or_true, or_false, false_or, ne_eq, Nat.zero_le]
    have := m_stp_loop (xs := xs) (L := L) (d := d + 4) (a2 := some (.inl ign)) (a3 := some (.inl lg)) (a4 := a4) (a5 := a5) hl4 152 0 (sI (sI (sI (sI (sI (sI h1 49 0 0) 73 l 1) 74 l cond) 75 l lg) 76 l ign) 77 l 0) (by omega) hO1 (fun j hj => by rw [hI_ne (by omega), hI_ne (by omega), hI_ne (by omega), hI_ne (by omega), hI_ne (by omega), hI_ne (by omega)]; exact hc j hj)
    have e : (fun j => if 152 * (1 + l) + 0 ≤ j ∧ j < 152 * (1 + l) + 152 then hI (sI (sI (sI (sI (sI (sI h1 49 0 0) 73 l 1) 74 l cond) 75 l lg) 76 l ign) 77 l 0) 51 (6232 + (j - 152 * (1 + l))) else hI (sI (sI (sI (sI (sI (sI h1 49 0 0) 73 l 1) 74 l cond) 75 l lg) 76 l ign) 77 l 0) 51 j) = fun j => if 152 * (1 + l) ≤ j ∧ j < 152 * (1 + l) + 152 then hI (sI h1 49 0 0) 51 (6232 + (j - 152 * (1 + l))) else hI (sI h1 49 0 0) 51 j := funext (fun j => by
      rw [hI_ne (by omega), hI_ne (by omega), hI_ne (by omega), hI_ne (by omega), hI_ne (by omega), hI_ne (by omega), hI_ne (by omega), hI_ne (by omega), hI_ne (by omega), hI_ne (by omega)]
      rfl)
    rw [e] at this
    exact this
  by_cases c0 : n = 0
  · rw [bI_t c0, if_pos c0]
    simp only [e_110_47, e_110_50, e_110_51, e_110_54, e_110_56, e_110_66, e_110_67, e_110_70, e_110_71, e_110_72, e_110_73, e_110_74, e_110_77, e_110_78, e_110_80, e_110_87, e_110_88, e_110_89, e_110_90, e_110_93, e_110_94, e_110_95, e_110_96, e_110_97, e_110_100, e_110_101, e_110_102, e_110_103, e_110_104, e_110_107, e_110_108, e_110_109, true_and, and_true, and_self, false_and, and_false, if_true, if_false, ↓reduceIte, Nat.add_eq_left, Nat.left_eq_add, Nat.add_left_cancel_iff, not_false_eq_true, not_true_eq_false, i_pc, List.cons_append, List.nil_append, List.length_cons, List.length_nil, Nat.reduceEqDiff, Nat.reduceAdd, Nat.reduceMul, Nat.reduceSub, Nat.reduceLeDiff, Nat.reduceLT, Int32.reduceLT, Int32.reduceLE, Int32.reduceAdd, Int32.reduceSub, reduceCtorEq, true_or, or_true, or_false, false_or, ne_eq, Nat.zero_le, hK_sI, hL_sI, hR_sI, Option.toList, hi, mo_k hO1', mo_r73 hO1', mo_k73 hO1', mo_l73 hO1', mo_r74 hO1', mo_k74 hO1', mo_l74 hO1', mo_r75 hO1', mo_k75 hO1', mo_l75 hO1', mo_r76 hO1', mo_k76 hO1', mo_l76 hO1', mo_r77 hO1', mo_k77 hO1', mo_l77 hO1', q1, nlg, nI_cl (show l < 2 ^ 31 by omega), show ((1 : Int32) = 0) = False from by decide, show vp_nar .boolean 1 = 1 from by decide, show vp_nar .boolean 0 = 0 from by decide, mo_k hO1]
    exact fin 0 _ _
  · have hg2 : good = true := hg.resolve_left c0
    subst hg2
    rw [bI_f c0, if_neg c0, bI_tt]
    simp only [e_110_47, e_110_50, e_110_51, e_110_54, e_110_56, e_110_59, e_110_61, e_110_66, e_110_67, e_110_70, e_110_71, e_110_72, e_110_73, e_110_74, e_110_77, e_110_78, e_110_80, e_110_83, e_110_84, e_110_88, e_110_89, e_110_90, e_110_93, e_110_94, e_110_95, e_110_96, e_110_97, e_110_100, e_110_101, e_110_102, e_110_103, e_110_104, e_110_107, e_110_108, e_110_109, true_and, and_true, and_self, false_and, and_false, if_true, if_false, ↓reduceIte, Nat.add_eq_left, Nat.left_eq_add, Nat.add_left_cancel_iff, not_false_eq_true, not_true_eq_false, i_pc, List.cons_append, List.nil_append, List.length_cons, List.length_nil, Nat.reduceEqDiff, Nat.reduceAdd, Nat.reduceMul, Nat.reduceSub, Nat.reduceLeDiff, Nat.reduceLT, Int32.reduceLT, Int32.reduceLE, Int32.reduceAdd, Int32.reduceSub, reduceCtorEq, true_or, or_true, or_false, false_or, ne_eq, Nat.zero_le, hK_sI, hL_sI, hR_sI, Option.toList, hi, mo_k hO1', mo_r73 hO1', mo_k73 hO1', mo_l73 hO1', mo_r74 hO1', mo_k74 hO1', mo_l74 hO1', mo_r75 hO1', mo_k75 hO1', mo_l75 hO1', mo_r76 hO1', mo_k76 hO1', mo_l76 hO1', mo_r77 hO1', mo_k77 hO1', mo_l77 hO1', q1, nlg, nI_cl (show l < 2 ^ 31 by omega), show ((1 : Int32) = 0) = False from by decide, show vp_nar .boolean 1 = 1 from by decide, mo_k hO1]
    exact fin 1 _ _
end NF

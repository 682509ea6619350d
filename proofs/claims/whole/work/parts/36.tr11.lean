-- the translator: a program or an expression that is taken
def PRO (g : Hp) (p z l : Nat) (I H S P : Nat → Int32) : Prop := PG p (p + 1) (p + 4) (p + 5) g ∧ CO (p + 1) (p + 2) (p + 3) z g ∧ hI g p 3 = nI l ∧ (∀ k, k < z → hI g (p + 2) k = I k) ∧ (∀ k, k < z → hI g (p + 3) k = H k) ∧ (∀ k, k < 4 → hI g (p + 4) k = S k) ∧ ∀ k, k < 4 → hI g (p + 5) k = P k
def COD (g : Hp) (c z : Nat) (I H : Nat → Int32) : Prop := CO c (c + 1) (c + 2) z g ∧ (∀ k, k < z → hI g (c + 1) k = I k) ∧ ∀ k, k < z → hI g (c + 2) k = H k
def aI (s : TS) : Nat → Int32 := s.2.2.2.1
def aH (s : TS) : Nat → Int32 := s.2.2.2.2.1
def aS (s : TS) : Nat → Int32 := s.2.2.2.2.2.1
section TK
variable {xs : Nat → Int32} {L d : Nat} {h g : Hp} {res : Res} {n : Nat} {tx : Nat → Int32} {s : TS}
theorem th_7S {k : Nat} : hI (tH h s) 7 k = aI s k := by
  obtain ⟨a, z, l, I, H, S, P, A⟩ := s
  exact th_7
theorem th_8S {k : Nat} : hI (tH h s) 8 k = aH s k := by
  obtain ⟨a, z, l, I, H, S, P, A⟩ := s
  exact th_8
theorem th_9S {k : Nat} : hI (tH h s) 9 k = aS s k := by
  obtain ⟨a, z, l, I, H, S, P, A⟩ := s
  exact th_9
theorem cd_COD {c m : Nat} {f1 f2 I H : Nat → Int32} (hc : hN g = c + 1) (kc : hK g c = 1) (hm : m < 2 ^ 31) (e1 : ∀ k, k < m → f1 k = I k) (e2 : ∀ k, k < m → f2 k = H k) : COD (cdH g c m f1 f2) c m I H := by
  have q1 : ¬ c = c + 1 := by omega
  have q2 : ¬ c = c + 1 + 1 := by omega
  have q3 : ¬ c + 1 = c := by omega
  have q4 : ¬ c + 2 = c := by omega
  have q5 : ¬ c + 2 = c + 1 := by omega
  have q6 : ¬ c + 1 = c + 1 + 1 := by omega
  have q7 : c + 2 = c + 1 + 1 := by omega
  unfold cdH
  refine ⟨⟨?_, ?_, ?_, ?_, ?_, ?_, ?_, ?_, hm⟩, fun k hk => ?_, fun k hk => ?_⟩
  · simp only [true_and, and_true, and_self, false_and, and_false, if_true, if_false, ↓reduceIte, Nat.add_eq_left, Nat.left_eq_add, Nat.add_left_cancel_iff, not_false_eq_true, not_true_eq_false, i_pc, List.cons_append, List.nil_append, List.length_cons, List.length_nil, Nat.reduceEqDiff, Nat.reduceAdd, Nat.reduceMul, Nat.reduceSub, Nat.reduceLeDiff, Nat.reduceLT, Int32.reduceLT, Int32.reduceLE, Int32.reduceAdd, Int32.reduceSub, reduceCtorEq, true_or, or_true, or_false, false_or, ne_eq, Nat.zero_le, hK_sI, hL_sI, hR_sI, hI_sI, hN_sI, hU_sI, hK_sR, hL_sR, hI_sR, hR_sR, hN_sR, hU_sR, hK_sA, hL_sA, hR_sA, hI_sA, hN_sA, hU_sA, hK_nw, hN_nw, hc, q1, q2, kc]
  · simp only [true_and, and_true, and_self, false_and, and_false, if_true, if_false, ↓reduceIte, Nat.add_eq_left, Nat.left_eq_add, Nat.add_left_cancel_iff, not_false_eq_true, not_true_eq_false, i_pc, List.cons_append, List.nil_append, List.length_cons, List.length_nil, Nat.reduceEqDiff, Nat.reduceAdd, Nat.reduceMul, Nat.reduceSub, Nat.reduceLeDiff, Nat.reduceLT, Int32.reduceLT, Int32.reduceLE, Int32.reduceAdd, Int32.reduceSub, reduceCtorEq, true_or, or_true, or_false, false_or, ne_eq, Nat.zero_le, hK_sI, hL_sI, hR_sI, hI_sI, hN_sI, hU_sI, hK_sR, hL_sR, hI_sR, hR_sR, hN_sR, hU_sR, hK_sA, hL_sA, hR_sA, hI_sA, hN_sA, hU_sA, hR_nw, hN_nw, hc, q1, q2]
  · simp only [true_and, and_true, and_self, false_and, and_false, if_true, if_false, ↓reduceIte, Nat.add_eq_left, Nat.left_eq_add, Nat.add_left_cancel_iff, not_false_eq_true, not_true_eq_false, i_pc, List.cons_append, List.nil_append, List.length_cons, List.length_nil, Nat.reduceEqDiff, Nat.reduceAdd, Nat.reduceMul, Nat.reduceSub, Nat.reduceLeDiff, Nat.reduceLT, Int32.reduceLT, Int32.reduceLE, Int32.reduceAdd, Int32.reduceSub, reduceCtorEq, true_or, or_true, or_false, false_or, ne_eq, Nat.zero_le, hK_sI, hL_sI, hR_sI, hI_sI, hN_sI, hU_sI, hK_sR, hL_sR, hI_sR, hR_sR, hN_sR, hU_sR, hK_sA, hL_sA, hR_sA, hI_sA, hN_sA, hU_sA, hR_nw, hN_nw, hc, q1, q2]
  · simp only [true_and, and_true, and_self, false_and, and_false, if_true, if_false, ↓reduceIte, Nat.add_eq_left, Nat.left_eq_add, Nat.add_left_cancel_iff, not_false_eq_true, not_true_eq_false, i_pc, List.cons_append, List.nil_append, List.length_cons, List.length_nil, Nat.reduceEqDiff, Nat.reduceAdd, Nat.reduceMul, Nat.reduceSub, Nat.reduceLeDiff, Nat.reduceLT, Int32.reduceLT, Int32.reduceLE, Int32.reduceAdd, Int32.reduceSub, reduceCtorEq, true_or, or_true, or_false, false_or, ne_eq, Nat.zero_le, hK_sI, hL_sI, hR_sI, hI_sI, hN_sI, hU_sI, hK_sR, hL_sR, hI_sR, hR_sR, hN_sR, hU_sR, hK_sA, hL_sA, hR_sA, hI_sA, hN_sA, hU_sA]
  · simp only [true_and, and_true, and_self, false_and, and_false, if_true, if_false, ↓reduceIte, Nat.add_eq_left, Nat.left_eq_add, Nat.add_left_cancel_iff, not_false_eq_true, not_true_eq_false, i_pc, List.cons_append, List.nil_append, List.length_cons, List.length_nil, Nat.reduceEqDiff, Nat.reduceAdd, Nat.reduceMul, Nat.reduceSub, Nat.reduceLeDiff, Nat.reduceLT, Int32.reduceLT, Int32.reduceLE, Int32.reduceAdd, Int32.reduceSub, reduceCtorEq, true_or, or_true, or_false, false_or, ne_eq, Nat.zero_le, hK_sI, hL_sI, hR_sI, hI_sI, hN_sI, hU_sI, hK_sR, hL_sR, hI_sR, hR_sR, hN_sR, hU_sR, hK_sA, hL_sA, hR_sA, hI_sA, hN_sA, hU_sA, hK_nw, hN_nw, hc, q6]
  · simp only [true_and, and_true, and_self, false_and, and_false, if_true, if_false, ↓reduceIte, Nat.add_eq_left, Nat.left_eq_add, Nat.add_left_cancel_iff, not_false_eq_true, not_true_eq_false, i_pc, List.cons_append, List.nil_append, List.length_cons, List.length_nil, Nat.reduceEqDiff, Nat.reduceAdd, Nat.reduceMul, Nat.reduceSub, Nat.reduceLeDiff, Nat.reduceLT, Int32.reduceLT, Int32.reduceLE, Int32.reduceAdd, Int32.reduceSub, reduceCtorEq, true_or, or_true, or_false, false_or, ne_eq, Nat.zero_le, hK_sI, hL_sI, hR_sI, hI_sI, hN_sI, hU_sI, hK_sR, hL_sR, hI_sR, hR_sR, hN_sR, hU_sR, hK_sA, hL_sA, hR_sA, hI_sA, hN_sA, hU_sA, hL_nw, hN_nw, hc, q6]
  · simp only [true_and, and_true, and_self, false_and, and_false, if_true, if_false, ↓reduceIte, Nat.add_eq_left, Nat.left_eq_add, Nat.add_left_cancel_iff, not_false_eq_true, not_true_eq_false, i_pc, List.cons_append, List.nil_append, List.length_cons, List.length_nil, Nat.reduceEqDiff, Nat.reduceAdd, Nat.reduceMul, Nat.reduceSub, Nat.reduceLeDiff, Nat.reduceLT, Int32.reduceLT, Int32.reduceLE, Int32.reduceAdd, Int32.reduceSub, reduceCtorEq, true_or, or_true, or_false, false_or, ne_eq, Nat.zero_le, hK_sI, hL_sI, hR_sI, hI_sI, hN_sI, hU_sI, hK_sR, hL_sR, hI_sR, hR_sR, hN_sR, hU_sR, hK_sA, hL_sA, hR_sA, hI_sA, hN_sA, hU_sA, hK_nw, hN_nw, hc, q7]
  · simp only [true_and, and_true, and_self, false_and, and_false, if_true, if_false, ↓reduceIte, Nat.add_eq_left, Nat.left_eq_add, Nat.add_left_cancel_iff, not_false_eq_true, not_true_eq_false, i_pc, List.cons_append, List.nil_append, List.length_cons, List.length_nil, Nat.reduceEqDiff, Nat.reduceAdd, Nat.reduceMul, Nat.reduceSub, Nat.reduceLeDiff, Nat.reduceLT, Int32.reduceLT, Int32.reduceLE, Int32.reduceAdd, Int32.reduceSub, reduceCtorEq, true_or, or_true, or_false, false_or, ne_eq, Nat.zero_le, hK_sI, hL_sI, hR_sI, hI_sI, hN_sI, hU_sI, hK_sR, hL_sR, hI_sR, hR_sR, hN_sR, hU_sR, hK_sA, hL_sA, hR_sA, hI_sA, hN_sA, hU_sA, hL_nw, hN_nw, hc, q7]
  · rw [← e1 k hk]
    simp only [true_and, and_true, and_self, false_and, and_false, if_true, if_false, ↓reduceIte, Nat.add_eq_left, Nat.left_eq_add, Nat.add_left_cancel_iff, not_false_eq_true, not_true_eq_false, i_pc, List.cons_append, List.nil_append, List.length_cons, List.length_nil, Nat.reduceEqDiff, Nat.reduceAdd, Nat.reduceMul, Nat.reduceSub, Nat.reduceLeDiff, Nat.reduceLT, Int32.reduceLT, Int32.reduceLE, Int32.reduceAdd, Int32.reduceSub, reduceCtorEq, true_or, or_true, or_false, false_or, ne_eq, Nat.zero_le, hK_sI, hL_sI, hR_sI, hI_sI, hN_sI, hU_sI, hK_sR, hL_sR, hI_sR, hR_sR, hN_sR, hU_sR, hK_sA, hL_sA, hR_sA, hI_sA, hN_sA, hU_sA, hI_nw, hN_nw, hc, q3, q6]
  · rw [← e2 k hk, q7]
    have q8 : ¬ c + 1 + 1 = c := by omega
    simp only [true_and, and_true, and_self, false_and, and_false, if_true, if_false, ↓reduceIte, Nat.add_eq_left, Nat.left_eq_add, Nat.add_left_cancel_iff, not_false_eq_true, not_true_eq_false, i_pc, List.cons_append, List.nil_append, List.length_cons, List.length_nil, Nat.reduceEqDiff, Nat.reduceAdd, Nat.reduceMul, Nat.reduceSub, Nat.reduceLeDiff, Nat.reduceLT, Int32.reduceLT, Int32.reduceLE, Int32.reduceAdd, Int32.reduceSub, reduceCtorEq, true_or, or_true, or_false, false_or, ne_eq, Nat.zero_le, hK_sI, hL_sI, hR_sI, hI_sI, hN_sI, hU_sI, hK_sR, hL_sR, hI_sR, hR_sR, hN_sR, hU_sR, hK_sA, hL_sA, hR_sA, hI_sA, hN_sA, hU_sA, hI_nw, hN_nw, hc, q8]
theorem cd_N {c m : Nat} {f1 f2 : Nat → Int32} : hN (cdH g c m f1 f2) = hN g + 2 ∧ hU (cdH g c m f1 f2) = hU g + (m + m) := by
  show hN g + 1 + 1 = hN g + 2 ∧ hU g + m + m = hU g + (m + m)
  exact ⟨rfl, by omega⟩
theorem t_ra_no {n0 : Nat} : Rn xs L (d + 1) 30 [.inr (some 6), .inr (some n0), .inr none] h (some (.inr none), h) := by
  rw [i_rn]
  show X xs L d 30 (0, [some (.inr (some 6)), some (.inr (some n0)), some (.inr none)], [], h) _
  simp only [e_30_0, e_30_1, e_30_4, e_30_5, true_and, and_true, and_self, false_and, and_false, if_true, if_false, ↓reduceIte, Nat.add_eq_left, Nat.left_eq_add, Nat.add_left_cancel_iff, not_false_eq_true, not_true_eq_false, i_pc, List.cons_append, List.nil_append, List.length_cons, List.length_nil, Nat.reduceEqDiff, Nat.reduceAdd, Nat.reduceMul, Nat.reduceSub, Nat.reduceLeDiff, Nat.reduceLT, Int32.reduceLT, Int32.reduceLE, Int32.reduceAdd, Int32.reduceSub, reduceCtorEq, true_or, or_true, or_false, false_or, ne_eq, Nat.zero_le]
/-- the expression is good -/
def cAcx (n : Nat) (W : Nat → Int32) (r : Bool × TS) : Prop := r.1 = true ∧ r.2.1 = n ∧ cFitL (aA r.2) W 4 0 = true
theorem t_ra_rej {pg pa : Nat} {W : Nat → Int32} (hT0 : T0 h n tx) (kp : hK h pg = 4) (rp : hR h pg 2 = some pa) (ka : hK h pa = 20) (la : hL h pa = 4) (hW : ∀ k, k < 4 → hI h pa k = W k) (hpg : 80 ≤ pg) (hpa : 80 ≤ pa) (hr : ¬ cAcx n W (cE n tx 5 (s0 h))) : Rn xs L (d + 20) 30 [.inr (some 6), .inr (some 4), .inr (some pg)] h (some (.inr none), tH (bgR h n) (cE n tx 5 (s0 h)).2) := by
  have hT := T0_TI hT0
  have h0 := hT
  obtain ⟨⟨k6, r0, r1, r2, r3, r4, r5⟩, ⟨k7, k8, k9, k10, k11, k5⟩, ⟨l7, l8, l9, l10, l11, l5⟩, h6, hn, htx⟩ := hT
  have kp2 : hK (bgR h n) pg = 4 := kp
  have rp2 : hR (bgR h n) pg 2 = some pa := by unfold bgR; rw [hR_sI, hR_sR, if_neg (by omega)]; exact rp
  have hW2 : ∀ s : TS, ∀ k, k < 4 → hI (tH (bgR h n) s) pa k = W k := fun s k hk => by
    unfold tH bgR
    simp only [hI_sA, hI_sI, hI_sR]
    rw [if_neg (by omega), if_neg (by omega), if_neg (by omega), if_neg (by omega), if_neg (by omega), if_neg (by omega), if_neg (by omega), if_neg (by omega), if_neg (by omega)]
    exact hW k hk
  rw [i_rn]
  show X xs L (d + 19) 30 (0, [some (.inr (some 6)), some (.inr (some 4)), some (.inr (some pg))], [], h) _
  simp only [e_30_0, e_30_1, e_30_6, e_30_7, e_30_8, true_and, and_true, and_self, false_and, and_false, if_true, if_false, ↓reduceIte, Nat.add_eq_left, Nat.left_eq_add, Nat.add_left_cancel_iff, not_false_eq_true, not_true_eq_false, i_pc, List.cons_append, List.nil_append, List.length_cons, List.length_nil, Nat.reduceEqDiff, Nat.reduceAdd, Nat.reduceMul, Nat.reduceSub, Nat.reduceLeDiff, Nat.reduceLT, Int32.reduceLT, Int32.reduceLE, Int32.reduceAdd, Int32.reduceSub, reduceCtorEq, true_or, or_true, or_false, false_or, ne_eq, Nat.zero_le, hT0.1.1]
  refine ⟨_, t_begin (d := d + 17) hT0, ?_⟩
  simp only [e_30_11, e_30_12, e_30_13, true_and, and_true, and_self, false_and, and_false, if_true, if_false, ↓reduceIte, Nat.add_eq_left, Nat.left_eq_add, Nat.add_left_cancel_iff, not_false_eq_true, not_true_eq_false, i_pc, List.cons_append, List.nil_append, List.length_cons, List.length_nil, Nat.reduceEqDiff, Nat.reduceAdd, Nat.reduceMul, Nat.reduceSub, Nat.reduceLeDiff, Nat.reduceLT, Int32.reduceLT, Int32.reduceLE, Int32.reduceAdd, Int32.reduceSub, reduceCtorEq, true_or, or_true, or_false, false_or, ne_eq, Nat.zero_le, Option.toList, th_K, k6]
  refine ⟨_, (t_E h0 5 0 d (by omega) _ bd_s0).1, ?_⟩
  cases c0 : (cE n tx 5 (s0 h)).1 with
  | false => simp only [e_30_16, e_30_41, e_30_42, true_and, and_true, and_self, false_and, and_false, if_true, if_false, ↓reduceIte, Nat.add_eq_left, Nat.left_eq_add, Nat.add_left_cancel_iff, not_false_eq_true, not_true_eq_false, i_pc, List.cons_append, List.nil_append, List.length_cons, List.length_nil, Nat.reduceEqDiff, Nat.reduceAdd, Nat.reduceMul, Nat.reduceSub, Nat.reduceLeDiff, Nat.reduceLT, Int32.reduceLT, Int32.reduceLE, Int32.reduceAdd, Int32.reduceSub, reduceCtorEq, true_or, or_true, or_false, false_or, ne_eq, Nat.zero_le, Option.toList, bI_ff]
  | true =>
    have hb := bd_E (n := n) (tx := tx) 5 _ (bd_s0 (h := h)) c0
    by_cases c1 : (cE n tx 5 (s0 h)).2.1 = n
    · have c1' : nI (cE n tx 5 (s0 h)).2.1 = nI n := by rw [c1]
      have c3 : cFitL (aA (cE n tx 5 (s0 h)).2) W 4 0 = false := by
        cases c4 : cFitL (aA (cE n tx 5 (s0 h)).2) W 4 0 with
        | false => rfl
        | true => exact absurd ⟨c0, c1, c4⟩ hr
      simp only [e_30_16, e_30_19, e_30_20, e_30_23, e_30_24, e_30_27, e_30_30, e_30_31, e_30_32, e_30_35, true_and, and_true, and_self, false_and, and_false, if_true, if_false, ↓reduceIte, Nat.add_eq_left, Nat.left_eq_add, Nat.add_left_cancel_iff, not_false_eq_true, not_true_eq_false, i_pc, List.cons_append, List.nil_append, List.length_cons, List.length_nil, Nat.reduceEqDiff, Nat.reduceAdd, Nat.reduceMul, Nat.reduceSub, Nat.reduceLeDiff, Nat.reduceLT, Int32.reduceLT, Int32.reduceLE, Int32.reduceAdd, Int32.reduceSub, reduceCtorEq, true_or, or_true, or_false, false_or, ne_eq, Nat.zero_le, Option.toList, th_K, th_R, th_67S, th_66, k6, h6, kp2, rp2, c1', bI_tt, show ((1 : Int32) = 0) = False from by decide]
      refine ⟨_, t_fit (W := W) h0 ka la (hW2 _), ?_⟩
      simp only [e_30_38, e_30_41, e_30_42, true_and, and_true, and_self, false_and, and_false, if_true, if_false, ↓reduceIte, Nat.add_eq_left, Nat.left_eq_add, Nat.add_left_cancel_iff, not_false_eq_true, not_true_eq_false, i_pc, List.cons_append, List.nil_append, List.length_cons, List.length_nil, Nat.reduceEqDiff, Nat.reduceAdd, Nat.reduceMul, Nat.reduceSub, Nat.reduceLeDiff, Nat.reduceLT, Int32.reduceLT, Int32.reduceLE, Int32.reduceAdd, Int32.reduceSub, reduceCtorEq, true_or, or_true, or_false, false_or, ne_eq, Nat.zero_le, Option.toList, c3, bI_ff]
    · have c1' : ¬ nI (cE n tx 5 (s0 h)).2.1 = nI n := fun e => c1 ((nI_eq (by have := hb.1; omega) (by omega)).mp e)
      simp only [e_30_16, e_30_19, e_30_20, e_30_23, e_30_24, e_30_27, e_30_41, e_30_42, true_and, and_true, and_self, false_and, and_false, if_true, if_false, ↓reduceIte, Nat.add_eq_left, Nat.left_eq_add, Nat.add_left_cancel_iff, not_false_eq_true, not_true_eq_false, i_pc, List.cons_append, List.nil_append, List.length_cons, List.length_nil, Nat.reduceEqDiff, Nat.reduceAdd, Nat.reduceMul, Nat.reduceSub, Nat.reduceLeDiff, Nat.reduceLT, Int32.reduceLT, Int32.reduceLE, Int32.reduceAdd, Int32.reduceSub, reduceCtorEq, true_or, or_true, or_false, false_or, ne_eq, Nat.zero_le, Option.toList, th_K, th_67S, th_66, k6, h6, c1', bI_tt, show ((1 : Int32) = 0) = False from by decide]
theorem t_ra_acc {pg pa : Nat} {W : Nat → Int32} (hT0 : T0 h n tx) (kp : hK h pg = 4) (rp : hR h pg 2 = some pa) (ka : hK h pa = 20) (la : hL h pa = 4) (hW : ∀ k, k < 4 → hI h pa k = W k) (hpg : 80 ≤ pg) (hpa : 80 ≤ pa) (hN80 : 80 ≤ hN h) (hr : cAcx n W (cE n tx 5 (s0 h))) : ∃ g, Rn xs L (d + 20) 30 [.inr (some 6), .inr (some 4), .inr (some pg)] h (some (.inr (some (hN h))), g) ∧ Sm (hN h) (tH (bgR h n) (cEmit 0 0 (cE n tx 5 (s0 h)).2)) g ∧ hN g = hN h + 3 ∧ hU g = hU h + (3 + ((cEmit 0 0 (cE n tx 5 (s0 h)).2).2.1 + (cEmit 0 0 (cE n tx 5 (s0 h)).2).2.1)) ∧ COD g (hN h) (cEmit 0 0 (cE n tx 5 (s0 h)).2).2.1 (aI (cEmit 0 0 (cE n tx 5 (s0 h)).2)) (aH (cEmit 0 0 (cE n tx 5 (s0 h)).2)) := by
  have hT := T0_TI hT0
  have h0 := hT
  obtain ⟨⟨k6, r0, r1, r2, r3, r4, r5⟩, ⟨k7, k8, k9, k10, k11, k5⟩, ⟨l7, l8, l9, l10, l11, l5⟩, h6, hn, htx⟩ := hT
  have kp2 : hK (bgR h n) pg = 4 := kp
  have rp2 : hR (bgR h n) pg 2 = some pa := by unfold bgR; rw [hR_sI, hR_sR, if_neg (by omega)]; exact rp
  have hW2 : ∀ s : TS, ∀ k, k < 4 → hI (tH (bgR h n) s) pa k = W k := fun s k hk => by
    unfold tH bgR
    simp only [hI_sA, hI_sI, hI_sR]
    rw [if_neg (by omega), if_neg (by omega), if_neg (by omega), if_neg (by omega), if_neg (by omega), if_neg (by omega), if_neg (by omega), if_neg (by omega), if_neg (by omega)]
    exact hW k hk
  obtain ⟨c0, c1, c3⟩ := hr
  have hb := bd_E (n := n) (tx := tx) 5 _ (bd_s0 (h := h)) c0
  have hb2 := bd_emit (op := 0) (x := 0) hb
  have c1' : nI (cE n tx 5 (s0 h)).2.1 = nI n := by rw [c1]
  generalize hs1 : (cE n tx 5 (s0 h)).2 = s1 at *
  generalize hs2 : cEmit 0 0 s1 = s2 at *
  have hz : s2.2.1 ≤ 151 := hb2.2.1
  have n7 : ¬ 7 = hN h := by omega
  have n8 : ¬ 8 = hN h := by omega
  have n6 : ¬ 6 = hN h := by omega
  have eN : hN (tH (bgR h n) s2) = hN h := rfl
  obtain ⟨f1, f2, e1, e2, hrc⟩ := t_code (xs := xs) (L := L) (d := d + 16) (g := nw (tH (bgR h n) s2) 1 0 3) (c := hN h) (i := 7) (j := 8) (m := s2.2.1) (by rw [hK_nw, if_pos eN.symm]) (by rw [hN_nw, eN]; omega) (by rw [hK_nw, eN, if_neg n7, th_K]; exact k7) (by rw [hK_nw, eN, if_neg n8, th_K]; exact k8) (by rw [hL_nw, eN, if_neg n7, th_L, l7]; exact hz) (by rw [hL_nw, eN, if_neg n8, th_L, l8]; exact hz) (by rw [hL_nw, eN, if_neg n7, th_L, l7]; decide) (by rw [hL_nw, eN, if_neg n8, th_L, l8]; decide) (by rw [hN_nw, eN]; omega) (by rw [hN_nw, eN]; omega)
  refine ⟨cdH (nw (tH (bgR h n) s2) 1 0 3) (hN h) s2.2.1 f1 f2, ?_, ?_, ?_, ?_, ?_⟩
  · rw [i_rn]
    show X xs L (d + 19) 30 (0, [some (.inr (some 6)), some (.inr (some 4)), some (.inr (some pg))], [], h) _
    simp only [e_30_0, e_30_1, e_30_6, e_30_7, e_30_8, true_and, and_true, and_self, false_and, and_false, if_true, if_false, ↓reduceIte, Nat.add_eq_left, Nat.left_eq_add, Nat.add_left_cancel_iff, not_false_eq_true, not_true_eq_false, i_pc, List.cons_append, List.nil_append, List.length_cons, List.length_nil, Nat.reduceEqDiff, Nat.reduceAdd, Nat.reduceMul, Nat.reduceSub, Nat.reduceLeDiff, Nat.reduceLT, Int32.reduceLT, Int32.reduceLE, Int32.reduceAdd, Int32.reduceSub, reduceCtorEq, true_or, or_true, or_false, false_or, ne_eq, Nat.zero_le, hT0.1.1]
    refine ⟨_, t_begin (d := d + 17) hT0, ?_⟩
    simp only [e_30_11, e_30_12, e_30_13, true_and, and_true, and_self, false_and, and_false, if_true, if_false, ↓reduceIte, Nat.add_eq_left, Nat.left_eq_add, Nat.add_left_cancel_iff, not_false_eq_true, not_true_eq_false, i_pc, List.cons_append, List.nil_append, List.length_cons, List.length_nil, Nat.reduceEqDiff, Nat.reduceAdd, Nat.reduceMul, Nat.reduceSub, Nat.reduceLeDiff, Nat.reduceLT, Int32.reduceLT, Int32.reduceLE, Int32.reduceAdd, Int32.reduceSub, reduceCtorEq, true_or, or_true, or_false, false_or, ne_eq, Nat.zero_le, Option.toList, th_K, k6]
    refine ⟨_, (t_E h0 5 0 d (by omega) _ bd_s0).1, ?_⟩
    simp only [e_30_16, e_30_19, e_30_20, e_30_23, e_30_24, e_30_27, e_30_30, e_30_31, e_30_32, e_30_35, true_and, and_true, and_self, false_and, and_false, if_true, if_false, ↓reduceIte, Nat.add_eq_left, Nat.left_eq_add, Nat.add_left_cancel_iff, not_false_eq_true, not_true_eq_false, i_pc, List.cons_append, List.nil_append, List.length_cons, List.length_nil, Nat.reduceEqDiff, Nat.reduceAdd, Nat.reduceMul, Nat.reduceSub, Nat.reduceLeDiff, Nat.reduceLT, Int32.reduceLT, Int32.reduceLE, Int32.reduceAdd, Int32.reduceSub, reduceCtorEq, true_or, or_true, or_false, false_or, ne_eq, Nat.zero_le, Option.toList, hs1, th_K, th_R, th_67S, th_66, k6, h6, kp2, rp2, c0, c1', bI_tt, show ((1 : Int32) = 0) = False from by decide]
    refine ⟨_, t_fit (W := W) h0 ka la (hW2 _), ?_⟩
    simp only [e_30_38, e_30_43, e_30_44, e_30_45, e_30_46, true_and, and_true, and_self, false_and, and_false, if_true, if_false, ↓reduceIte, Nat.add_eq_left, Nat.left_eq_add, Nat.add_left_cancel_iff, not_false_eq_true, not_true_eq_false, i_pc, List.cons_append, List.nil_append, List.length_cons, List.length_nil, Nat.reduceEqDiff, Nat.reduceAdd, Nat.reduceMul, Nat.reduceSub, Nat.reduceLeDiff, Nat.reduceLT, Int32.reduceLT, Int32.reduceLE, Int32.reduceAdd, Int32.reduceSub, reduceCtorEq, true_or, or_true, or_false, false_or, ne_eq, Nat.zero_le, Option.toList, c3, bI_tt, th_K, k6, show ((1 : Int32) = 0) = False from by decide]
    refine ⟨_, t_emitS h0 (by have := hb.2.1; omega), ?_⟩
    simp only [e_30_49, e_30_52, e_30_53, e_30_54, e_30_57, e_30_58, e_30_61, e_30_62, e_30_65, true_and, and_true, and_self, false_and, and_false, if_true, if_false, ↓reduceIte, Nat.add_eq_left, Nat.left_eq_add, Nat.add_left_cancel_iff, not_false_eq_true, not_true_eq_false, i_pc, List.cons_append, List.nil_append, List.length_cons, List.length_nil, Nat.reduceEqDiff, Nat.reduceAdd, Nat.reduceMul, Nat.reduceSub, Nat.reduceLeDiff, Nat.reduceLT, Int32.reduceLT, Int32.reduceLE, Int32.reduceAdd, Int32.reduceSub, reduceCtorEq, true_or, or_true, or_false, false_or, ne_eq, Nat.zero_le, Option.toList, hs2, hK_nw, hR_nw, hI_nw, th_K, th_R, th_68S, eN, n6, k6, r0, r1]
    refine ⟨_, hrc, ?_⟩
    simp only [e_30_68, true_and, and_true, and_self, false_and, and_false, if_true, if_false, ↓reduceIte, Nat.add_eq_left, Nat.left_eq_add, Nat.add_left_cancel_iff, not_false_eq_true, not_true_eq_false, i_pc, List.cons_append, List.nil_append, List.length_cons, List.length_nil, Nat.reduceEqDiff, Nat.reduceAdd, Nat.reduceMul, Nat.reduceSub, Nat.reduceLeDiff, Nat.reduceLT, Int32.reduceLT, Int32.reduceLE, Int32.reduceAdd, Int32.reduceSub, reduceCtorEq, true_or, or_true, or_false, false_or, ne_eq, Nat.zero_le, Option.toList]
  · exact sm_cd (Nat.le_refl _) (by rw [hN_nw, eN]; omega) (sm_nw (by rw [eN]; exact Nat.le_refl _) sm_rfl)
  · rw [cd_N.1, hN_nw, eN]
  · rw [cd_N.2, hU_nw]
    show hU h + 3 + _ = _
    omega
  · exact cd_COD (by rw [hN_nw, eN]) (by rw [hK_nw, if_pos eN.symm]) (by omega) (fun k hk => by rw [e1 k hk, hI_nw, eN, if_neg n7, th_7S]) (fun k hk => by rw [e2 k hk, hI_nw, eN, if_neg n8, th_8S])
end TK

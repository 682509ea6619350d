-- the desk: working out aside; small methods
section DB
variable {xs : Nat → Int32} {L d : Nat} {h h2 h3 : Hp} {res : Res} {μ : Nat}
/-- at most m more runs from point to point -/
def WO (xs : Nat → Int32) (L d μ : Nat) : Nat → Hp → Hp → Prop
  | 0, h, h2 => h2 = h
  | m + 1, h, h2 => hK h μ = 3 ∧ ((hI h μ 4 = 1 ∧ ∃ h1, Rn xs L d 12 [.inr (some μ)] h (none, h1) ∧ WO xs L d μ m h1 h2) ∨ (¬ hI h μ 4 = 1 ∧ h2 = h))
theorem r_wo_loop {a1 a2 a3 a4 : Option AV} : ∀ (m i : Nat) (h : Hp), i + m = 100 → WO xs L d μ m h h2 → X xs L d 10 (57, [some (.inr (some μ)), a1, a2, a3, a4, some (.inl (nI i))], [], h) (none, h2) := by
  intro m
  induction m with
  | zero =>
    intro i h hi hw
    have hi2 : i = 100 := by omega
    subst hi2
    have hw : h2 = h := hw
    subst hw
    simp only [e_10_57, e_10_59, e_10_61, e_10_82, true_and, and_true, and_self, false_and, and_false, if_true, if_false, ↓reduceIte, Nat.add_eq_left, Nat.left_eq_add, Nat.add_left_cancel_iff, not_false_eq_true, not_true_eq_false, i_pc, List.cons_append, List.nil_append, List.length_cons, List.length_nil, Nat.reduceEqDiff, Nat.reduceAdd, Nat.reduceMul, Nat.reduceSub, Nat.reduceLeDiff, Nat.reduceLT, Int32.reduceLT, Int32.reduceLE, Int32.reduceAdd, Int32.reduceSub, reduceCtorEq, true_or, or_true, or_false, false_or, ne_eq, Nat.zero_le, show ((100 : Int32) ≤ nI 100) = True from by decide]
  | succ m ih =>
    intro i h hi hw
    have c1 : ¬ (100 : Int32) ≤ nI i := nI_ge (b := 100) (by omega) (by decide)
    obtain ⟨k0, hw⟩ := hw
    rw [e_10_57]
    rcases hw with ⟨h1, hm, hr, hw⟩ | ⟨h1, rfl⟩
    · simp only [e_10_59, e_10_61, e_10_64, e_10_65, e_10_68, e_10_69, e_10_72, e_10_73, true_and, and_true, and_self, false_and, and_false, if_true, if_false, ↓reduceIte, Nat.add_eq_left, Nat.left_eq_add, Nat.add_left_cancel_iff, not_false_eq_true, not_true_eq_false, i_pc, List.cons_append, List.nil_append, List.length_cons, List.length_nil, Nat.reduceEqDiff, Nat.reduceAdd, Nat.reduceMul, Nat.reduceSub, Nat.reduceLeDiff, Nat.reduceLT, Int32.reduceLT, Int32.reduceLE, Int32.reduceAdd, Int32.reduceSub, reduceCtorEq, true_or, or_true, or_false, false_or, ne_eq, Nat.zero_le, c1, k0, h1]
      refine ⟨_, hr, ?_⟩
      simp only [e_10_76, e_10_79, true_and, and_true, and_self, false_and, and_false, if_true, if_false, ↓reduceIte, Nat.add_eq_left, Nat.left_eq_add, Nat.add_left_cancel_iff, not_false_eq_true, not_true_eq_false, i_pc, List.cons_append, List.nil_append, List.length_cons, List.length_nil, Nat.reduceEqDiff, Nat.reduceAdd, Nat.reduceMul, Nat.reduceSub, Nat.reduceLeDiff, Nat.reduceLT, Int32.reduceLT, Int32.reduceLE, Int32.reduceAdd, Int32.reduceSub, reduceCtorEq, true_or, or_true, or_false, false_or, ne_eq, Nat.zero_le, Option.toList, nI_1]
      exact ih (i + 1) _ (by omega) hw
    · simp only [e_10_59, e_10_61, e_10_64, e_10_65, e_10_68, e_10_69, e_10_82, true_and, and_true, and_self, false_and, and_false, if_true, if_false, ↓reduceIte, Nat.add_eq_left, Nat.left_eq_add, Nat.add_left_cancel_iff, not_false_eq_true, not_true_eq_false, i_pc, List.cons_append, List.nil_append, List.length_cons, List.length_nil, Nat.reduceEqDiff, Nat.reduceAdd, Nat.reduceMul, Nat.reduceSub, Nat.reduceLeDiff, Nat.reduceLT, Int32.reduceLT, Int32.reduceLE, Int32.reduceAdd, Int32.reduceSub, reduceCtorEq, true_or, or_true, or_false, false_or, ne_eq, Nat.zero_le, c1, k0, h1]
/-- workOut up to its first run -/
def woH (μ pg va c : Nat) (h : Hp) : Hp := sI (sI (sR (sA (sR (fgH μ h) μ 3 (some pg)) (μ + 3) (va_cpy (hI h va) (hI h (μ + 3)) 0 0 6)) (μ + 2) 1 (some c)) (μ + 2) 2 0) μ 6 1
theorem r_workOut {pg fo va c : Nat} {h1 : Hp} (hM : MI μ h) (kf : hK h fo = 2) (rf : hR h fo 0 = some va) (kv : hK h va = 20) (lv : hL h va = 6) (hv : va ≠ μ + 3) (hv2 : va ≠ μ) (hv3 : va ≠ μ + 15) (hfo : fo ≠ μ) (hr : Rn xs L (d + 2) 12 [.inr (some μ)] (woH μ pg va c h) (none, h1)) (hw : WO xs L (d + 2) μ 100 h1 h2) : Rn xs L (d + 3) 10 [.inr (some μ), .inr (some pg), .inr (some fo), .inr (some c)] h (none, h2) := by
  have k0 : hK h μ = 3 := hM.1
  have r0 : hR h μ 0 = some (μ + 1) := hM.2.1
  have kx : hK h (μ + 1) = 23 := hM.2.2.2.2.1
  have lx : hL h (μ + 1) = 6 := hM.2.2.2.2.2.1
  obtain ⟨f0, f1, f2, f3, f4⟩ := hM.2.2.2.2.2.2.2.2.2.2.2.2 0 (by decide)
  have f0 : hR h (μ + 1) 0 = some (μ + 2) := f0
  have f1 : hK h (μ + 2) = 2 := f1
  have f2 : hR h (μ + 2) 0 = some (μ + 3) := f2
  have f3 : hK h (μ + 3) = 20 := f3
  have f4 : hL h (μ + 3) = 6 := f4
  have gK : ∀ o, hK (fgH μ h) o = hK h o := fun _ => rfl
  have gL : ∀ o, hL (fgH μ h) o = hL h o := fun _ => rfl
  have gR : ∀ o k, hR (fgH μ h) o k = hR h o k := fun _ _ => rfl
  have gI : ∀ o k, ¬ o = μ → ¬ o = μ + 15 → hI (fgH μ h) o k = hI h o k := fun o k q1 q2 => by
    unfold fgH
    rw [hI_sI, if_neg (fun z => q2 z.1), hI_sI, if_neg (fun z => q1 z.1), hI_sI, if_neg (fun z => q1 z.1), hI_sI, if_neg (fun z => q1 z.1), hI_sI, if_neg (fun z => q1 z.1), hI_sI, if_neg (fun z => q1 z.1)]
  have eI1 : hI (fgH μ h) va = hI h va := funext (fun k => gI va k hv2 hv3)
  have eI2 : hI (fgH μ h) (μ + 3) = hI h (μ + 3) := funext (fun k => gI (μ + 3) k (by omega) (by omega))
  have eJ1 : hI (sR (fgH μ h) μ 3 (some pg)) va = hI h va := by rw [← eI1]; rfl
  have eJ2 : hI (sR (fgH μ h) μ 3 (some pg)) (μ + 3) = hI h (μ + 3) := by rw [← eI2]; rfl
  rw [i_rn]
  show X xs L (d + 2) 10 (0, [some (.inr (some μ)), some (.inr (some pg)), some (.inr (some fo)), some (.inr (some c)), none, none], [], h) _
  simp only [e_10_0, e_10_1, true_and, and_true, and_self, false_and, and_false, if_true, if_false, ↓reduceIte, Nat.add_eq_left, Nat.left_eq_add, Nat.add_left_cancel_iff, not_false_eq_true, not_true_eq_false, i_pc, List.cons_append, List.nil_append, List.length_cons, List.length_nil, Nat.reduceEqDiff, Nat.reduceAdd, Nat.reduceMul, Nat.reduceSub, Nat.reduceLeDiff, Nat.reduceLT, Int32.reduceLT, Int32.reduceLE, Int32.reduceAdd, Int32.reduceSub, reduceCtorEq, true_or, or_true, or_false, false_or, ne_eq, Nat.zero_le, k0]
  refine ⟨_, r_forget hM, ?_⟩
  simp only [e_10_4, e_10_5, e_10_6, e_10_9, e_10_10, e_10_13, e_10_14, e_10_15, e_10_17, e_10_18, e_10_21, e_10_22, e_10_24, e_10_27, e_10_28, e_10_30, e_10_33, e_10_35, e_10_36, e_10_39, e_10_41, e_10_42, e_10_45, e_10_46, e_10_47, e_10_50, e_10_51, true_and, and_true, and_self, false_and, and_false, if_true, if_false, ↓reduceIte, Nat.add_eq_left, Nat.left_eq_add, Nat.add_left_cancel_iff, not_false_eq_true, not_true_eq_false, i_pc, List.cons_append, List.nil_append, List.length_cons, List.length_nil, Nat.reduceEqDiff, Nat.reduceAdd, Nat.reduceMul, Nat.reduceSub, Nat.reduceLeDiff, Nat.reduceLT, Int32.reduceLT, Int32.reduceLE, Int32.reduceAdd, Int32.reduceSub, reduceCtorEq, true_or, or_true, or_false, false_or, ne_eq, Nat.zero_le, Option.toList, hK_sR, hL_sR, hR_sR, hK_sA, hR_sA, hK_sI, hR_sI, gK, gL, gR, eJ1, eJ2, k0, r0, kx, lx, f0, f1, f2, f3, f4, kf, rf, kv, lv, hv, hfo, show vp_in (0 : Int32) 6 from vin (n := 0) (by decide) (by decide), show (0 : Int32).toNatClampNeg = 0 from by decide, show (6 : Int32).toNatClampNeg = 6 from by decide, show ((0 : Int32) < 0) = False from by decide, show ((6 : Int32) < 0) = False from by decide, show ¬ (μ + 1 = μ ∧ 0 = 3) from by omega, show ¬ (0 : Nat) = 3 from by decide, show ¬ μ + 3 = μ + 2 from by omega]
  refine ⟨_, hr, ?_⟩
  simp only [e_10_54, e_10_55, true_and, and_true, and_self, false_and, and_false, if_true, if_false, ↓reduceIte, Nat.add_eq_left, Nat.left_eq_add, Nat.add_left_cancel_iff, not_false_eq_true, not_true_eq_false, i_pc, List.cons_append, List.nil_append, List.length_cons, List.length_nil, Nat.reduceEqDiff, Nat.reduceAdd, Nat.reduceMul, Nat.reduceSub, Nat.reduceLeDiff, Nat.reduceLT, Int32.reduceLT, Int32.reduceLE, Int32.reduceAdd, Int32.reduceSub, reduceCtorEq, true_or, or_true, or_false, false_or, ne_eq, Nat.zero_le, Option.toList]
  exact r_wo_loop 100 0 _ (by omega) hw
end DB

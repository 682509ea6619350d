-- CONSTRUCTORS of the class: the machine
section CB
variable {xs : Nat → Int32} {L d : Nat} {h g h0 : Hp} {res : Res} {μ o : Nat}
def MFs (μ : Nat) (h0 : Hp) (i : Nat) (h : Hp) : Prop := hN h = μ + (2 + 2 * i) ∧ hU h = hU h0 + (6 + 12 * i) ∧ hK h μ = 3 ∧ hR h μ 0 = some (μ + 1) ∧ hR h μ 3 = none ∧ hK h (μ + 1) = 23 ∧ hL h (μ + 1) = 6 ∧ (∀ j, j < i → hR h (μ + 1) j = some (μ + (2 + 2 * j)) ∧ hK h (μ + (2 + 2 * j)) = 2 ∧ hR h (μ + (2 + 2 * j)) 0 = some (μ + (3 + 2 * j)) ∧ hK h (μ + (3 + 2 * j)) = 20 ∧ hL h (μ + (3 + 2 * j)) = 6) ∧ Zr h ∧ Sm μ h0 h
theorem mf_step {i : Nat} (hi : i < 6) (hm : MFs μ h0 i h) : MFs μ h0 (i + 1) (sR (sR (nw (nw h 2 0 6) 20 6 6) (μ + (2 + 2 * i)) 0 (some (μ + (2 + 2 * i) + 1))) (μ + 1) i (some (μ + (2 + 2 * i)))) := by
  obtain ⟨a1, a2, a3, a4, a5, a6, a7, a8, a9, a10⟩ := hm
  refine ⟨?_, ?_, ?_, ?_, ?_, ?_, ?_, fun j hj => ?_, zr_sR (zr_sR (zr_nw (zr_nw a9))), sm_sR (by omega) (sm_sR (by omega) (sm_nw (by rw [hN_nw]; omega) (sm_nw (by omega) a10)))⟩
  · rw [hN_sR, hN_sR, hN_nw, hN_nw, a1]; omega
  · rw [hU_sR, hU_sR, hU_nw, hU_nw, a2]; omega
  · rw [hK_sR, hK_sR, hK_nw, hN_nw, a1, if_neg (by omega), hK_nw, a1, if_neg (by omega)]; exact a3
  · rw [hR_sR, if_neg (by omega), hR_sR, if_neg (by omega), hR_nw, hN_nw, a1, if_neg (by omega), hR_nw, a1, if_neg (by omega)]; exact a4
  · rw [hR_sR, if_neg (by omega), hR_sR, if_neg (by omega), hR_nw, hN_nw, a1, if_neg (by omega), hR_nw, a1, if_neg (by omega)]; exact a5
  · rw [hK_sR, hK_sR, hK_nw, hN_nw, a1, if_neg (by omega), hK_nw, a1, if_neg (by omega)]; exact a6
  · rw [hL_sR, hL_sR, hL_nw, hN_nw, a1, if_neg (by omega), hL_nw, a1, if_neg (by omega)]; exact a7
  · by_cases c : j = i
    · subst c
      refine ⟨by rw [hR_sR, if_pos ⟨rfl, rfl⟩], ?_, ?_, ?_, ?_⟩
      · rw [hK_sR, hK_sR, hK_nw, hN_nw, a1, if_neg (by omega), hK_nw, a1, if_pos (by omega)]
      · rw [hR_sR, if_neg (by omega), hR_sR, if_pos ⟨rfl, rfl⟩]; congr 1; omega
      · rw [hK_sR, hK_sR, hK_nw, hN_nw, a1, if_pos (by omega)]
      · rw [hL_sR, hL_sR, hL_nw, hN_nw, a1, if_pos (by omega)]
    · obtain ⟨b1, b2, b3, b4, b5⟩ := a8 j (by omega)
      refine ⟨?_, ?_, ?_, ?_, ?_⟩
      · rw [hR_sR, if_neg (by omega), hR_sR, if_neg (by omega), hR_nw, hN_nw, a1, if_neg (by omega), hR_nw, a1, if_neg (by omega)]; exact b1
      · rw [hK_sR, hK_sR, hK_nw, hN_nw, a1, if_neg (by omega), hK_nw, a1, if_neg (by omega)]; exact b2
      · rw [hR_sR, if_neg (by omega), hR_sR, if_neg (by omega), hR_nw, hN_nw, a1, if_neg (by omega), hR_nw, a1, if_neg (by omega)]; exact b3
      · rw [hK_sR, hK_sR, hK_nw, hN_nw, a1, if_neg (by omega), hK_nw, a1, if_neg (by omega)]; exact b4
      · rw [hL_sR, hL_sR, hL_nw, hN_nw, a1, if_neg (by omega), hL_nw, a1, if_neg (by omega)]; exact b5
theorem c_mach_loop : ∀ (m i : Nat) (h : Hp), i + m = 6 → MFs μ h0 i h → ∃ h', MFs μ h0 6 h' ∧ ∀ res, X xs L (d + 1) 6 (40, [some (.inr (some μ)), some (.inl (nI 6))], [], h') res → X xs L (d + 1) 6 (15, [some (.inr (some μ)), some (.inl (nI i))], [], h) res := by
  intro m
  induction m with
  | zero =>
    intro i h hi hm
    have : i = 6 := by omega
    subst this
    refine ⟨h, hm, fun res hX => ?_⟩
    simp only [e_6_15, e_6_16, e_6_18, true_and, and_true, and_self, false_and, and_false, if_true, if_false, ↓reduceIte, Nat.add_eq_left, Nat.left_eq_add, Nat.add_left_cancel_iff, not_false_eq_true, not_true_eq_false, i_pc, List.cons_append, List.nil_append, List.length_cons, List.length_nil, Nat.reduceEqDiff, Nat.reduceAdd, Nat.reduceMul, Nat.reduceSub, Nat.reduceLeDiff, Nat.reduceLT, Int32.reduceLT, Int32.reduceLE, Int32.reduceAdd, Int32.reduceSub, reduceCtorEq, true_or, or_true, or_false, false_or, ne_eq, Nat.zero_le, show ((6 : Int32) ≤ nI 6) = True from by decide]
    exact hX
  | succ m ih =>
    intro i h hi hm
    have hst := mf_step (by omega) hm
    obtain ⟨a1, a2, a3, a4, a5, a6, a7, a8, a9, a10⟩ := id hm
    have c1 : ¬ (6 : Int32) ≤ nI i := nI_ge (b := 6) (by omega) (by decide)
    have c2 : vp_in (nI i) 6 := vin (by omega) (by decide)
    have hk2 : hK (nw h 2 0 6) (μ + (2 + 2 * i)) = 2 := by rw [hK_nw, a1, if_pos rfl]
    have hn2 : hN (nw h 2 0 6) = μ + (2 + 2 * i) + 1 := by rw [hN_nw, a1]
    have hg : ∀ o, ¬ o = μ + (2 + 2 * i) → ¬ o = μ + (2 + 2 * i) + 1 → hK (sR (nw (nw h 2 0 6) 20 6 6) (μ + (2 + 2 * i)) 0 (some (μ + (2 + 2 * i) + 1))) o = hK h o ∧ hL (sR (nw (nw h 2 0 6) 20 6 6) (μ + (2 + 2 * i)) 0 (some (μ + (2 + 2 * i) + 1))) o = hL h o := fun o o1 o2 => by
      rw [hK_sR, hK_nw, hn2, if_neg o2, hK_nw, a1, if_neg o1, hL_sR, hL_nw, hn2, if_neg o2, hL_nw, a1, if_neg o1]
      exact ⟨rfl, rfl⟩
    have g1 := hg (μ + 1) (by omega) (by omega)
    rw [a6, a7] at g1
    have g2 : hK (sR (nw (nw h 2 0 6) 20 6 6) (μ + (2 + 2 * i)) 0 (some (μ + (2 + 2 * i) + 1))) (μ + (2 + 2 * i)) = 2 := by
      rw [hK_sR, hK_nw, hn2, if_neg (by omega)]; exact hk2
    obtain ⟨h', w1, w2⟩ := ih (i + 1) _ (by omega) hst
    refine ⟨h', w1, fun res hX => ?_⟩
    rw [e_6_15]
    simp only [e_6_16, e_6_18, e_6_21, e_6_22, e_6_25, e_6_26, e_6_29, e_6_30, true_and, and_true, and_self, false_and, and_false, if_true, if_false, ↓reduceIte, Nat.add_eq_left, Nat.left_eq_add, Nat.add_left_cancel_iff, not_false_eq_true, not_true_eq_false, i_pc, List.cons_append, List.nil_append, List.length_cons, List.length_nil, Nat.reduceEqDiff, Nat.reduceAdd, Nat.reduceMul, Nat.reduceSub, Nat.reduceLeDiff, Nat.reduceLT, Int32.reduceLT, Int32.reduceLE, Int32.reduceAdd, Int32.reduceSub, reduceCtorEq, true_or, or_true, or_false, false_or, ne_eq, Nat.zero_le, a1, a3, a4, c1, hk2]
    refine ⟨_, c_frame (h := nw h 2 0 6) hk2 hn2, ?_⟩
    simp only [e_6_33, e_6_33N, e_6_34, e_6_37, true_and, and_true, and_self, false_and, and_false, if_true, if_false, ↓reduceIte, Nat.add_eq_left, Nat.left_eq_add, Nat.add_left_cancel_iff, not_false_eq_true, not_true_eq_false, i_pc, List.cons_append, List.nil_append, List.length_cons, List.length_nil, Nat.reduceEqDiff, Nat.reduceAdd, Nat.reduceMul, Nat.reduceSub, Nat.reduceLeDiff, Nat.reduceLT, Int32.reduceLT, Int32.reduceLE, Int32.reduceAdd, Int32.reduceSub, reduceCtorEq, true_or, or_true, or_false, false_or, ne_eq, Nat.zero_le, Option.toList, g1.1, g1.2, g2, c2, nI_1, nI_cl (show i < 2 ^ 31 by omega)]
    exact w2 res hX
/-- new Machine -/
theorem c_mach (hk : hK h μ = 3) (hn : hN h = μ + 1) (hz : Zr h) (h3 : hR h μ 3 = none) : ∃ g, Rn xs L (d + 2) 6 [.inr (some μ)] h (none, g) ∧ MI μ g ∧ hN g = μ + 17 ∧ hU g = hU h + 216 ∧ Zr g ∧ Sm μ h g ∧ hR g μ 3 = none := by
  have h1 : MFs μ h 0 (sR (nw h 23 6 6) μ 0 (some (μ + 1))) := by
    refine ⟨by rw [hN_sR, hN_nw, hn], by rw [hU_sR, hU_nw], ?_, by rw [hR_sR, if_pos ⟨rfl, rfl⟩], ?_, ?_, ?_, fun j hj => absurd hj (Nat.not_lt_zero _), zr_sR (zr_nw hz), sm_sR (Nat.le_refl _) (sm_nw (by omega) sm_rfl)⟩
    · rw [hK_sR, hK_nw, hn, if_neg (by omega)]; exact hk
    · rw [hR_sR, if_neg (by omega), hR_nw, hn, if_neg (by omega)]; exact h3
    · rw [hK_sR, hK_nw, hn, if_pos rfl]
    · rw [hL_sR, hL_nw, hn, if_pos rfl]
  have key : ∀ h', MFs μ h 6 h' → X xs L (d + 1) 6 (40, [some (.inr (some μ)), some (.inl (nI 6))], [], h') (none, sR (sR (nw (nw (sR (nw h' 20 120 120) μ 1 (some (μ + 14))) 5 0 2) 20 16 16) (μ + 15) 0 (some (μ + 15 + 1))) μ 2 (some (μ + 15))) := fun h' hm => by
    obtain ⟨a1, a2, a3, a4, a5, a6, a7, a8, a9, a10⟩ := id hm
    have hN1 : hN (sR (nw h' 20 120 120) μ 1 (some (μ + 14))) = μ + 15 := by rw [hN_sR, hN_nw, a1]
    have hk2 : hK (nw (sR (nw h' 20 120 120) μ 1 (some (μ + 14))) 5 0 2) (μ + 15) = 5 := by rw [hK_nw, hN1, if_pos rfl]
    have hn2 : hN (nw (sR (nw h' 20 120 120) μ 1 (some (μ + 14))) 5 0 2) = μ + 15 + 1 := by rw [hN_nw, hN1]
    have hk0 : hK (nw h' 20 120 120) μ = 3 := by rw [hK_nw, a1, if_neg (by omega)]; exact a3
    have hk3 : hK (sR (nw (nw (sR (nw h' 20 120 120) μ 1 (some (μ + 14))) 5 0 2) 20 16 16) (μ + 15) 0 (some (μ + 15 + 1))) μ = 3 := by
      rw [hK_sR, hK_nw, hn2, if_neg (by omega), hK_nw, hN1, if_neg (by omega), hK_sR]; exact hk0
    simp only [e_6_40, e_6_41, e_6_43, e_6_45, e_6_48, e_6_49, e_6_52, e_6_53, true_and, and_true, and_self, false_and, and_false, if_true, if_false, ↓reduceIte, Nat.add_eq_left, Nat.left_eq_add, Nat.add_left_cancel_iff, not_false_eq_true, not_true_eq_false, i_pc, List.cons_append, List.nil_append, List.length_cons, List.length_nil, Nat.reduceEqDiff, Nat.reduceAdd, Nat.reduceMul, Nat.reduceSub, Nat.reduceLeDiff, Nat.reduceLT, Int32.reduceLT, Int32.reduceLE, Int32.reduceAdd, Int32.reduceSub, reduceCtorEq, true_or, or_true, or_false, false_or, ne_eq, Nat.zero_le, a1, hk0, hN1, hk2, show (120 : Int32).toNatClampNeg = 120 from by decide, show ((120 : Int32) < 0) = False from by decide]
    refine ⟨_, c_tail hk2 hn2, ?_⟩
    simp only [e_6_56, e_6_59, true_and, and_true, and_self, false_and, and_false, if_true, if_false, ↓reduceIte, Nat.add_eq_left, Nat.left_eq_add, Nat.add_left_cancel_iff, not_false_eq_true, not_true_eq_false, i_pc, List.cons_append, List.nil_append, List.length_cons, List.length_nil, Nat.reduceEqDiff, Nat.reduceAdd, Nat.reduceMul, Nat.reduceSub, Nat.reduceLeDiff, Nat.reduceLT, Int32.reduceLT, Int32.reduceLE, Int32.reduceAdd, Int32.reduceSub, reduceCtorEq, true_or, or_true, or_false, false_or, ne_eq, Nat.zero_le, Option.toList, hk3]
  obtain ⟨h', hm, hgo⟩ := c_mach_loop (xs := xs) (L := L) (d := d) 6 0 _ (by omega) h1
  have hX := hgo _ (key h' hm)
  obtain ⟨a1, a2, a3, a4, a5, a6, a7, a8, a9, a10⟩ := id hm
  have hN1 : hN (sR (nw h' 20 120 120) μ 1 (some (μ + 14))) = μ + 15 := by rw [hN_sR, hN_nw, a1]
  have hn2 : hN (nw (sR (nw h' 20 120 120) μ 1 (some (μ + 14))) 5 0 2) = μ + 15 + 1 := by rw [hN_nw, hN1]
  generalize hG : sR (sR (nw (nw (sR (nw h' 20 120 120) μ 1 (some (μ + 14))) 5 0 2) 20 16 16) (μ + 15) 0 (some (μ + 15 + 1))) μ 2 (some (μ + 15)) = g at *
  have kK : ∀ o, hK g o = if o = μ + 15 + 1 then 20 else if o = μ + 15 then 5 else if o = μ + 14 then 20 else hK h' o := fun o => by
    rw [← hG, hK_sR, hK_sR, hK_nw, hn2, hK_nw, hN1, hK_sR, hK_nw, a1]
  have kL : ∀ o, hL g o = if o = μ + 15 + 1 then 16 else if o = μ + 15 then 0 else if o = μ + 14 then 120 else hL h' o := fun o => by
    rw [← hG, hL_sR, hL_sR, hL_nw, hn2, hL_nw, hN1, hL_sR, hL_nw, a1]
  have kR : ∀ o k, hR g o k = if o = μ ∧ k = 2 then some (μ + 15) else if o = μ + 15 ∧ k = 0 then some (μ + 15 + 1) else if o = μ + 15 + 1 then none else if o = μ + 15 then none else if o = μ ∧ k = 1 then some (μ + 14) else if o = μ + 14 then none else hR h' o k := fun o k => by
    rw [← hG, hR_sR, hR_sR, hR_nw, hn2, hR_nw, hN1, hR_sR, hR_nw, a1]
  refine ⟨g, ?_, ⟨?_, ?_, ?_, ?_, ?_, ?_, ?_, ?_, ?_, ?_, ?_, ?_, fun i hi => ?_⟩, ?_, ?_, ?_, ?_, ?_⟩
  · rw [i_rn]
    show X xs L (d + 1) 6 (0, [some (.inr (some μ)), none], [], h) _
    have hk9 : hK (nw h 23 6 6) μ = 3 := by rw [hK_nw, hn, if_neg (by omega)]; exact hk
    simp only [e_6_0, e_6_1, e_6_4, e_6_5, e_6_7, e_6_10, e_6_13, e_6_14, true_and, and_true, and_self, false_and, and_false, if_true, if_false, ↓reduceIte, Nat.add_eq_left, Nat.left_eq_add, Nat.add_left_cancel_iff, not_false_eq_true, not_true_eq_false, i_pc, List.cons_append, List.nil_append, List.length_cons, List.length_nil, Nat.reduceEqDiff, Nat.reduceAdd, Nat.reduceMul, Nat.reduceSub, Nat.reduceLeDiff, Nat.reduceLT, Int32.reduceLT, Int32.reduceLE, Int32.reduceAdd, Int32.reduceSub, reduceCtorEq, true_or, or_true, or_false, false_or, ne_eq, Nat.zero_le, hn, hk9, show (6 : Int32).toNatClampNeg = 6 from by decide, show ((6 : Int32) < 0) = False from by decide]
    exact hX
  · rw [kK, if_neg (by omega), if_neg (by omega), if_neg (by omega)]; exact a3
  · rw [kR, if_neg (by omega), if_neg (by omega), if_neg (by omega), if_neg (by omega), if_neg (by omega), if_neg (by omega)]; exact a4
  · rw [kR, if_neg (by omega), if_neg (by omega), if_neg (by omega), if_neg (by omega), if_pos ⟨rfl, rfl⟩]
  · rw [kR, if_pos ⟨rfl, rfl⟩]
  · rw [kK, if_neg (by omega), if_neg (by omega), if_neg (by omega)]; exact a6
  · rw [kL, if_neg (by omega), if_neg (by omega), if_neg (by omega)]; exact a7
  · rw [kK, if_neg (by omega), if_neg (by omega), if_pos rfl]
  · rw [kL, if_neg (by omega), if_neg (by omega), if_pos rfl]
  · rw [kK, if_neg (by omega), if_pos rfl]
  · rw [kR, if_neg (by omega), if_pos ⟨rfl, rfl⟩]
  · rw [kK, if_pos (by omega)]
  · rw [kL, if_pos (by omega)]
  · obtain ⟨b1, b2, b3, b4, b5⟩ := a8 i hi
    refine ⟨?_, ?_, ?_, ?_, ?_⟩
    · rw [kR, if_neg (by omega), if_neg (by omega), if_neg (by omega), if_neg (by omega), if_neg (by omega), if_neg (by omega)]; exact b1
    · rw [kK, if_neg (by omega), if_neg (by omega), if_neg (by omega)]; exact b2
    · rw [kR, if_neg (by omega), if_neg (by omega), if_neg (by omega), if_neg (by omega), if_neg (by omega), if_neg (by omega)]; exact b3
    · rw [kK, if_neg (by omega), if_neg (by omega), if_neg (by omega)]; exact b4
    · rw [kL, if_neg (by omega), if_neg (by omega), if_neg (by omega)]; exact b5
  · rw [← hG, hN_sR, hN_sR, hN_nw, hn2]
  · rw [← hG, hU_sR, hU_sR, hU_nw, hU_nw, hU_sR, hU_nw, a2]
  · rw [← hG]; exact zr_sR (zr_sR (zr_nw (zr_nw (zr_sR (zr_nw a9)))))
  · rw [← hG]; exact sm_sR (Nat.le_refl _) (sm_sR (by omega) (sm_nw (by omega) (sm_nw (by omega) (sm_sR (Nat.le_refl _) (sm_nw (by omega) a10)))))
  · rw [kR, if_neg (by omega), if_neg (by omega), if_neg (by omega), if_neg (by omega), if_neg (by omega), if_neg (by omega)]; exact a5
end CB

-- THE LAW: from its first instruction on
section LI1
variable {xs : Nat → Int32} {L d i : Nat} {h h2 g : Hp}
theorem inv_0 (hD : DK h) (h12 : MI 12 h) (h29 : MI 29 h) (hT : TSh h) (hN0 : hN h = 80) (hU0 : hU h ≤ 20000) (hO : MO h) (hz : Zr h) (h36 : hR h 3 6 = none) (h48 : ∀ l, hR h 48 l = none) : INV 0 h h := by
  have z : ∀ o k, 3 ≤ o → o < 80 → hI h o k = 0 := fun o k q1 q2 => hz o k q1 (by omega)
  have zz : ∀ o k o2 k2, 3 ≤ o → o < 80 → 3 ≤ o2 → o2 < 80 → hI h o k = hI h o2 k2 := fun o k o2 k2 q1 q2 q3 q4 => (z o k q1 q2).trans (z o2 k2 q3 q4).symm
  refine ⟨⟨hD, h12, h29, hT, by omega, by omega, by omega, hO⟩, ⟨0, by decide, z 4 1 (by decide) (by decide), z 49 0 (by decide) (by decide), fun j hj => absurd hj (by omega)⟩, ⟨zz 3 7 49 33 (by decide) (by decide) (by decide) (by decide), Or.inl (z 3 7 (by decide) (by decide)), zz 3 8 49 34 (by decide) (by decide) (by decide) (by decide)⟩, ⟨0, by decide, z 46 1 (by decide) (by decide), z 49 42 (by decide) (by decide), fun k _ => zz 47 k 79 k (by decide) (by decide) (by decide) (by decide)⟩, ⟨0, by decide, z 27 1 (by decide) (by decide), z 49 40 (by decide) (by decide), fun k _ => zz 28 k 78 k (by decide) (by decide) (by decide) (by decide)⟩, ⟨zz 49 30 12 4 (by decide) (by decide) (by decide) (by decide), zz 49 31 12 5 (by decide) (by decide) (by decide) (by decide), zz 49 32 12 8 (by decide) (by decide) (by decide) (by decide), Or.inl (z 49 29 (by decide) (by decide)), fun f hf => ⟨0, by decide, z 57 f (by decide) (by decide)⟩, ⟨0, z 49 5 (by decide) (by decide)⟩, fun j hj => ?_⟩, Or.inl ⟨h36, z 49 4 (by decide) (by decide), z 12 4 (by decide) (by decide), z 12 6 (by decide) (by decide), fun l _ => h48 l⟩⟩
  rw [z 51 j (by decide) (by decide)]
  decide
theorem law_run (hL0 : L ≤ 2048) (hn : hN h = 3) (hu : hU h = 0) : ∃ hf, Rn xs L (d + 61) 130 [.inr (some 0)] h (some (.inl 1), hf) ∧ hN hf ≤ 5200 ∧ hU hf ≤ 532000 := by
  have zr1 : Zr (nw h 8 0 9) := fun o k q1 q2 => by
    have q2 : o < hN h + 1 := q2
    rw [hI_nw, if_pos (by omega)]
  obtain ⟨g, a1, a2, a3, a4, a5, a6, a7, a8, a9, a10, a11⟩ := c_desk (xs := xs) (L := L) (d := d + 57) (h := nw h 8 0 9) (by rw [hK_nw, if_pos hn.symm]) (by rw [hN_nw, hn]) (fun k => by rw [hR_nw, if_pos hn.symm]) zr1
  have sm : ∀ o, o < 49 → hK (nw g 9 0 44) o = hK g o ∧ hL (nw g 9 0 44) o = hL g o ∧ ∀ k, hR (nw g 9 0 44) o k = hR g o k := fun o ho => ⟨by rw [hK_nw, if_neg (by omega)], by rw [hL_nw, if_neg (by omega)], fun k => by rw [hR_nw, if_neg (by omega)]⟩
  obtain ⟨g2, b1, b2, b3, b4, b5, b6⟩ := c_model (xs := xs) (L := L) (d := d + 59) (h := nw g 9 0 44) (by rw [hK_nw, if_pos a6.symm]) (by rw [hN_nw, a6]) (zr_nw a8)
  have s2 : ∀ o, o < 49 → hK g2 o = hK g o ∧ hL g2 o = hL g o ∧ ∀ k, hR g2 o k = hR g o k := fun o ho => ⟨(b6 o ho).1.trans (sm o ho).1, (b6 o ho).2.1.trans (sm o ho).2.1, fun k => ((b6 o ho).2.2 k).trans ((sm o ho).2.2 k)⟩
  have hU2 : hU g2 = 9075 := by
    rw [b4]
    show hU g + 44 + 8036 = 9075
    rw [a7]
    show hU h + 9 + 986 + 44 + 8036 = 9075
    rw [hu]
  have hI0 : INV 0 g2 g2 := inv_0 (dk_ag (hc := g) (fun o ho => ⟨(s2 o ho).1, (s2 o ho).2.1⟩) (fun k _ => (s2 3 (by decide)).2.2 k) ((s2 4 (by decide)).2.2 0) ((s2 46 (by decide)).2.2 0) a2) (mi_same (h := g) (fun o q1 q2 => s2 o (by omega)) a3) (mi_same (h := g) (fun o q1 q2 => s2 o (by omega)) a4) (kp_tsh (h := g) (N := 12) (by decide) (fun o q1 q2 => s2 o (by omega)) a5) b3 (by omega) b2 b5 (((s2 3 (by decide)).2.2 6).trans a9) (fun l => ((s2 48 (by decide)).2.2 l).trans (a11 l))
  obtain ⟨hf, e1, e2, e3⟩ := law_loop (xs := xs) (L := L) (d := d) (by omega) (L / 4) 0 g2 (by omega) (by omega) (by omega) hI0
  refine ⟨hf, ?_, by omega, by omega⟩
  unfold lwS at e1
  rw [i_rn]
  show X xs L (d + 60) 130 (0, [some (.inr (some 0)), none, none, none], [], h) _
  simp only [e_130_0, e_130_3, e_130_4, true_and, and_true, and_self, false_and, and_false, if_true, if_false, ↓reduceIte, Nat.add_eq_left, Nat.left_eq_add, Nat.add_left_cancel_iff, not_false_eq_true, not_true_eq_false, i_pc, List.cons_append, List.nil_append, List.length_cons, List.length_nil, Nat.reduceEqDiff, Nat.reduceAdd, Nat.reduceMul, Nat.reduceSub, Nat.reduceLeDiff, Nat.reduceLT, Int32.reduceLT, Int32.reduceLE, Int32.reduceAdd, Int32.reduceSub, reduceCtorEq, true_or, or_true, or_false, false_or, ne_eq, Nat.zero_le, hn, hK_nw]
  refine ⟨_, a1, ?_⟩
  simp only [e_130_7, e_130_8, e_130_11, e_130_12, true_and, and_true, and_self, false_and, and_false, if_true, if_false, ↓reduceIte, Nat.add_eq_left, Nat.left_eq_add, Nat.add_left_cancel_iff, not_false_eq_true, not_true_eq_false, i_pc, List.cons_append, List.nil_append, List.length_cons, List.length_nil, Nat.reduceEqDiff, Nat.reduceAdd, Nat.reduceMul, Nat.reduceSub, Nat.reduceLeDiff, Nat.reduceLT, Int32.reduceLT, Int32.reduceLE, Int32.reduceAdd, Int32.reduceSub, reduceCtorEq, true_or, or_true, or_false, false_or, ne_eq, Nat.zero_le, Option.toList, a6, hK_nw]
  refine ⟨_, b1, ?_⟩
  simp only [e_130_15, e_130_16, e_130_17, true_and, and_true, and_self, false_and, and_false, if_true, if_false, ↓reduceIte, Nat.add_eq_left, Nat.left_eq_add, Nat.add_left_cancel_iff, not_false_eq_true, not_true_eq_false, i_pc, List.cons_append, List.nil_append, List.length_cons, List.length_nil, Nat.reduceEqDiff, Nat.reduceAdd, Nat.reduceMul, Nat.reduceSub, Nat.reduceLeDiff, Nat.reduceLT, Int32.reduceLT, Int32.reduceLE, Int32.reduceAdd, Int32.reduceSub, reduceCtorEq, true_or, or_true, or_false, false_or, ne_eq, Nat.zero_le, Option.toList]
  exact e1
end LI1

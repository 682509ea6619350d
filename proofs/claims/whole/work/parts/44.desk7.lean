-- the desk: load, start
def nuB : Nat → Nat → Hp → Hp
  | 0, _, h => h
  | m + 1, i, h => nuB m (i + 1) (sR h 48 i none)
def rsB : Nat → Nat → Hp → Hp
  | 0, _, h => h
  | m + 1, i, h => match hR h 48 i with
    | none => rsB m (i + 1) h
    | some o => rsB m (i + 1) (sI h o 3 0)
section DG
variable {xs : Nat → Int32} {L d : Nat} {h h1 h2 h3 : Hp} {res : Res} {pg : Nat}
theorem nu_K : ∀ (m i : Nat) (h : Hp) (o : Nat), hK (nuB m i h) o = hK h o := by
  intro m
  induction m with
  | zero => intro i h o; rfl
  | succ m ih => intro i h o; exact ih _ _ _
theorem nu_L : ∀ (m i : Nat) (h : Hp) (o : Nat), hL (nuB m i h) o = hL h o := by
  intro m
  induction m with
  | zero => intro i h o; rfl
  | succ m ih => intro i h o; exact ih _ _ _
theorem nu_I : ∀ (m i : Nat) (h : Hp) (o k : Nat), hI (nuB m i h) o k = hI h o k := by
  intro m
  induction m with
  | zero => intro i h o k; rfl
  | succ m ih => intro i h o k; exact ih _ _ _ _
theorem nu_N : ∀ (m i : Nat) (h : Hp), hN (nuB m i h) = hN h ∧ hU (nuB m i h) = hU h := by
  intro m
  induction m with
  | zero => intro i h; exact ⟨rfl, rfl⟩
  | succ m ih => intro i h; exact ih _ _
theorem nu_R : ∀ (m i : Nat) (h : Hp) (o k : Nat), hR (nuB m i h) o k = if o = 48 ∧ i ≤ k ∧ k < i + m then none else hR h o k := by
  intro m
  induction m with
  | zero => intro i h o k; rw [if_neg (by omega)]; rfl
  | succ m ih =>
    intro i h o k
    show hR (nuB m (i + 1) (sR h 48 i none)) o k = _
    rw [ih, hR_sR]
    by_cases c1 : o = 48 ∧ i + 1 ≤ k ∧ k < i + 1 + m
    · rw [if_pos c1, if_pos (by omega)]
    · rw [if_neg c1]
      by_cases c2 : o = 48 ∧ k = i
      · rw [if_pos c2, if_pos (by omega)]
      · rw [if_neg c2, if_neg (by omega)]
theorem d_clear (k4 : hK h 4 = 6) : Rn xs L (d + 1) 27 [.inr (some 4)] h (none, sI h 4 1 0) := by
  rw [i_rn]
  show X xs L d 27 (0, [some (.inr (some 4))], [], h) _
  simp only [e_27_0, e_27_1, e_27_2, e_27_5, true_and, and_true, and_self, false_and, and_false, if_true, if_false, ↓reduceIte, Nat.add_eq_left, Nat.left_eq_add, Nat.add_left_cancel_iff, not_false_eq_true, not_true_eq_false, i_pc, List.cons_append, List.nil_append, List.length_cons, List.length_nil, Nat.reduceEqDiff, Nat.reduceAdd, Nat.reduceMul, Nat.reduceSub, Nat.reduceLeDiff, Nat.reduceLT, Int32.reduceLT, Int32.reduceLE, Int32.reduceAdd, Int32.reduceSub, reduceCtorEq, true_or, or_true, or_false, false_or, ne_eq, Nat.zero_le, k4]
theorem d_load_no (hD : DK h) (k6 : hK h 6 = 7) (hr : Rn xs L (d + 1) 29 [.inr (some 6), .inr (some 4)] h (some (.inr none), h1)) (hD1 : DK h1) : Rn xs L (d + 2) 52 [.inr (some 3)] h (some (.inl (-1)), sI h1 4 1 0) := by
  obtain ⟨k3, r0, r1, r2, r3, r4, r5, k4, r40, k5, l5, k46, r46, k47, l47, k48, l48⟩ := hD
  have k3' := hD1.1
  have r0' := hD1.2.1
  have k4' : hK h1 4 = 6 := hD1.2.2.2.2.2.2.2.1
  rw [i_rn]
  show X xs L (d + 1) 52 (0, [some (.inr (some 3)), none, none], [], h) _
  simp only [e_52_0, e_52_1, e_52_4, e_52_5, e_52_8, true_and, and_true, and_self, false_and, and_false, if_true, if_false, ↓reduceIte, Nat.add_eq_left, Nat.left_eq_add, Nat.add_left_cancel_iff, not_false_eq_true, not_true_eq_false, i_pc, List.cons_append, List.nil_append, List.length_cons, List.length_nil, Nat.reduceEqDiff, Nat.reduceAdd, Nat.reduceMul, Nat.reduceSub, Nat.reduceLeDiff, Nat.reduceLT, Int32.reduceLT, Int32.reduceLE, Int32.reduceAdd, Int32.reduceSub, reduceCtorEq, true_or, or_true, or_false, false_or, ne_eq, Nat.zero_le, k3, r0, r1, k6]
  refine ⟨_, hr, ?_⟩
  simp only [e_52_11, e_52_12, e_52_13, e_52_16, true_and, and_true, and_self, false_and, and_false, if_true, if_false, ↓reduceIte, Nat.add_eq_left, Nat.left_eq_add, Nat.add_left_cancel_iff, not_false_eq_true, not_true_eq_false, i_pc, List.cons_append, List.nil_append, List.length_cons, List.length_nil, Nat.reduceEqDiff, Nat.reduceAdd, Nat.reduceMul, Nat.reduceSub, Nat.reduceLeDiff, Nat.reduceLT, Int32.reduceLT, Int32.reduceLE, Int32.reduceAdd, Int32.reduceSub, reduceCtorEq, true_or, or_true, or_false, false_or, ne_eq, Nat.zero_le, Option.toList, k3', r0', k4']
  refine ⟨_, d_clear k4', ?_⟩
  simp only [e_52_19, e_52_20, e_52_23, e_52_24, true_and, and_true, and_self, false_and, and_false, if_true, if_false, ↓reduceIte, Nat.add_eq_left, Nat.left_eq_add, Nat.add_left_cancel_iff, not_false_eq_true, not_true_eq_false, i_pc, List.cons_append, List.nil_append, List.length_cons, List.length_nil, Nat.reduceEqDiff, Nat.reduceAdd, Nat.reduceMul, Nat.reduceSub, Nat.reduceLeDiff, Nat.reduceLT, Int32.reduceLT, Int32.reduceLE, Int32.reduceAdd, Int32.reduceSub, reduceCtorEq, true_or, or_true, or_false, false_or, ne_eq, Nat.zero_le, Option.toList]
theorem d_nu_loop {a1 : Option AV} : ∀ (m i : Nat) (h : Hp), i + m = 40 → hK h 3 = 8 → hR h 3 5 = some 48 → hK h 48 = 24 → hL h 48 = 40 → X xs L d 52 (65, [some (.inr (some 3)), a1, some (.inl (nI 40))], [], nuB m i h) res → X xs L d 52 (46, [some (.inr (some 3)), a1, some (.inl (nI i))], [], h) res := by
  intro m
  induction m with
  | zero =>
    intro i h hi k3 r5 k48 l48 hX
    have hi2 : i = 40 := by omega
    subst hi2
    simp only [e_52_46, e_52_47, e_52_49, true_and, and_true, and_self, false_and, and_false, if_true, if_false, ↓reduceIte, Nat.add_eq_left, Nat.left_eq_add, Nat.add_left_cancel_iff, not_false_eq_true, not_true_eq_false, i_pc, List.cons_append, List.nil_append, List.length_cons, List.length_nil, Nat.reduceEqDiff, Nat.reduceAdd, Nat.reduceMul, Nat.reduceSub, Nat.reduceLeDiff, Nat.reduceLT, Int32.reduceLT, Int32.reduceLE, Int32.reduceAdd, Int32.reduceSub, reduceCtorEq, true_or, or_true, or_false, false_or, ne_eq, Nat.zero_le, show ((40 : Int32) ≤ nI 40) = True from by decide]
    exact hX
  | succ m ih =>
    intro i h hi k3 r5 k48 l48 hX
    have c1 : ¬ (40 : Int32) ≤ nI i := nI_ge (b := 40) (by omega) (by decide)
    have c2 : vp_in (nI i) 40 := vin (by omega) (by decide)
    rw [e_52_46]
    simp only [e_52_47, e_52_49, e_52_52, e_52_53, e_52_56, e_52_57, e_52_58, e_52_58N, e_52_59, e_52_62, true_and, and_true, and_self, false_and, and_false, if_true, if_false, ↓reduceIte, Nat.add_eq_left, Nat.left_eq_add, Nat.add_left_cancel_iff, not_false_eq_true, not_true_eq_false, i_pc, List.cons_append, List.nil_append, List.length_cons, List.length_nil, Nat.reduceEqDiff, Nat.reduceAdd, Nat.reduceMul, Nat.reduceSub, Nat.reduceLeDiff, Nat.reduceLT, Int32.reduceLT, Int32.reduceLE, Int32.reduceAdd, Int32.reduceSub, reduceCtorEq, true_or, or_true, or_false, false_or, ne_eq, Nat.zero_le, c1, c2, k3, r5, k48, l48, nI_1, nI_cl (show i < 2 ^ 31 by omega)]
    exact ih (i + 1) _ (by omega) k3 (by rw [hR_sR, if_neg (by omega)]; exact r5) k48 l48 hX
theorem d_ld_tail {v : Int32} {a1 a2 : Option AV} (hp : ¬ pg = 3) (k3 : hK h 3 = 8) (r6 : hR h 3 6 = some pg) (kp : hK h pg = 4) (hv : hI h pg 3 = v) : X xs L d 52 (65, [some (.inr (some 3)), a1, a2], [], h) (some (.inl v), sI (sI h 3 7 0) 3 8 0) := by
  simp only [e_52_65, e_52_66, e_52_67, e_52_70, e_52_71, e_52_72, e_52_75, e_52_76, e_52_79, e_52_82, true_and, and_true, and_self, false_and, and_false, if_true, if_false, ↓reduceIte, Nat.add_eq_left, Nat.left_eq_add, Nat.add_left_cancel_iff, not_false_eq_true, not_true_eq_false, i_pc, List.cons_append, List.nil_append, List.length_cons, List.length_nil, Nat.reduceEqDiff, Nat.reduceAdd, Nat.reduceMul, Nat.reduceSub, Nat.reduceLeDiff, Nat.reduceLT, Int32.reduceLT, Int32.reduceLE, Int32.reduceAdd, Int32.reduceSub, reduceCtorEq, true_or, or_true, or_false, false_or, ne_eq, Nat.zero_le, hK_sI, hR_sI, hI_sI, k3, r6, kp, hv, hp]
/-- what load leaves behind readProgram -/
def ldH (pg : Nat) (h1 : Hp) : Hp := sI (sI (nuB 40 0 (sI (fgH 12 (sR (sI h1 4 1 0) 3 6 (some pg))) 46 1 0)) 3 7 0) 3 8 0
theorem d_load {v : Int32} (hD : DK h) (k6 : hK h 6 = 7) (hr : Rn xs L (d + 2) 29 [.inr (some 6), .inr (some 4)] h (some (.inr (some pg)), h1)) (hD1 : DK h1) (hM1 : MI 12 h1) (hpg : 80 ≤ pg) (kp : hK h1 pg = 4) (hv : hI h1 pg 3 = v) : Rn xs L (d + 3) 52 [.inr (some 3)] h (some (.inl v), ldH pg h1) := by
  obtain ⟨k3, r0, r1, r2, r3, r4, r5, k4, r40, k5, l5, k46, r46, k47, l47, k48, l48⟩ := hD
  obtain ⟨k3', r0', r1', r2', r3', r4', r5', k4', r40', k5', l5', k46', r46', k47', l47', k48', l48'⟩ := hD1
  have k12 : hK h1 12 = 3 := hM1.1
  have q1 : ∀ k, ¬ k = 6 → hR (sR (sI h1 4 1 0) 3 6 (some pg)) 3 k = hR h1 3 k := fun k hk => by rw [hR_sR, if_neg (fun z => hk z.2), hR_sI]
  have gM : MI 12 (sR (sI h1 4 1 0) 3 6 (some pg)) := by
    obtain ⟨m1, m2, m3, m4, m5, m6, m7, m8, m9, m10, m11, m12, m13⟩ := hM1
    have q : ∀ o k, ¬ o = 3 → hR (sR (sI h1 4 1 0) 3 6 (some pg)) o k = hR h1 o k := fun o k ho => by rw [hR_sR, if_neg (fun z => ho z.1), hR_sI]
    exact ⟨m1, by rw [q _ _ (by omega)]; exact m2, by rw [q _ _ (by omega)]; exact m3, by rw [q _ _ (by omega)]; exact m4, m5, m6, m7, m8, m9, by rw [q _ _ (by omega)]; exact m10, m11, m12, fun i hi => ⟨by rw [q _ _ (by omega)]; exact (m13 i hi).1, (m13 i hi).2.1, by rw [q _ _ (by omega)]; exact (m13 i hi).2.2.1, (m13 i hi).2.2.2.1, (m13 i hi).2.2.2.2⟩⟩
  have gK : ∀ o, hK (fgH 12 (sR (sI h1 4 1 0) 3 6 (some pg))) o = hK h1 o := fun _ => rfl
  have gL : ∀ o, hL (fgH 12 (sR (sI h1 4 1 0) 3 6 (some pg))) o = hL h1 o := fun _ => rfl
  have gR : ∀ o k, hR (fgH 12 (sR (sI h1 4 1 0) 3 6 (some pg))) o k = hR (sR (sI h1 4 1 0) 3 6 (some pg)) o k := fun _ _ => rfl
  rw [i_rn]
  show X xs L (d + 2) 52 (0, [some (.inr (some 3)), none, none], [], h) _
  simp only [e_52_0, e_52_1, e_52_4, e_52_5, e_52_8, true_and, and_true, and_self, false_and, and_false, if_true, if_false, ↓reduceIte, Nat.add_eq_left, Nat.left_eq_add, Nat.add_left_cancel_iff, not_false_eq_true, not_true_eq_false, i_pc, List.cons_append, List.nil_append, List.length_cons, List.length_nil, Nat.reduceEqDiff, Nat.reduceAdd, Nat.reduceMul, Nat.reduceSub, Nat.reduceLeDiff, Nat.reduceLT, Int32.reduceLT, Int32.reduceLE, Int32.reduceAdd, Int32.reduceSub, reduceCtorEq, true_or, or_true, or_false, false_or, ne_eq, Nat.zero_le, k3, r0, r1, k6]
  refine ⟨_, hr, ?_⟩
  simp only [e_52_11, e_52_12, e_52_13, e_52_16, true_and, and_true, and_self, false_and, and_false, if_true, if_false, ↓reduceIte, Nat.add_eq_left, Nat.left_eq_add, Nat.add_left_cancel_iff, not_false_eq_true, not_true_eq_false, i_pc, List.cons_append, List.nil_append, List.length_cons, List.length_nil, Nat.reduceEqDiff, Nat.reduceAdd, Nat.reduceMul, Nat.reduceSub, Nat.reduceLeDiff, Nat.reduceLT, Int32.reduceLT, Int32.reduceLE, Int32.reduceAdd, Int32.reduceSub, reduceCtorEq, true_or, or_true, or_false, false_or, ne_eq, Nat.zero_le, Option.toList, k3', r0', k4']
  refine ⟨_, d_clear k4', ?_⟩
  simp only [e_52_19, e_52_20, e_52_25, e_52_26, e_52_27, e_52_30, e_52_31, e_52_34, true_and, and_true, and_self, false_and, and_false, if_true, if_false, ↓reduceIte, Nat.add_eq_left, Nat.left_eq_add, Nat.add_left_cancel_iff, not_false_eq_true, not_true_eq_false, i_pc, List.cons_append, List.nil_append, List.length_cons, List.length_nil, Nat.reduceEqDiff, Nat.reduceAdd, Nat.reduceMul, Nat.reduceSub, Nat.reduceLeDiff, Nat.reduceLT, Int32.reduceLT, Int32.reduceLE, Int32.reduceAdd, Int32.reduceSub, reduceCtorEq, true_or, or_true, or_false, false_or, ne_eq, Nat.zero_le, Option.toList, hK_sR, hK_sI, q1 2 (by decide), k3', r2', k12]
  refine ⟨_, r_forget gM, ?_⟩
  simp only [e_52_37, e_52_38, e_52_41, true_and, and_true, and_self, false_and, and_false, if_true, if_false, ↓reduceIte, Nat.add_eq_left, Nat.left_eq_add, Nat.add_left_cancel_iff, not_false_eq_true, not_true_eq_false, i_pc, List.cons_append, List.nil_append, List.length_cons, List.length_nil, Nat.reduceEqDiff, Nat.reduceAdd, Nat.reduceMul, Nat.reduceSub, Nat.reduceLeDiff, Nat.reduceLT, Int32.reduceLT, Int32.reduceLE, Int32.reduceAdd, Int32.reduceSub, reduceCtorEq, true_or, or_true, or_false, false_or, ne_eq, Nat.zero_le, Option.toList, gK, gR, q1 4 (by decide), k3', r4', k46']
  refine ⟨_, r_tclear (τ := 46) k46', ?_⟩
  simp only [e_52_44, e_52_45, true_and, and_true, and_self, false_and, and_false, if_true, if_false, ↓reduceIte, Nat.add_eq_left, Nat.left_eq_add, Nat.add_left_cancel_iff, not_false_eq_true, not_true_eq_false, i_pc, List.cons_append, List.nil_append, List.length_cons, List.length_nil, Nat.reduceEqDiff, Nat.reduceAdd, Nat.reduceMul, Nat.reduceSub, Nat.reduceLeDiff, Nat.reduceLT, Int32.reduceLT, Int32.reduceLE, Int32.reduceAdd, Int32.reduceSub, reduceCtorEq, true_or, or_true, or_false, false_or, ne_eq, Nat.zero_le, Option.toList]
  refine d_nu_loop 40 0 _ (by omega) k3' (by rw [hR_sI, gR, q1 5 (by decide)]; exact r5') k48' l48' ?_
  have e6 : hR (nuB 40 0 (sI (fgH 12 (sR (sI h1 4 1 0) 3 6 (some pg))) 46 1 0)) 3 6 = some pg := by rw [nu_R, if_neg (by omega), hR_sI, gR, hR_sR, if_pos ⟨rfl, rfl⟩]
  have e7 : hI (nuB 40 0 (sI (fgH 12 (sR (sI h1 4 1 0) 3 6 (some pg))) 46 1 0)) pg 3 = v := by
    rw [nu_I]
    unfold fgH
    simp only [hI_sI, hI_sR]
    rw [if_neg (by omega), if_neg (by omega), if_neg (by omega), if_neg (by omega), if_neg (by omega), if_neg (by omega), if_neg (by omega), if_neg (by omega)]
    exact hv
  have q3 : ¬ pg = 3 := by omega
  have e8 : hK (nuB 40 0 (sI (fgH 12 (sR (sI h1 4 1 0) 3 6 (some pg))) 46 1 0)) 3 = 8 := by rw [nu_K, hK_sI, gK]; exact k3'
  have e9 : hK (nuB 40 0 (sI (fgH 12 (sR (sI h1 4 1 0) 3 6 (some pg))) 46 1 0)) pg = 4 := by rw [nu_K, hK_sI, gK]; exact kp
  unfold ldH
  exact d_ld_tail q3 e8 e6 e9 e7
end DG

-- the model: go
def mgA (k b sp : Int32) (h : Hp) : Int32 := if ¬ hI h 49 33 = 0 ∧ ¬ hI h 49 29 = 0 then 3 else if ¬ sp = 0 then 1 else if stV k b (hI h 62 0) = true then 2 else 0
def gz9 (h : Hp) : Hp := sI (sI h 49 29 0) 49 32 (hI h 49 32 + 1)
/-- the model's turns of go -/
def MG (xs : Nat → Int32) (L d : Nat) (k b : Int32) : Nat → Hp → Int32 → Hp → Prop
  | 0, h, a, h2 => a = 0 ∧ h2 = h
  | m + 1, h, a, h2 => MO h ∧ ∃ q h1 hp h3 code, q < 6 ∧ hI h 62 0 = nI (q + 1) ∧ Rn xs L d 102 [.inr (some 49), .inl (nI q)] (gz9 h) (none, h1) ∧ MO h1 ∧ Rn xs L d 101 [.inr (some 49), .inl 0] h1 (some (.inl code), hp) ∧ MO hp ∧ Rn xs L d 103 [.inr (some 49), .inl code] hp (none, h3) ∧ MO h3 ∧ ((¬ hI h3 49 30 = 1 ∧ a = (if hI h3 49 30 = 3 then 5 else 4) ∧ h2 = h3) ∨ (hI h3 49 30 = 1 ∧ ∃ sp h4, Rn xs L d 106 [.inr (some 49)] h3 (some (.inl sp), h4) ∧ MO h4 ∧ ((¬ mgA k b sp h4 = 0 ∧ a = mgA k b sp h4 ∧ h2 = h4) ∨ (mgA k b sp h4 = 0 ∧ MG xs L d k b m h4 a h2))))
section NH
variable {xs : Nat → Int32} {L d : Nat} {h h1 h2 h3 : Hp} {res : Res} {l n r t : Nat} {k b a : Int32}
theorem m_go_tail {sp : Int32} {a3 a6 : Option AV} {n4 : Nat} (hO : MO h) (hk : ¬ k < 0 ∧ ¬ 3 < k) (h0 : ¬ mgA k b sp h = 0 → res = (some (.inl (mgA k b sp h)), h)) (hX : mgA k b sp h = 0 → ∀ a5 a6, X xs L d 107 (40, [some (.inr (some 49)), some (.inl k), a3, some (.inl b), some (.inl (nI (n4 + 1))), a5, a6], [], h) res) : X xs L d 107 (107, [some (.inr (some 49)), some (.inl k), a3, some (.inl b), some (.inl (nI n4)), some (.inl sp), a6], [], h) res := by
  -- is the step done?
  have step : ∀ res, (X xs L d 107 (149, [some (.inr (some 49)), some (.inl k), a3, some (.inl b), some (.inl (nI n4)), some (.inl sp), some (.inl (bI (stV k b (hI h 62 0))))], [], h) res) → X xs L d 107 (107, [some (.inr (some 49)), some (.inl k), a3, some (.inl b), some (.inl (nI n4)), some (.inl sp), a6], [], h) res := fun res hX0 => by
    unfold stV at hX0
    by_cases k1 : k = 1
    · rw [bI_t (Or.inl k1)] at hX0
      simp only [e_107_107, e_107_108, e_107_109, e_107_142, e_107_143, e_107_147, true_and, and_true, and_self, false_and, and_false, if_true, if_false, ↓reduceIte, Nat.add_eq_left, Nat.left_eq_add, Nat.add_left_cancel_iff, not_false_eq_true, not_true_eq_false, i_pc, List.cons_append, List.nil_append, List.length_cons, List.length_nil, Nat.reduceEqDiff, Nat.reduceAdd, Nat.reduceMul, Nat.reduceSub, Nat.reduceLeDiff, Nat.reduceLT, Int32.reduceLT, Int32.reduceLE, Int32.reduceAdd, Int32.reduceSub, reduceCtorEq, true_or, or_true, or_false, false_or, ne_eq, Nat.zero_le, k1]
      rw [k1] at hX0
      exact hX0
    by_cases k2 : k = 2
    · by_cases c : hI h 62 0 ≤ b
      · rw [bI_t (Or.inr (Or.inl ⟨k2, c⟩))] at hX0
        simp only [e_107_107, e_107_108, e_107_109, e_107_112, e_107_113, e_107_114, e_107_117, e_107_118, e_107_121, e_107_122, e_107_123, e_107_124, e_107_142, e_107_143, e_107_147, true_and, and_true, and_self, false_and, and_false, if_true, if_false, ↓reduceIte, Nat.add_eq_left, Nat.left_eq_add, Nat.add_left_cancel_iff, not_false_eq_true, not_true_eq_false, i_pc, List.cons_append, List.nil_append, List.length_cons, List.length_nil, Nat.reduceEqDiff, Nat.reduceAdd, Nat.reduceMul, Nat.reduceSub, Nat.reduceLeDiff, Nat.reduceLT, Int32.reduceLT, Int32.reduceLE, Int32.reduceAdd, Int32.reduceSub, reduceCtorEq, true_or, or_true, or_false, false_or, ne_eq, Nat.zero_le, k2, mo_k hO, mo_r62 hO, mo_k62 hO, mo_l62 hO, z2, z0, c, show ((2 : Int32) = 1) = False from by decide]
        rw [k2] at hX0
        exact hX0
      · rw [bI_f (fun z => z.elim k1 (fun z => z.elim (fun z => c z.2) (fun z => absurd (k2.symm.trans z.1) (by decide))))] at hX0
        simp only [e_107_107, e_107_108, e_107_109, e_107_112, e_107_113, e_107_114, e_107_117, e_107_118, e_107_121, e_107_122, e_107_123, e_107_124, e_107_127, e_107_128, e_107_129, e_107_146, e_107_147, true_and, and_true, and_self, false_and, and_false, if_true, if_false, ↓reduceIte, Nat.add_eq_left, Nat.left_eq_add, Nat.add_left_cancel_iff, not_false_eq_true, not_true_eq_false, i_pc, List.cons_append, List.nil_append, List.length_cons, List.length_nil, Nat.reduceEqDiff, Nat.reduceAdd, Nat.reduceMul, Nat.reduceSub, Nat.reduceLeDiff, Nat.reduceLT, Int32.reduceLT, Int32.reduceLE, Int32.reduceAdd, Int32.reduceSub, reduceCtorEq, true_or, or_true, or_false, false_or, ne_eq, Nat.zero_le, k2, mo_k hO, mo_r62 hO, mo_k62 hO, mo_l62 hO, z2, z0, c, show ((2 : Int32) = 1) = False from by decide, show ((2 : Int32) = 3) = False from by decide]
        rw [k2] at hX0
        exact hX0
    by_cases k3 : k = 3
    · by_cases c : hI h 62 0 < b
      · have c2 : ¬ b ≤ hI h 62 0 := Int32.not_le.mpr c
        rw [bI_t (Or.inr (Or.inr ⟨k3, c⟩))] at hX0
        simp only [e_107_107, e_107_108, e_107_109, e_107_112, e_107_113, e_107_114, e_107_127, e_107_128, e_107_129, e_107_132, e_107_133, e_107_136, e_107_137, e_107_138, e_107_139, e_107_142, e_107_143, e_107_147, true_and, and_true, and_self, false_and, and_false, if_true, if_false, ↓reduceIte, Nat.add_eq_left, Nat.left_eq_add, Nat.add_left_cancel_iff, not_false_eq_true, not_true_eq_false, i_pc, List.cons_append, List.nil_append, List.length_cons, List.length_nil, Nat.reduceEqDiff, Nat.reduceAdd, Nat.reduceMul, Nat.reduceSub, Nat.reduceLeDiff, Nat.reduceLT, Int32.reduceLT, Int32.reduceLE, Int32.reduceAdd, Int32.reduceSub, reduceCtorEq, true_or, or_true, or_false, false_or, ne_eq, Nat.zero_le, k3, mo_k hO, mo_r62 hO, mo_k62 hO, mo_l62 hO, z2, z0, c2, show ((3 : Int32) = 1) = False from by decide, show ((3 : Int32) = 2) = False from by decide]
        rw [k3] at hX0
        exact hX0
      · have c2 : b ≤ hI h 62 0 := Int32.not_lt.mp c
        rw [bI_f (fun z => z.elim k1 (fun z => z.elim (fun z => k2 z.1) (fun z => c z.2)))] at hX0
        simp only [e_107_107, e_107_108, e_107_109, e_107_112, e_107_113, e_107_114, e_107_127, e_107_128, e_107_129, e_107_132, e_107_133, e_107_136, e_107_137, e_107_138, e_107_139, e_107_146, e_107_147, true_and, and_true, and_self, false_and, and_false, if_true, if_false, ↓reduceIte, Nat.add_eq_left, Nat.left_eq_add, Nat.add_left_cancel_iff, not_false_eq_true, not_true_eq_false, i_pc, List.cons_append, List.nil_append, List.length_cons, List.length_nil, Nat.reduceEqDiff, Nat.reduceAdd, Nat.reduceMul, Nat.reduceSub, Nat.reduceLeDiff, Nat.reduceLT, Int32.reduceLT, Int32.reduceLE, Int32.reduceAdd, Int32.reduceSub, reduceCtorEq, true_or, or_true, or_false, false_or, ne_eq, Nat.zero_le, k3, mo_k hO, mo_r62 hO, mo_k62 hO, mo_l62 hO, z2, z0, c2, show ((3 : Int32) = 1) = False from by decide, show ((3 : Int32) = 2) = False from by decide]
        rw [k3] at hX0
        exact hX0
    · rw [bI_f (fun z => z.elim k1 (fun z => z.elim (fun z => k2 z.1) (fun z => k3 z.1)))] at hX0
      simp only [e_107_107, e_107_108, e_107_109, e_107_112, e_107_113, e_107_114, e_107_127, e_107_128, e_107_129, e_107_146, e_107_147, true_and, and_true, and_self, false_and, and_false, if_true, if_false, ↓reduceIte, Nat.add_eq_left, Nat.left_eq_add, Nat.add_left_cancel_iff, not_false_eq_true, not_true_eq_false, i_pc, List.cons_append, List.nil_append, List.length_cons, List.length_nil, Nat.reduceEqDiff, Nat.reduceAdd, Nat.reduceMul, Nat.reduceSub, Nat.reduceLeDiff, Nat.reduceLT, Int32.reduceLT, Int32.reduceLE, Int32.reduceAdd, Int32.reduceSub, reduceCtorEq, true_or, or_true, or_false, false_or, ne_eq, Nat.zero_le, k1, k2, k3]
      exact hX0
  refine step _ ?_
  unfold mgA at h0 hX
  by_cases c1 : hI h 49 33 = 0
  · have hn1 : ¬ (¬ hI h 49 33 = 0 ∧ ¬ hI h 49 29 = 0) := fun z => z.1 c1
    rw [if_neg hn1] at h0 hX
    by_cases c3 : sp = 0
    · have hn2 : ¬ ¬ sp = 0 := fun z => z c3
      rw [if_neg hn2] at h0 hX
      cases hst : stV k b (hI h 62 0) with
      | true =>
        rw [hst, if_pos rfl] at h0
        rw [h0 (by decide), bI_tt]
        simp only [e_107_149, e_107_150, e_107_153, e_107_165, e_107_167, e_107_170, e_107_172, e_107_175, e_107_177, e_107_184, e_107_185, true_and, and_true, and_self, false_and, and_false, if_true, if_false, ↓reduceIte, Nat.add_eq_left, Nat.left_eq_add, Nat.add_left_cancel_iff, not_false_eq_true, not_true_eq_false, i_pc, List.cons_append, List.nil_append, List.length_cons, List.length_nil, Nat.reduceEqDiff, Nat.reduceAdd, Nat.reduceMul, Nat.reduceSub, Nat.reduceLeDiff, Nat.reduceLT, Int32.reduceLT, Int32.reduceLE, Int32.reduceAdd, Int32.reduceSub, reduceCtorEq, true_or, or_true, or_false, false_or, ne_eq, Nat.zero_le, mo_k hO, c1, c3, show ((1 : Int32) = 0) = False from by decide]
      | false =>
        rw [hst, if_neg (by decide)] at hX
        have hX := hX rfl
        rw [bI_ff]
        simp only [e_107_149, e_107_150, e_107_153, e_107_165, e_107_167, e_107_170, e_107_172, e_107_186, e_107_189, true_and, and_true, and_self, false_and, and_false, if_true, if_false, ↓reduceIte, Nat.add_eq_left, Nat.left_eq_add, Nat.add_left_cancel_iff, not_false_eq_true, not_true_eq_false, i_pc, List.cons_append, List.nil_append, List.length_cons, List.length_nil, Nat.reduceEqDiff, Nat.reduceAdd, Nat.reduceMul, Nat.reduceSub, Nat.reduceLeDiff, Nat.reduceLT, Int32.reduceLT, Int32.reduceLE, Int32.reduceAdd, Int32.reduceSub, reduceCtorEq, true_or, or_true, or_false, false_or, ne_eq, Nat.zero_le, mo_k hO, c1, c3, nI_1]
        exact hX _ _
    · rw [if_pos c3] at h0
      rw [h0 (by decide)]
      simp only [e_107_149, e_107_150, e_107_153, e_107_165, e_107_167, e_107_175, e_107_177, e_107_180, e_107_181, e_107_185, true_and, and_true, and_self, false_and, and_false, if_true, if_false, ↓reduceIte, Nat.add_eq_left, Nat.left_eq_add, Nat.add_left_cancel_iff, not_false_eq_true, not_true_eq_false, i_pc, List.cons_append, List.nil_append, List.length_cons, List.length_nil, Nat.reduceEqDiff, Nat.reduceAdd, Nat.reduceMul, Nat.reduceSub, Nat.reduceLeDiff, Nat.reduceLT, Int32.reduceLT, Int32.reduceLE, Int32.reduceAdd, Int32.reduceSub, reduceCtorEq, true_or, or_true, or_false, false_or, ne_eq, Nat.zero_le, mo_k hO, c1, c3]
  · by_cases c2 : hI h 49 29 = 0
    · have hn1 : ¬ (¬ hI h 49 33 = 0 ∧ ¬ hI h 49 29 = 0) := fun z => z.2 c2
      rw [if_neg hn1] at h0 hX
      by_cases c3 : sp = 0
      · have hn2 : ¬ ¬ sp = 0 := fun z => z c3
        rw [if_neg hn2] at h0 hX
        cases hst : stV k b (hI h 62 0) with
        | true =>
          rw [hst, if_pos rfl] at h0
          rw [h0 (by decide), bI_tt]
          simp only [e_107_149, e_107_150, e_107_153, e_107_156, e_107_157, e_107_160, e_107_165, e_107_167, e_107_170, e_107_172, e_107_175, e_107_177, e_107_184, e_107_185, true_and, and_true, and_self, false_and, and_false, if_true, if_false, ↓reduceIte, Nat.add_eq_left, Nat.left_eq_add, Nat.add_left_cancel_iff, not_false_eq_true, not_true_eq_false, i_pc, List.cons_append, List.nil_append, List.length_cons, List.length_nil, Nat.reduceEqDiff, Nat.reduceAdd, Nat.reduceMul, Nat.reduceSub, Nat.reduceLeDiff, Nat.reduceLT, Int32.reduceLT, Int32.reduceLE, Int32.reduceAdd, Int32.reduceSub, reduceCtorEq, true_or, or_true, or_false, false_or, ne_eq, Nat.zero_le, mo_k hO, c1, c2, c3, show ((1 : Int32) = 0) = False from by decide]
        | false =>
          rw [hst, if_neg (by decide)] at hX
          have hX := hX rfl
          rw [bI_ff]
          simp only [e_107_149, e_107_150, e_107_153, e_107_156, e_107_157, e_107_160, e_107_165, e_107_167, e_107_170, e_107_172, e_107_186, e_107_189, true_and, and_true, and_self, false_and, and_false, if_true, if_false, ↓reduceIte, Nat.add_eq_left, Nat.left_eq_add, Nat.add_left_cancel_iff, not_false_eq_true, not_true_eq_false, i_pc, List.cons_append, List.nil_append, List.length_cons, List.length_nil, Nat.reduceEqDiff, Nat.reduceAdd, Nat.reduceMul, Nat.reduceSub, Nat.reduceLeDiff, Nat.reduceLT, Int32.reduceLT, Int32.reduceLE, Int32.reduceAdd, Int32.reduceSub, reduceCtorEq, true_or, or_true, or_false, false_or, ne_eq, Nat.zero_le, mo_k hO, c1, c2, c3, nI_1]
          exact hX _ _
      · rw [if_pos c3] at h0
        rw [h0 (by decide)]
        simp only [e_107_149, e_107_150, e_107_153, e_107_156, e_107_157, e_107_160, e_107_165, e_107_167, e_107_175, e_107_177, e_107_180, e_107_181, e_107_185, true_and, and_true, and_self, false_and, and_false, if_true, if_false, ↓reduceIte, Nat.add_eq_left, Nat.left_eq_add, Nat.add_left_cancel_iff, not_false_eq_true, not_true_eq_false, i_pc, List.cons_append, List.nil_append, List.length_cons, List.length_nil, Nat.reduceEqDiff, Nat.reduceAdd, Nat.reduceMul, Nat.reduceSub, Nat.reduceLeDiff, Nat.reduceLT, Int32.reduceLT, Int32.reduceLE, Int32.reduceAdd, Int32.reduceSub, reduceCtorEq, true_or, or_true, or_false, false_or, ne_eq, Nat.zero_le, mo_k hO, c1, c2, c3]
    · rw [if_pos ⟨c1, c2⟩] at h0
      rw [h0 (by decide)]
      simp only [e_107_149, e_107_150, e_107_153, e_107_156, e_107_157, e_107_160, e_107_163, e_107_164, true_and, and_true, and_self, false_and, and_false, if_true, if_false, ↓reduceIte, Nat.add_eq_left, Nat.left_eq_add, Nat.add_left_cancel_iff, not_false_eq_true, not_true_eq_false, i_pc, List.cons_append, List.nil_append, List.length_cons, List.length_nil, Nat.reduceEqDiff, Nat.reduceAdd, Nat.reduceMul, Nat.reduceSub, Nat.reduceLeDiff, Nat.reduceLT, Int32.reduceLT, Int32.reduceLE, Int32.reduceAdd, Int32.reduceSub, reduceCtorEq, true_or, or_true, or_false, false_or, ne_eq, Nat.zero_le, mo_k hO, c1, c2]
theorem m_go_loop (hn : n ≤ 50) (hk : ¬ k < 0 ∧ ¬ 3 < k) : ∀ (m i : Nat) (h : Hp), i + m = n → MG xs L (d + 1) k b m h a h2 → ∀ a5 a6, X xs L (d + 1) 107 (40, [some (.inr (some 49)), some (.inl k), some (.inl (nI n)), some (.inl b), some (.inl (nI i)), a5, a6], [], h) (some (.inl a), h2) := by
  intro m
  induction m with
  | zero =>
    intro i h hi hG a5 a6
    obtain ⟨e1, e2⟩ := hG
    have : i = n := by omega
    subst this
    rw [e1, e2]
    simp only [e_107_40, e_107_42, e_107_43, e_107_192, e_107_193, true_and, and_true, and_self, false_and, and_false, if_true, if_false, ↓reduceIte, Nat.add_eq_left, Nat.left_eq_add, Nat.add_left_cancel_iff, not_false_eq_true, not_true_eq_false, i_pc, List.cons_append, List.nil_append, List.length_cons, List.length_nil, Nat.reduceEqDiff, Nat.reduceAdd, Nat.reduceMul, Nat.reduceSub, Nat.reduceLeDiff, Nat.reduceLT, Int32.reduceLT, Int32.reduceLE, Int32.reduceAdd, Int32.reduceSub, reduceCtorEq, true_or, or_true, or_false, false_or, ne_eq, Nat.zero_le, Int32.le_refl]
  | succ m ih =>
    intro i h hi hG a5 a6
    obtain ⟨hO, q, h1, hp, h3, code, q1, q2, q3, q4, q5, q6, q7, q8, q9⟩ := hG
    have c1 : ¬ nI n ≤ nI i := nI_ge (by omega) (by omega)
    have hOz : MO (gz9 h) := hO
    have e62 : hI (gz9 h) 62 0 = nI (q + 1) := by unfold gz9; rw [hI_ne (by omega), hI_ne (by omega)]; exact q2
    have e6 : 6 * 0 + q = q := by omega
    have e32 : hI (sI h 49 29 0) 49 32 = hI h 49 32 := hI_ne (by omega)
    rw [e_107_40]
    simp only [e_107_42, e_107_43, e_107_46, e_107_47, e_107_48, e_107_51, e_107_52, e_107_53, e_107_56, e_107_57, e_107_58, e_107_61, e_107_62, e_107_63, e_107_64, true_and, and_true, and_self, false_and, and_false, if_true, if_false, ↓reduceIte, Nat.add_eq_left, Nat.left_eq_add, Nat.add_left_cancel_iff, not_false_eq_true, not_true_eq_false, i_pc, List.cons_append, List.nil_append, List.length_cons, List.length_nil, Nat.reduceEqDiff, Nat.reduceAdd, Nat.reduceMul, Nat.reduceSub, Nat.reduceLeDiff, Nat.reduceLT, Int32.reduceLT, Int32.reduceLE, Int32.reduceAdd, Int32.reduceSub, reduceCtorEq, true_or, or_true, or_false, false_or, ne_eq, Nat.zero_le, hK_sI, mo_k hO, c1, e32]
    rw [show sI (sI h 49 29 0) 49 32 (hI h 49 32 + 1) = gz9 h from rfl]
    refine ⟨_, m_top (m := 0) hOz (by decide) e62 q1, ?_⟩
    rw [e6]
    simp only [e_107_67, true_and, and_true, and_self, false_and, and_false, if_true, if_false, ↓reduceIte, Nat.add_eq_left, Nat.left_eq_add, Nat.add_left_cancel_iff, not_false_eq_true, not_true_eq_false, i_pc, List.cons_append, List.nil_append, List.length_cons, List.length_nil, Nat.reduceEqDiff, Nat.reduceAdd, Nat.reduceMul, Nat.reduceSub, Nat.reduceLeDiff, Nat.reduceLT, Int32.reduceLT, Int32.reduceLE, Int32.reduceAdd, Int32.reduceSub, reduceCtorEq, true_or, or_true, or_false, false_or, ne_eq, Nat.zero_le, Option.toList, mo_k hOz]
    refine ⟨_, q3, ?_⟩
    simp only [e_107_70, e_107_71, e_107_72, e_107_73, true_and, and_true, and_self, false_and, and_false, if_true, if_false, ↓reduceIte, Nat.add_eq_left, Nat.left_eq_add, Nat.add_left_cancel_iff, not_false_eq_true, not_true_eq_false, i_pc, List.cons_append, List.nil_append, List.length_cons, List.length_nil, Nat.reduceEqDiff, Nat.reduceAdd, Nat.reduceMul, Nat.reduceSub, Nat.reduceLeDiff, Nat.reduceLT, Int32.reduceLT, Int32.reduceLE, Int32.reduceAdd, Int32.reduceSub, reduceCtorEq, true_or, or_true, or_false, false_or, ne_eq, Nat.zero_le, Option.toList, mo_k q4]
    refine ⟨_, q5, ?_⟩
    simp only [e_107_76, true_and, and_true, and_self, false_and, and_false, if_true, if_false, ↓reduceIte, Nat.add_eq_left, Nat.left_eq_add, Nat.add_left_cancel_iff, not_false_eq_true, not_true_eq_false, i_pc, List.cons_append, List.nil_append, List.length_cons, List.length_nil, Nat.reduceEqDiff, Nat.reduceAdd, Nat.reduceMul, Nat.reduceSub, Nat.reduceLeDiff, Nat.reduceLT, Int32.reduceLT, Int32.reduceLE, Int32.reduceAdd, Int32.reduceSub, reduceCtorEq, true_or, or_true, or_false, false_or, ne_eq, Nat.zero_le, Option.toList, mo_k q6]
    refine ⟨_, q7, ?_⟩
    rcases q9 with ⟨w1, w2, w3⟩ | ⟨w1, sp, h4, w2, w3, w4⟩
    · rw [w2, w3]
      by_cases c3 : hI h3 49 30 = 3
      · simp only [e_107_79, e_107_80, e_107_83, e_107_84, e_107_87, e_107_88, e_107_91, e_107_92, e_107_95, e_107_96, e_107_100, true_and, and_true, and_self, false_and, and_false, if_true, if_false, ↓reduceIte, Nat.add_eq_left, Nat.left_eq_add, Nat.add_left_cancel_iff, not_false_eq_true, not_true_eq_false, i_pc, List.cons_append, List.nil_append, List.length_cons, List.length_nil, Nat.reduceEqDiff, Nat.reduceAdd, Nat.reduceMul, Nat.reduceSub, Nat.reduceLeDiff, Nat.reduceLT, Int32.reduceLT, Int32.reduceLE, Int32.reduceAdd, Int32.reduceSub, reduceCtorEq, true_or, or_true, or_false, false_or, ne_eq, Nat.zero_le, Option.toList, mo_k q8, c3, show ((3 : Int32) = 1) = False from by decide]
      · simp only [e_107_79, e_107_80, e_107_83, e_107_84, e_107_87, e_107_88, e_107_91, e_107_92, e_107_99, e_107_100, true_and, and_true, and_self, false_and, and_false, if_true, if_false, ↓reduceIte, Nat.add_eq_left, Nat.left_eq_add, Nat.add_left_cancel_iff, not_false_eq_true, not_true_eq_false, i_pc, List.cons_append, List.nil_append, List.length_cons, List.length_nil, Nat.reduceEqDiff, Nat.reduceAdd, Nat.reduceMul, Nat.reduceSub, Nat.reduceLeDiff, Nat.reduceLT, Int32.reduceLT, Int32.reduceLE, Int32.reduceAdd, Int32.reduceSub, reduceCtorEq, true_or, or_true, or_false, false_or, ne_eq, Nat.zero_le, Option.toList, mo_k q8, w1, c3]
    · simp only [e_107_79, e_107_80, e_107_83, e_107_84, e_107_101, e_107_102, true_and, and_true, and_self, false_and, and_false, if_true, if_false, ↓reduceIte, Nat.add_eq_left, Nat.left_eq_add, Nat.add_left_cancel_iff, not_false_eq_true, not_true_eq_false, i_pc, List.cons_append, List.nil_append, List.length_cons, List.length_nil, Nat.reduceEqDiff, Nat.reduceAdd, Nat.reduceMul, Nat.reduceSub, Nat.reduceLeDiff, Nat.reduceLT, Int32.reduceLT, Int32.reduceLE, Int32.reduceAdd, Int32.reduceSub, reduceCtorEq, true_or, or_true, or_false, false_or, ne_eq, Nat.zero_le, Option.toList, mo_k q8, w1]
      refine ⟨_, w2, ?_⟩
      simp only [e_107_105, true_and, and_true, and_self, false_and, and_false, if_true, if_false, ↓reduceIte, Nat.add_eq_left, Nat.left_eq_add, Nat.add_left_cancel_iff, not_false_eq_true, not_true_eq_false, i_pc, List.cons_append, List.nil_append, List.length_cons, List.length_nil, Nat.reduceEqDiff, Nat.reduceAdd, Nat.reduceMul, Nat.reduceSub, Nat.reduceLeDiff, Nat.reduceLT, Int32.reduceLT, Int32.reduceLE, Int32.reduceAdd, Int32.reduceSub, reduceCtorEq, true_or, or_true, or_false, false_or, ne_eq, Nat.zero_le, Option.toList]
      rcases w4 with ⟨z1, z2', z3⟩ | ⟨z1, z2'⟩
      · exact m_go_tail w3 hk (fun _ => by rw [z2', z3]) (fun z => absurd z z1)
      · exact m_go_tail w3 hk (fun z => absurd z1 z) (fun _ => ih (i + 1) h4 (by omega) z2')
theorem m_go_no {w : Int32} (hO : MO h) (hb : k < 0 ∨ 3 < k ∨ w < 1 ∨ 50 < w ∨ ¬ hI h 49 30 = 1) : Rn xs L (d + 1) 107 [.inr (some 49), .inl k, .inl w] h (some (.inl (-1)), h) := by
  rw [i_rn]
  show X xs L d 107 (0, [some (.inr (some 49)), some (.inl k), some (.inl w), none, none, none, none], [], h) _
  by_cases c1 : k < 0
  · simp only [e_107_0, e_107_1, e_107_28, e_107_29, true_and, and_true, and_self, false_and, and_false, if_true, if_false, ↓reduceIte, Nat.add_eq_left, Nat.left_eq_add, Nat.add_left_cancel_iff, not_false_eq_true, not_true_eq_false, i_pc, List.cons_append, List.nil_append, List.length_cons, List.length_nil, Nat.reduceEqDiff, Nat.reduceAdd, Nat.reduceMul, Nat.reduceSub, Nat.reduceLeDiff, Nat.reduceLT, Int32.reduceLT, Int32.reduceLE, Int32.reduceAdd, Int32.reduceSub, reduceCtorEq, true_or, or_true, or_false, false_or, ne_eq, Nat.zero_le, c1]
  by_cases c2 : 3 < k
  · simp only [e_107_0, e_107_1, e_107_4, e_107_5, e_107_6, e_107_28, e_107_29, true_and, and_true, and_self, false_and, and_false, if_true, if_false, ↓reduceIte, Nat.add_eq_left, Nat.left_eq_add, Nat.add_left_cancel_iff, not_false_eq_true, not_true_eq_false, i_pc, List.cons_append, List.nil_append, List.length_cons, List.length_nil, Nat.reduceEqDiff, Nat.reduceAdd, Nat.reduceMul, Nat.reduceSub, Nat.reduceLeDiff, Nat.reduceLT, Int32.reduceLT, Int32.reduceLE, Int32.reduceAdd, Int32.reduceSub, reduceCtorEq, true_or, or_true, or_false, false_or, ne_eq, Nat.zero_le, c1, c2]
  by_cases c3 : w < 1
  · simp only [e_107_0, e_107_1, e_107_4, e_107_5, e_107_6, e_107_9, e_107_10, e_107_11, e_107_28, e_107_29, true_and, and_true, and_self, false_and, and_false, if_true, if_false, ↓reduceIte, Nat.add_eq_left, Nat.left_eq_add, Nat.add_left_cancel_iff, not_false_eq_true, not_true_eq_false, i_pc, List.cons_append, List.nil_append, List.length_cons, List.length_nil, Nat.reduceEqDiff, Nat.reduceAdd, Nat.reduceMul, Nat.reduceSub, Nat.reduceLeDiff, Nat.reduceLT, Int32.reduceLT, Int32.reduceLE, Int32.reduceAdd, Int32.reduceSub, reduceCtorEq, true_or, or_true, or_false, false_or, ne_eq, Nat.zero_le, c1, c2, c3]
  by_cases c4 : 50 < w
  · simp only [e_107_0, e_107_1, e_107_4, e_107_5, e_107_6, e_107_9, e_107_10, e_107_11, e_107_14, e_107_15, e_107_17, e_107_28, e_107_29, true_and, and_true, and_self, false_and, and_false, if_true, if_false, ↓reduceIte, Nat.add_eq_left, Nat.left_eq_add, Nat.add_left_cancel_iff, not_false_eq_true, not_true_eq_false, i_pc, List.cons_append, List.nil_append, List.length_cons, List.length_nil, Nat.reduceEqDiff, Nat.reduceAdd, Nat.reduceMul, Nat.reduceSub, Nat.reduceLeDiff, Nat.reduceLT, Int32.reduceLT, Int32.reduceLE, Int32.reduceAdd, Int32.reduceSub, reduceCtorEq, true_or, or_true, or_false, false_or, ne_eq, Nat.zero_le, c1, c2, c3, c4]
  have c5 := (((hb.resolve_left c1).resolve_left c2).resolve_left c3).resolve_left c4
  simp only [e_107_0, e_107_1, e_107_4, e_107_5, e_107_6, e_107_9, e_107_10, e_107_11, e_107_14, e_107_15, e_107_17, e_107_20, e_107_21, e_107_24, e_107_25, e_107_28, e_107_29, true_and, and_true, and_self, false_and, and_false, if_true, if_false, ↓reduceIte, Nat.add_eq_left, Nat.left_eq_add, Nat.add_left_cancel_iff, not_false_eq_true, not_true_eq_false, i_pc, List.cons_append, List.nil_append, List.length_cons, List.length_nil, Nat.reduceEqDiff, Nat.reduceAdd, Nat.reduceMul, Nat.reduceSub, Nat.reduceLeDiff, Nat.reduceLT, Int32.reduceLT, Int32.reduceLE, Int32.reduceAdd, Int32.reduceSub, reduceCtorEq, true_or, or_true, or_false, false_or, ne_eq, Nat.zero_le, mo_k hO, c1, c2, c3, c4, c5]
theorem m_go (hO : MO h) (h0 : ¬ k < 0) (h1' : ¬ 3 < k) (hn1 : 1 ≤ n) (hn : n ≤ 50) (hs : hI h 49 30 = 1) (hg : MG xs L (d + 1) k (hI h 62 0) n h a h2) : Rn xs L (d + 2) 107 [.inr (some 49), .inl k, .inl (nI n)] h (some (.inl a), h2) := by
  have c3 : ¬ nI n < 1 := Int32.not_lt.mpr (nI_le (a := 1) hn1 (by omega))
  have c4 : ¬ 50 < nI n := Int32.not_lt.mpr (nI_le (b := 50) hn (by decide))
  rw [i_rn]
  show X xs L (d + 1) 107 (0, [some (.inr (some 49)), some (.inl k), some (.inl (nI n)), none, none, none, none], [], h) _
  simp only [e_107_0, e_107_1, e_107_4, e_107_5, e_107_6, e_107_9, e_107_10, e_107_11, e_107_14, e_107_15, e_107_17, e_107_20, e_107_21, e_107_24, e_107_25, e_107_30, e_107_31, e_107_34, e_107_35, e_107_36, e_107_37, e_107_38, true_and, and_true, and_self, false_and, and_false, if_true, if_false, ↓reduceIte, Nat.add_eq_left, Nat.left_eq_add, Nat.add_left_cancel_iff, not_false_eq_true, not_true_eq_false, i_pc, List.cons_append, List.nil_append, List.length_cons, List.length_nil, Nat.reduceEqDiff, Nat.reduceAdd, Nat.reduceMul, Nat.reduceSub, Nat.reduceLeDiff, Nat.reduceLT, Int32.reduceLT, Int32.reduceLE, Int32.reduceAdd, Int32.reduceSub, reduceCtorEq, true_or, or_true, or_false, false_or, ne_eq, Nat.zero_le, mo_k hO, mo_r62 hO, mo_k62 hO, mo_l62 hO, z2, z0, h0, h1', c3, c4, hs]
  exact m_go_loop hn ⟨h0, h1'⟩ n 0 h (by omega) hg _ _
end NH

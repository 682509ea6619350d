-- THE RUN: an expression aside, to its end
def asA (code : Int32) : Int32 := if code = 1 then -3 else if code = 3 then -2 else 0
section RU
variable {xs : Nat → Int32} {L d : Nat} {g : CTX} {h hc hm hc2 hm2 hcV : Hp} {q b M N : Nat} {u : Nat} {v w : Int32} {res : Res} {row t : Nat}
def UW (μ : Nat) (h g : Hp) : Prop := hN g = hN h ∧ hU g = hU h ∧ (∀ o, hK g o = hK h o ∧ hL g o = hL h o) ∧ (∀ o k, hR g o k = hR h o k ∨ (k = 1 ∧ ∃ j, j < 6 ∧ o = μ + (2 + 2 * j))) ∧ ∀ o k, hI g o k = hI h o k ∨ (μ ≤ o ∧ o < μ + 17)
theorem uw_rfl {μ : Nat} : UW μ hc hc := ⟨rfl, rfl, fun _ => ⟨rfl, rfl⟩, fun _ _ => Or.inl rfl, fun _ _ => Or.inl rfl⟩
theorem uw_tr {μ : Nat} (h1 : UW μ hc hc2) (h2 : UW μ hc2 hcV) : UW μ hc hcV := by
  refine ⟨h2.1.trans h1.1, h2.2.1.trans h1.2.1, fun o => ⟨(h2.2.2.1 o).1.trans (h1.2.2.1 o).1, (h2.2.2.1 o).2.trans (h1.2.2.1 o).2⟩, fun o k => ?_, fun o k => ?_⟩
  · rcases h2.2.2.2.1 o k with e | e
    · rw [e]; exact h1.2.2.2.1 o k
    · exact Or.inr e
  · rcases h2.2.2.2.2 o k with e | e
    · rw [e]; exact h1.2.2.2.2 o k
    · exact Or.inr e
theorem owc_in {μ q b o k : Nat} (h : OwC μ q b o k) : μ ≤ o ∧ o < μ + 17 := by
  rcases h with h | h | h | ⟨j, h1, h2, h3⟩ | h <;> omega
theorem ud_uw {μ : Nat} {code : Int32} (h : UD μ code hc hc2) : UW μ hc hc2 := ⟨h.1, h.2.1, h.2.2.1, fun o k => (h.2.2.2.1 o k).imp id (fun ⟨a, j, _, b, c⟩ => ⟨a, j, b, c⟩), fun o k => (h.2.2.2.2 o k).imp id (fun z => by
  rcases z with z | z
  · exact owc_in z
  · omega)⟩
theorem wai_9 (hP : PU g) {k : Nat} {v : Int32} (hk : ¬ k = 4 ∧ ¬ k = 6 ∧ ¬ k = 7) (hk2 : ¬ k = 5 ∧ ¬ k = 8) (hW : WAI g hc hm) : WAI g (sI hc g.u k v) hm := by
  obtain ⟨h4, q, b, M, pl, i, hd, oh, hT, ha, hf, h125, h65, h5, h2, h7⟩ := hW
  refine ⟨by rw [hI_ne (by omega)]; exact h4, q, b, M, pl, i, hd, oh, tp_mk hP hT (uc_u uc_rfl hk2) um_rfl (by rw [hI_ne (by omega)]) rfl (fv_same hT.2.2.2.2.2.2.1 rfl (fun k => by rw [hI_ne (by omega)]) (fun _ _ => rfl) (by rw [hI_ne (by omega)]) rfl) (by rw [hI_ne (by omega)]), ha, hf, h125, h65, by rw [hI_ne (by omega)]; exact h5, by rw [hI_ne (by omega)]; exact h2, by rw [hI_ne (by omega)]; exact h7⟩
theorem end_4 {code : Int32} (h : END1 g code hc hm) : (code = 1 ∨ code = 2 ∨ code = 3) ∧ hI hc g.u 4 = code := by
  rcases h with ⟨e, h⟩ | ⟨e, h⟩ | ⟨e, h⟩
  · exact ⟨Or.inl e, by rw [e]; exact h.1⟩
  · exact ⟨Or.inr (Or.inl e), by rw [e]; exact h.1⟩
  · exact ⟨Or.inr (Or.inr e), by rw [e]; exact h.1⟩
theorem a_ans {i : Nat} {a1 a2 : Option AV} {code : Int32} (hc : ¬ (code = 1 ∧ i < 100)) (hi : i ≤ 100) (hcode : code = 1 ∨ code = 2 ∨ code = 3) : X xs L d 105 (82, [some (.inr (some 49)), a1, a2, some (.inl (nI i)), some (.inl code)], [], hm) (some (.inl (asA code)), hm) := by
  unfold asA
  by_cases c1 : code = 1
  · have hi2 : ¬ i < 100 := fun z => hc ⟨c1, z⟩
    have c2 : (100 : Int32) ≤ nI i := nI_le (a := 100) (by omega) (by omega)
    subst c1
    simp only [e_105_82, e_105_84, e_105_85, e_105_88, e_105_89, e_105_91, e_105_116, e_105_118, e_105_119, e_105_122, e_105_124, e_105_139, true_and, and_true, and_self, false_and, and_false, if_true, if_false, ↓reduceIte, Nat.add_eq_left, Nat.left_eq_add, Nat.add_left_cancel_iff, not_false_eq_true, not_true_eq_false, i_pc, List.cons_append, List.nil_append, List.length_cons, List.length_nil, Nat.reduceEqDiff, Nat.reduceAdd, Nat.reduceMul, Nat.reduceSub, Nat.reduceLeDiff, Nat.reduceLT, Int32.reduceLT, Int32.reduceLE, Int32.reduceAdd, Int32.reduceSub, reduceCtorEq, true_or, or_true, or_false, false_or, ne_eq, Nat.zero_le, c2]
  · by_cases c3 : code = 3
    · subst c3
      simp only [e_105_82, e_105_84, e_105_85, e_105_116, e_105_118, e_105_119, e_105_127, e_105_129, e_105_130, e_105_133, e_105_135, e_105_139, true_and, and_true, and_self, false_and, and_false, if_true, if_false, ↓reduceIte, Nat.add_eq_left, Nat.left_eq_add, Nat.add_left_cancel_iff, not_false_eq_true, not_true_eq_false, i_pc, List.cons_append, List.nil_append, List.length_cons, List.length_nil, Nat.reduceEqDiff, Nat.reduceAdd, Nat.reduceMul, Nat.reduceSub, Nat.reduceLeDiff, Nat.reduceLT, Int32.reduceLT, Int32.reduceLE, Int32.reduceAdd, Int32.reduceSub, reduceCtorEq, true_or, or_true, or_false, false_or, ne_eq, Nat.zero_le, show ((3 : Int32) = 1) = False from by decide]
    · simp only [e_105_82, e_105_84, e_105_85, e_105_116, e_105_118, e_105_119, e_105_127, e_105_129, e_105_130, e_105_138, e_105_139, true_and, and_true, and_self, false_and, and_false, if_true, if_false, ↓reduceIte, Nat.add_eq_left, Nat.left_eq_add, Nat.add_left_cancel_iff, not_false_eq_true, not_true_eq_false, i_pc, List.cons_append, List.nil_append, List.length_cons, List.length_nil, Nat.reduceEqDiff, Nat.reduceAdd, Nat.reduceMul, Nat.reduceSub, Nat.reduceLeDiff, Nat.reduceLT, Int32.reduceLT, Int32.reduceLE, Int32.reduceAdd, Int32.reduceSub, reduceCtorEq, true_or, or_true, or_false, false_or, ne_eq, Nat.zero_le, c1, c3]
theorem a_loop (hP : PU g) (hm1 : g.m = 1) {a1 a2 : Option AV} : ∀ (m i : Nat) (hc hm : Hp) (code : Int32) (u : Nat), i + m = 100 → MI g.u hc → MO hm → END1 g code hc hm → ESt g u hc hm → u + 18001 * m + 2500 < 2 ^ 31 →
    ∃ hc2 hm2 code2, WO xs L (d + 4) g.u m hc hc2 ∧ X xs L (d + 5) 105 (82, [some (.inr (some 49)), a1, a2, some (.inl (nI i)), some (.inl code)], [], hm) (some (.inl (asA code2)), hm2) ∧ UW g.u hc hc2 ∧ UM 1 0 hm hm2 ∧ END1 g code2 hc2 hm2 := by
  intro m
  induction m with
  | zero =>
    intro i hc hm code u hi hM hO hE1 hE hu
    exact ⟨hc, hm, code, rfl, a_ans (fun z => by have := z.2; omega) (by omega) (end_4 hE1).1, uw_rfl, um_rfl, hE1⟩
  | succ m ih =>
    intro i hc hm code u hi hM hO hE1 hE hu
    obtain ⟨c1, c2⟩ := end_4 hE1
    by_cases cc : code = 1
    · have hW : WAI g hc hm := by
        rcases hE1 with ⟨-, h⟩ | ⟨e, h⟩ | ⟨e, h⟩
        · exact h
        · rw [cc] at e; exact absurd e (by decide)
        · rw [cc] at e; exact absurd e (by decide)
      have hW9 := wai_9 (k := 9) (v := 0) hP ⟨by decide, by decide, by decide⟩ ⟨by decide, by decide⟩ hW
      have hE9 : ESt g u (sI hc g.u 9 0) hm := ⟨by rw [hI_ne (by omega)]; exact hE.1, fun z => by omega, hE.2.2⟩
      obtain ⟨q, hmb, q1, q2, q3, q4, q5⟩ := s_go (xs := xs) (L := L) (d := d) hP hW9 hE9 (by omega)
      obtain ⟨hc2, hm2, code2, u2, r1, r2, r3, r4, r5, r6, r7, r8⟩ := d_run hM q5
      have hOb : MO hmb := mo_eq q4.2.2.1 q4.2.2.2.1 hO
      have hO2 : MO hm2 := mo_eq r4.2.2.1 r4.2.2.2.1 hOb
      obtain ⟨hc3, hm3, code3, s1, s2, s3, s4, s5⟩ := ih (i + 1) hc2 hm2 code2 u2 (by omega) (mi_ud r3 hM) hO2 r8 r7 (by omega)
      rw [hm1] at q2 q3 r2 r4 q4
      refine ⟨hc3, hm3, code3, ⟨hM.1, Or.inl ⟨by rw [c2]; exact cc, hc2, r1, s1⟩⟩, ?_, uw_tr (ud_uw r3) s3, um_trans q4 (um_trans r4 s4 (Nat.le_refl _)) (Nat.le_refl _), s5⟩
      have c5 : ¬ (100 : Int32) ≤ nI i := nI_ge (b := 100) (by omega) (by decide)
      rw [e_105_82]
      simp only [e_105_84, e_105_85, e_105_88, e_105_89, e_105_91, e_105_94, e_105_97, e_105_98, e_105_99, e_105_100, true_and, and_true, and_self, false_and, and_false, if_true, if_false, ↓reduceIte, Nat.add_eq_left, Nat.left_eq_add, Nat.add_left_cancel_iff, not_false_eq_true, not_true_eq_false, i_pc, List.cons_append, List.nil_append, List.length_cons, List.length_nil, Nat.reduceEqDiff, Nat.reduceAdd, Nat.reduceMul, Nat.reduceSub, Nat.reduceLeDiff, Nat.reduceLT, Int32.reduceLT, Int32.reduceLE, Int32.reduceAdd, Int32.reduceSub, reduceCtorEq, true_or, or_true, or_false, false_or, ne_eq, Nat.zero_le, cc, c5, mo_k hO, nI_1]
      refine ⟨_, m_top (m := 1) (q := q) hO (by decide) q2 q1, ?_⟩
      simp only [e_105_103, true_and, and_true, and_self, false_and, and_false, if_true, if_false, ↓reduceIte, Nat.add_eq_left, Nat.left_eq_add, Nat.add_left_cancel_iff, not_false_eq_true, not_true_eq_false, i_pc, List.cons_append, List.nil_append, List.length_cons, List.length_nil, Nat.reduceEqDiff, Nat.reduceAdd, Nat.reduceMul, Nat.reduceSub, Nat.reduceLeDiff, Nat.reduceLT, Int32.reduceLT, Int32.reduceLE, Int32.reduceAdd, Int32.reduceSub, reduceCtorEq, true_or, or_true, or_false, false_or, ne_eq, Nat.zero_le, Option.toList, mo_k hO]
      refine ⟨_, q3 (d + 3), ?_⟩
      simp only [e_105_106, e_105_107, e_105_108, true_and, and_true, and_self, false_and, and_false, if_true, if_false, ↓reduceIte, Nat.add_eq_left, Nat.left_eq_add, Nat.add_left_cancel_iff, not_false_eq_true, not_true_eq_false, i_pc, List.cons_append, List.nil_append, List.length_cons, List.length_nil, Nat.reduceEqDiff, Nat.reduceAdd, Nat.reduceMul, Nat.reduceSub, Nat.reduceLeDiff, Nat.reduceLT, Int32.reduceLT, Int32.reduceLE, Int32.reduceAdd, Int32.reduceSub, reduceCtorEq, true_or, or_true, or_false, false_or, ne_eq, Nat.zero_le, Option.toList, mo_k hOb]
      refine ⟨_, r2, ?_⟩
      simp only [e_105_111, e_105_113, true_and, and_true, and_self, false_and, and_false, if_true, if_false, ↓reduceIte, Nat.add_eq_left, Nat.left_eq_add, Nat.add_left_cancel_iff, not_false_eq_true, not_true_eq_false, i_pc, List.cons_append, List.nil_append, List.length_cons, List.length_nil, Nat.reduceEqDiff, Nat.reduceAdd, Nat.reduceMul, Nat.reduceSub, Nat.reduceLeDiff, Nat.reduceLT, Int32.reduceLT, Int32.reduceLE, Int32.reduceAdd, Int32.reduceSub, reduceCtorEq, true_or, or_true, or_false, false_or, ne_eq, Nat.zero_le, Option.toList]
      exact s2
    · exact ⟨hc, hm, code, ⟨hM.1, Or.inr ⟨by rw [c2]; exact cc, rfl⟩⟩, a_ans (fun z => cc z.1) (by omega) c1, uw_rfl, um_rfl, hE1⟩
/-- workOut and aside: hw the class's machine at the beginning -/
theorem a_all (hP : PU g) (hm1 : g.m = 1) (hX : EXA g) {hw : Hp} (hS : SCh g hw) (hSM : SMh g hm) (hE : ESt g u (sI hw g.u 9 0) hm) (hu : u + 1900000 < 2 ^ 31) (h6 : hI hw g.u 6 = nI 1) (h7 : hI hw g.u 7 = nI 0) (hcd : hR hw (g.u + 2) 1 = some g.cA) (hn : hI hw (g.u + 2) 2 = nI 0) (hrow : row < 42) (ht : t < 6) (hbA : g.bA = 152 * row) (hv : ∀ v, v < 6 → hI hw (g.u + 3) v = hI hm 66 (6 * t + v)) :
    ∃ hc1 hc2 hm2 code, Rn xs L (d + 4) 12 [.inr (some g.u)] hw (none, hc1) ∧ WO xs L (d + 4) g.u 100 hc1 hc2 ∧ Rn xs L (d + 6) 105 [.inr (some 49), .inl (nI row), .inl (nI t)] hm (some (.inl (asA code)), hm2) ∧ UW g.u hw hc2 ∧ UM 1 0 hm hm2 ∧ END1 g code hc2 hm2 := by
  have u9 : UC g.u 0 0 hw (sI hw g.u 9 0) := uc_u uc_rfl
  obtain ⟨k1, k2⟩ := s_aside (xs := xs) (L := L) (d := d) (hc := sI hw g.u 9 0) (row := row) (t := t) hP hm1 hX (sc_uc hP u9 hS) hSM hE (by omega) (by rw [hI_ne (by omega)]; exact h6) (by rw [hI_ne (by omega)]; exact h7) hcd (by rw [hI_ne (by omega)]; exact hn) hbA (fun v hv' => by rw [hI_ne (by omega)]; exact hv v hv')
  obtain ⟨hc1, hm1', code1, u1, r1, r2, r3, r4, r5, r6, r7, r8⟩ := d_run hS.1 k1
  have hO := hSM.1
  have hOa : MO (asH row t hm) := mo_eq k2.2.2.1 k2.2.2.2.1 hO
  have hO1 : MO hm1' := mo_eq r4.2.2.1 r4.2.2.2.1 hOa
  obtain ⟨hc3, hm3, code3, s1, s2, s3, s4, s5⟩ := a_loop (xs := xs) (L := L) (d := d) (a1 := some (.inl (nI row))) (a2 := some (.inl (nI t))) hP hm1 100 0 hc1 hm1' code1 u1 (by omega) (mi_ud r3 hS.1) hO1 r8 r7 (by omega)
  rw [hm1] at r2 r4
  refine ⟨hc1, hc3, hm3, code3, r1, s1, m_as_pre hO ht hrow ?_, uw_tr (ud_uw r3) s3, um_trans k2 (um_trans r4 s4 (Nat.le_refl _)) (Nat.le_refl _), s5⟩
  simp only [e_105_73, e_105_74, e_105_75, e_105_76, e_105_77, true_and, and_true, and_self, false_and, and_false, if_true, if_false, ↓reduceIte, Nat.add_eq_left, Nat.left_eq_add, Nat.add_left_cancel_iff, not_false_eq_true, not_true_eq_false, i_pc, List.cons_append, List.nil_append, List.length_cons, List.length_nil, Nat.reduceEqDiff, Nat.reduceAdd, Nat.reduceMul, Nat.reduceSub, Nat.reduceLeDiff, Nat.reduceLT, Int32.reduceLT, Int32.reduceLE, Int32.reduceAdd, Int32.reduceSub, reduceCtorEq, true_or, or_true, or_false, false_or, ne_eq, Nat.zero_le, mo_k hOa]
  refine ⟨_, r2, ?_⟩
  simp only [e_105_80, true_and, and_true, and_self, false_and, and_false, if_true, if_false, ↓reduceIte, Nat.add_eq_left, Nat.left_eq_add, Nat.add_left_cancel_iff, not_false_eq_true, not_true_eq_false, i_pc, List.cons_append, List.nil_append, List.length_cons, List.length_nil, Nat.reduceEqDiff, Nat.reduceAdd, Nat.reduceMul, Nat.reduceSub, Nat.reduceLeDiff, Nat.reduceLT, Int32.reduceLT, Int32.reduceLE, Int32.reduceAdd, Int32.reduceSub, reduceCtorEq, true_or, or_true, or_false, false_or, ne_eq, Nat.zero_le, Option.toList]
  exact s2
end RU

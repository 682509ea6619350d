-- THE MODEL's reading: heads answers as the spec
section MZ
variable {xs : Nat → Int32} {L d : Nat} {h : Hp} {res : Res} {By ay Bk Q T : Nat → Int32} {n p : Nat}
theorem m_hd_loop (hO : MO h) (hTT : ∀ j, j < 152 → hI h 51 j = T j) (hT : TX T n) (hn : hI h 49 3 = nI n) : ∀ (m p : Nat) (bd : Nat → Nat) (By ay Bk Q : Nat → Int32), n - p ≤ m → p ≤ n → (∀ f, f < 4 → By f = nI (bd f) ∧ bd f < 152) →
    ∃ (ok : Bool) (By' ay' Bk' Q' : Nat → Int32), (∀ a2 a3 a4 a5 : Option AV, X xs L (d + 1) 84 (22, [some (.inr (some 49)), some (.inl (nI p)), a2, a3, a4, a5], [], hH h By ay Bk Q) (some (.inl (bI ok)), hH h By' ay' Bk' Q')) ∧ (hds T n p bd ay Q = none → ok = false) ∧ ((∀ f, f < 4 → ∃ k, k ≤ 3 ∧ ay f = nI k) → ∀ f, f < 4 → ∃ k, k ≤ 3 ∧ ay' f = nI k) ∧ ∀ bd' ay2 Q2, hds T n p bd ay Q = some (bd', ay2, Q2) → ok = decide (0 < bd' 0 ∧ ay2 0 = 0) ∧ (∀ f, f < 4 → By' f = nI (bd' f) ∧ bd' f < 152) ∧ ay' = ay2 ∧ Q' = Q2 := by
  intro m
  have hn2 := hT.1
  have hO2 : ∀ By ay Bk Q : Nat → Int32, MO (hH h By ay Bk Q) := fun _ _ _ _ => hO
  have stop : ∀ (p : Nat) (bd : Nat → Nat) (By ay Bk Q : Nat → Int32), ¬ p < n → p ≤ n → (∀ f, f < 4 → By f = nI (bd f) ∧ bd f < 152) → ∃ (ok : Bool) (By' ay' Bk' Q' : Nat → Int32), (∀ a2 a3 a4 a5 : Option AV, X xs L (d + 1) 84 (22, [some (.inr (some 49)), some (.inl (nI p)), a2, a3, a4, a5], [], hH h By ay Bk Q) (some (.inl (bI ok)), hH h By' ay' Bk' Q')) ∧ (hds T n p bd ay Q = none → ok = false) ∧ ((∀ f, f < 4 → ∃ k, k ≤ 3 ∧ ay f = nI k) → ∀ f, f < 4 → ∃ k, k ≤ 3 ∧ ay' f = nI k) ∧ ∀ bd' ay2 Q2, hds T n p bd ay Q = some (bd', ay2, Q2) → ok = decide (0 < bd' 0 ∧ ay2 0 = 0) ∧ (∀ f, f < 4 → By' f = nI (bd' f) ∧ bd' f < 152) ∧ ay' = ay2 ∧ Q' = Q2 := fun p bd By ay Bk Q h1 h2 hB => by
    have h3 : nI n ≤ nI p := nI_le (by omega) (by omega)
    have v0 : vp_in (0 : Int32) 4 := vin (n := 0) (by decide) (by decide)
    obtain ⟨b1, b2⟩ := hB 0 (by decide)
    refine ⟨decide (0 < bd 0 ∧ ay 0 = 0), By, ay, Bk, Q, fun a2 a3 a4 a5 => ?_, fun z => (by rw [hds_end h1] at z; cases z), fun z => z, fun bd' ay2 Q2 z => ?_⟩
    · by_cases c1 : 0 < bd 0
      · have c2 : ¬ By 0 ≤ 0 := by rw [b1]; exact nI_nle c1 (by omega)
        by_cases c3 : ay 0 = 0
        · rw [bI_t ⟨c1, c3⟩]
          simp only [e_84_22, e_84_23, e_84_24, e_84_27, e_84_239, e_84_240, e_84_243, e_84_244, e_84_245, e_84_248, e_84_249, e_84_252, e_84_253, e_84_254, e_84_257, e_84_258, e_84_261, e_84_262, true_and, and_true, and_self, false_and, and_false, if_true, if_false, ↓reduceIte, Nat.add_eq_left, Nat.left_eq_add, Nat.add_left_cancel_iff, not_false_eq_true, not_true_eq_false, i_pc, List.cons_append, List.nil_append, List.length_cons, List.length_nil, Nat.reduceEqDiff, Nat.reduceAdd, Nat.reduceMul, Nat.reduceSub, Nat.reduceLeDiff, Nat.reduceLT, Int32.reduceLT, Int32.reduceLE, Int32.reduceAdd, Int32.reduceSub, reduceCtorEq, true_or, or_true, or_false, false_or, ne_eq, Nat.zero_le, mo_k (hO2 _ _ _ _), mo_r56 (hO2 _ _ _ _), mo_k56 (hO2 _ _ _ _), mo_l56 (hO2 _ _ _ _), mo_r57 (hO2 _ _ _ _), mo_k57 (hO2 _ _ _ _), mo_l57 (hO2 _ _ _ _), hH_49, hH_56, hH_57, hn, h3, v0, z0, c2, c3]
        · rw [bI_f (fun z => c3 z.2)]
          simp only [e_84_22, e_84_23, e_84_24, e_84_27, e_84_239, e_84_240, e_84_243, e_84_244, e_84_245, e_84_248, e_84_249, e_84_252, e_84_253, e_84_254, e_84_257, e_84_258, e_84_261, e_84_262, true_and, and_true, and_self, false_and, and_false, if_true, if_false, ↓reduceIte, Nat.add_eq_left, Nat.left_eq_add, Nat.add_left_cancel_iff, not_false_eq_true, not_true_eq_false, i_pc, List.cons_append, List.nil_append, List.length_cons, List.length_nil, Nat.reduceEqDiff, Nat.reduceAdd, Nat.reduceMul, Nat.reduceSub, Nat.reduceLeDiff, Nat.reduceLT, Int32.reduceLT, Int32.reduceLE, Int32.reduceAdd, Int32.reduceSub, reduceCtorEq, true_or, or_true, or_false, false_or, ne_eq, Nat.zero_le, mo_k (hO2 _ _ _ _), mo_r56 (hO2 _ _ _ _), mo_k56 (hO2 _ _ _ _), mo_l56 (hO2 _ _ _ _), mo_r57 (hO2 _ _ _ _), mo_k57 (hO2 _ _ _ _), mo_l57 (hO2 _ _ _ _), hH_49, hH_56, hH_57, hn, h3, v0, z0, c2, c3]
      · have c2 : By 0 ≤ 0 := by rw [b1, show bd 0 = 0 by omega]; decide
        rw [bI_f (fun z => c1 z.1)]
        simp only [e_84_22, e_84_23, e_84_24, e_84_27, e_84_239, e_84_240, e_84_243, e_84_244, e_84_245, e_84_261, e_84_262, true_and, and_true, and_self, false_and, and_false, if_true, if_false, ↓reduceIte, Nat.add_eq_left, Nat.left_eq_add, Nat.add_left_cancel_iff, not_false_eq_true, not_true_eq_false, i_pc, List.cons_append, List.nil_append, List.length_cons, List.length_nil, Nat.reduceEqDiff, Nat.reduceAdd, Nat.reduceMul, Nat.reduceSub, Nat.reduceLeDiff, Nat.reduceLT, Int32.reduceLT, Int32.reduceLE, Int32.reduceAdd, Int32.reduceSub, reduceCtorEq, true_or, or_true, or_false, false_or, ne_eq, Nat.zero_le, mo_k (hO2 _ _ _ _), mo_r56 (hO2 _ _ _ _), mo_k56 (hO2 _ _ _ _), mo_l56 (hO2 _ _ _ _), hH_49, hH_56, hn, h3, v0, z0, c2]
    · rw [hds_end h1] at z
      cases z
      exact ⟨rfl, hB, rfl, rfl⟩
  induction m with
  | zero => intro p bd By ay Bk Q hm hp hB; exact stop p bd By ay Bk Q (by omega) hp hB
  | succ m ih =>
    intro p bd By ay Bk Q hm hp hB
    by_cases hpn : p < n
    · have q0 : ¬ nI n ≤ nI p := nI_ge hpn (by omega)
      have q1 : vp_in (nI p) 6384 := vin (by omega) (by decide)
      have q2 : vp_in (nI (p + 1)) 6384 := vin (by omega) (by decide)
      have q3 : vp_in (nI (p + 2)) 6384 := vin (by omega) (by decide)
      have e2 : nI p + 2 = nI (p + 2) := by rw [show (2 : Int32) = nI 2 from rfl, nI_add]
      have pre : ∀ res, (∀ a4 a5, X xs L (d + 1) 84 (46, [some (.inr (some 49)), some (.inl (nI p)), some (.inl (T p)), some (.inl (T (p + 1))), a4, a5], [], hH h By ay Bk Q) res) → ∀ a2 a3 a4 a5 : Option AV, X xs L (d + 1) 84 (22, [some (.inr (some 49)), some (.inl (nI p)), a2, a3, a4, a5], [], hH h By ay Bk Q) res := fun res hX a2 a3 a4 a5 => by
        rw [e_84_22]
        simp only [e_84_23, e_84_24, e_84_27, e_84_30, e_84_31, e_84_34, e_84_35, e_84_36, e_84_37, e_84_38, e_84_41, e_84_42, e_84_43, e_84_44, e_84_45, true_and, and_true, and_self, false_and, and_false, if_true, if_false, ↓reduceIte, Nat.add_eq_left, Nat.left_eq_add, Nat.add_left_cancel_iff, not_false_eq_true, not_true_eq_false, i_pc, List.cons_append, List.nil_append, List.length_cons, List.length_nil, Nat.reduceEqDiff, Nat.reduceAdd, Nat.reduceMul, Nat.reduceSub, Nat.reduceLeDiff, Nat.reduceLT, Int32.reduceLT, Int32.reduceLE, Int32.reduceAdd, Int32.reduceSub, reduceCtorEq, true_or, or_true, or_false, false_or, ne_eq, Nat.zero_le, mo_k (hO2 _ _ _ _), mo_r51 (hO2 _ _ _ _), mo_k51 (hO2 _ _ _ _), mo_l51 (hO2 _ _ _ _), hH_49, hH_51, hn, q0, q1, q2, nI_1, nI_cl (show p < 2 ^ 31 by omega), nI_cl (show p + 1 < 2 ^ 31 by omega), hTT p (show p < 152 by omega), hTT (p + 1) (show p + 1 < 152 by omega)]
        exact hX _ _
      by_cases hf : 65 ≤ T p ∧ T p ≤ 68
      · obtain ⟨f, hf4, e1⟩ := fun_ix hf.1 (Int32.lt_of_le_of_lt hf.2 (by decide))
        obtain ⟨b1, b2⟩ := hB f hf4
        have q4 : vp_in (nI f) 4 := vin hf4 (by decide)
        have e5 : T p - 65 = nI f := by rw [e1, show (65 : Int32) = nI 65 from rfl, pk_sub (by omega)]; congr 1; omega
        by_cases hc : 65 ≤ T p ∧ T p ≤ 68 ∧ bd (fx (T p)) = 0 ∧ 48 ≤ T (p + 1) ∧ T (p + 1) ≤ 51 ∧ T (p + 2) = 123
        · obtain ⟨h1, h2, h3, h4, h5, h6⟩ := id hc
          rw [e1, fx_f hf4] at h3
          have hp2 : p + 2 < n := tx_lt hT (by omega) (by rw [h6]; decide)
          have c1 : ¬ By f > 0 := by rw [b1, h3]; decide
          have c1' : ¬ 0 < By f := c1
          have c2 : ¬ T (p + 1) < 48 := Int32.not_lt.mpr h4
          have c3 : ¬ 51 < T (p + 1) := Int32.not_lt.mpr h5
          have hay : (∀ f, f < 4 → ∃ k, k ≤ 3 ∧ ay f = nI k) → ∀ g, g < 4 → ∃ k, k ≤ 3 ∧ up ay f (T (p + 1) - 48) g = nI k := fun z g hg => by
            obtain ⟨a, ha, e7⟩ := dig_ix h4 h5
            by_cases c : g = f
            · subst c; rw [up_eq]; exact ⟨a, ha, (hd_a ha e7).2.2⟩
            · rw [up_ne c]; exact z g hg
          have v8 : vp_in (nI 0) 8 := vin (by decide) (by decide)
          have q5 : ¬ nI n ≤ nI (p + 2) := nI_ge hp2 (by omega)
          obtain ⟨Bk', g1, g2⟩ := m_hs (xs := xs) (L := L) (d := d + 1) (By := up By f (nI (p + 2))) (ay := up ay f (T (p + 1) - 48)) (c := T p) (e := T (p + 1)) hO hTT hT hn n (p + 3) (p + 2) [] (up Bk 0 (nI (p + 2))) Q (by omega) (by omega) (by decide) ⟨up_eq, by omega, trivial⟩
          have hgo : ∀ res, HS xs L (d + 1) 127 (T p) (T (p + 1)) (hH h (up By f (nI (p + 2))) (up ay f (T (p + 1) - 48)) (up Bk 0 (nI (p + 2))) Q) (nI (p + 3)) (nI (([] : List Nat).length + 1)) 1 res → ∀ a2 a3 a4 a5 : Option AV, X xs L (d + 1) 84 (22, [some (.inr (some 49)), some (.inl (nI p)), a2, a3, a4, a5], [], hH h By ay Bk Q) res := fun res hX => pre res (fun a4 a5 => by
            simp only [e_84_46, e_84_47, true_and, and_true, and_self, false_and, and_false, if_true, if_false, ↓reduceIte, Nat.add_eq_left, Nat.left_eq_add, Nat.add_left_cancel_iff, not_false_eq_true, not_true_eq_false, i_pc, List.cons_append, List.nil_append, List.length_cons, List.length_nil, Nat.reduceEqDiff, Nat.reduceAdd, Nat.reduceMul, Nat.reduceSub, Nat.reduceLeDiff, Nat.reduceLT, Int32.reduceLT, Int32.reduceLE, Int32.reduceAdd, Int32.reduceSub, reduceCtorEq, true_or, or_true, or_false, false_or, ne_eq, Nat.zero_le]
            refine ⟨_, m_isFun, ?_⟩
            simp only [e_84_50, e_84_53, e_84_54, e_84_57, e_84_58, e_84_60, e_84_61, e_84_62, e_84_65, e_84_66, e_84_68, e_84_71, e_84_72, e_84_74, e_84_77, e_84_78, e_84_81, e_84_82, e_84_83, e_84_84, e_84_85, e_84_87, e_84_92, e_84_93, e_84_96, e_84_97, e_84_99, e_84_100, e_84_101, e_84_102, e_84_103, e_84_104, e_84_105, e_84_108, e_84_109, e_84_111, e_84_112, e_84_113, e_84_115, e_84_116, e_84_117, e_84_118, e_84_120, e_84_121, e_84_123, e_84_124, e_84_125, e_84_126, true_and, and_true, and_self, false_and, and_false, if_true, if_false, ↓reduceIte, Nat.add_eq_left, Nat.left_eq_add, Nat.add_left_cancel_iff, not_false_eq_true, not_true_eq_false, i_pc, List.cons_append, List.nil_append, List.length_cons, List.length_nil, Nat.reduceEqDiff, Nat.reduceAdd, Nat.reduceMul, Nat.reduceSub, Nat.reduceLeDiff, Nat.reduceLT, Int32.reduceLT, Int32.reduceLE, Int32.reduceAdd, Int32.reduceSub, reduceCtorEq, true_or, or_true, or_false, false_or, ne_eq, Nat.zero_le, hK_sI, hL_sI, hR_sI, Option.toList, bI_t hf, e5, e2, mo_k (hO2 _ _ _ _), mo_r51 (hO2 _ _ _ _), mo_k51 (hO2 _ _ _ _), mo_l51 (hO2 _ _ _ _), mo_r56 (hO2 _ _ _ _), mo_k56 (hO2 _ _ _ _), mo_l56 (hO2 _ _ _ _), mo_r57 (hO2 _ _ _ _), mo_k57 (hO2 _ _ _ _), mo_l57 (hO2 _ _ _ _), hH_51, hH_56, c1', c2, c3, q3, q4, hW_56, hW_57, nI_cl (show f < 2 ^ 31 by omega), nI_cl (show p + 2 < 2 ^ 31 by omega), hTT (p + 2) (show p + 2 < 152 by omega), h6, show ((1 : Int32) = 0) = False from by decide]
            rw [e_84_127]
            simp only [e_84_128, e_84_129, e_84_132, e_84_135, e_84_137, e_84_140, e_84_141, e_84_144, e_84_145, e_84_146, e_84_148, e_84_151, e_84_152, e_84_155, e_84_157, e_84_158, e_84_159, e_84_162, e_84_164, e_84_166, e_84_223, e_84_226, true_and, and_true, and_self, false_and, and_false, if_true, if_false, ↓reduceIte, Nat.add_eq_left, Nat.left_eq_add, Nat.add_left_cancel_iff, not_false_eq_true, not_true_eq_false, i_pc, List.cons_append, List.nil_append, List.length_cons, List.length_nil, Nat.reduceEqDiff, Nat.reduceAdd, Nat.reduceMul, Nat.reduceSub, Nat.reduceLeDiff, Nat.reduceLT, Int32.reduceLT, Int32.reduceLE, Int32.reduceAdd, Int32.reduceSub, reduceCtorEq, true_or, or_true, or_false, false_or, ne_eq, Nat.zero_le, hK_sI, hL_sI, hR_sI, mo_k (hO2 _ _ _ _), mo_r51 (hO2 _ _ _ _), mo_k51 (hO2 _ _ _ _), mo_l51 (hO2 _ _ _ _), mo_r58 (hO2 _ _ _ _), mo_k58 (hO2 _ _ _ _), mo_l58 (hO2 _ _ _ _), hH_49, hH_51, hn, hTT (p + 2) (show p + 2 < 152 by omega), h6, q5, q3, show vp_in (0 : Int32) 8 from v8, z0, hW_58, nI_1, nI_cl (show p + 2 < 2 ^ 31 by omega), show ((1 : Int32) = 0) = False from by decide, show ((0 : Int32) + 1 ≤ 6) = True from by decide, show ((1 : Int32) ≤ 6) = True from by decide]
            exact hX)
          cases hq : hsc T n (p + 3) [p + 2] Q with
          | none =>
            obtain ⟨Q', g3⟩ := g1 hq
            exact ⟨false, _, _, Bk', Q', hgo _ g3, fun _ => rfl, hay, fun bd' ay2 Q2 z => by rw [hds_none hpn hc hq] at z; cases z⟩
          | some y =>
            obtain ⟨q, R⟩ := y
            obtain ⟨g3, g4, g5⟩ := g2 q R hq
            rw [hds_some hpn hc hq (by omega), e1, fx_f hf4]
            obtain ⟨ok, By', ay', Bk2, Q', i1, i2, i4, i3⟩ := ih q (upN bd f (p + 2)) (up By f (nI (p + 2))) (up ay f (T (p + 1) - 48)) Bk' R (by omega) g3 (fun g hg => by
              by_cases c : g = f
              · subst c; rw [up_eq, upN_eq]; exact ⟨rfl, by omega⟩
              · rw [up_ne c, upN_ne c]; exact hB g hg)
            refine ⟨ok, By', ay', Bk2, Q', hgo _ (g5 _ ?_), i2, fun z => i4 (hay z), i3⟩
            unfold HS
            simp only [e_84_229, e_84_231, e_84_236, true_and, and_true, and_self, false_and, and_false, if_true, if_false, ↓reduceIte, Nat.add_eq_left, Nat.left_eq_add, Nat.add_left_cancel_iff, not_false_eq_true, not_true_eq_false, i_pc, List.cons_append, List.nil_append, List.length_cons, List.length_nil, Nat.reduceEqDiff, Nat.reduceAdd, Nat.reduceMul, Nat.reduceSub, Nat.reduceLeDiff, Nat.reduceLT, Int32.reduceLT, Int32.reduceLE, Int32.reduceAdd, Int32.reduceSub, reduceCtorEq, true_or, or_true, or_false, false_or, ne_eq, Nat.zero_le]
            exact i1 _ _ _ _
        · refine ⟨false, By, ay, Bk, Q, pre _ (fun a4 a5 => ?_), fun _ => rfl, fun z => z, fun bd' ay2 Q2 z => by rw [hds_no hpn hc] at z; cases z⟩
          simp only [e_84_46, e_84_47, true_and, and_true, and_self, false_and, and_false, if_true, if_false, ↓reduceIte, Nat.add_eq_left, Nat.left_eq_add, Nat.add_left_cancel_iff, not_false_eq_true, not_true_eq_false, i_pc, List.cons_append, List.nil_append, List.length_cons, List.length_nil, Nat.reduceEqDiff, Nat.reduceAdd, Nat.reduceMul, Nat.reduceSub, Nat.reduceLeDiff, Nat.reduceLT, Int32.reduceLT, Int32.reduceLE, Int32.reduceAdd, Int32.reduceSub, reduceCtorEq, true_or, or_true, or_false, false_or, ne_eq, Nat.zero_le]
          refine ⟨_, m_isFun, ?_⟩
          by_cases c1 : bd f = 0
          · have c1' : ¬ 0 < By f := by rw [b1, c1]; decide
            by_cases c2 : T (p + 1) < 48
            · simp only [e_84_50, e_84_53, e_84_54, e_84_57, e_84_58, e_84_60, e_84_61, e_84_62, e_84_65, e_84_66, e_84_68, e_84_90, e_84_91, true_and, and_true, and_self, false_and, and_false, if_true, if_false, ↓reduceIte, Nat.add_eq_left, Nat.left_eq_add, Nat.add_left_cancel_iff, not_false_eq_true, not_true_eq_false, i_pc, List.cons_append, List.nil_append, List.length_cons, List.length_nil, Nat.reduceEqDiff, Nat.reduceAdd, Nat.reduceMul, Nat.reduceSub, Nat.reduceLeDiff, Nat.reduceLT, Int32.reduceLT, Int32.reduceLE, Int32.reduceAdd, Int32.reduceSub, reduceCtorEq, true_or, or_true, or_false, false_or, ne_eq, Nat.zero_le, Option.toList, bI_t hf, e5, mo_k (hO2 _ _ _ _), mo_r56 (hO2 _ _ _ _), mo_k56 (hO2 _ _ _ _), mo_l56 (hO2 _ _ _ _), hH_56, c1', c2, q4, nI_cl (show f < 2 ^ 31 by omega), bI_ff, show ((1 : Int32) = 0) = False from by decide]
            by_cases c3 : 51 < T (p + 1)
            · simp only [e_84_50, e_84_53, e_84_54, e_84_57, e_84_58, e_84_60, e_84_61, e_84_62, e_84_65, e_84_66, e_84_68, e_84_71, e_84_72, e_84_74, e_84_90, e_84_91, true_and, and_true, and_self, false_and, and_false, if_true, if_false, ↓reduceIte, Nat.add_eq_left, Nat.left_eq_add, Nat.add_left_cancel_iff, not_false_eq_true, not_true_eq_false, i_pc, List.cons_append, List.nil_append, List.length_cons, List.length_nil, Nat.reduceEqDiff, Nat.reduceAdd, Nat.reduceMul, Nat.reduceSub, Nat.reduceLeDiff, Nat.reduceLT, Int32.reduceLT, Int32.reduceLE, Int32.reduceAdd, Int32.reduceSub, reduceCtorEq, true_or, or_true, or_false, false_or, ne_eq, Nat.zero_le, Option.toList, bI_t hf, e5, mo_k (hO2 _ _ _ _), mo_r56 (hO2 _ _ _ _), mo_k56 (hO2 _ _ _ _), mo_l56 (hO2 _ _ _ _), hH_56, c1', c2, c3, q4, nI_cl (show f < 2 ^ 31 by omega), bI_ff, show ((1 : Int32) = 0) = False from by decide]
            have c4 : ¬ T (p + 2) = 123 := fun z => hc ⟨hf.1, hf.2, by rw [e1, fx_f hf4]; exact c1, Int32.not_lt.mp c2, Int32.not_lt.mp c3, z⟩
            simp only [e_84_50, e_84_53, e_84_54, e_84_57, e_84_58, e_84_60, e_84_61, e_84_62, e_84_65, e_84_66, e_84_68, e_84_71, e_84_72, e_84_74, e_84_77, e_84_78, e_84_81, e_84_82, e_84_83, e_84_84, e_84_85, e_84_87, e_84_90, e_84_91, true_and, and_true, and_self, false_and, and_false, if_true, if_false, ↓reduceIte, Nat.add_eq_left, Nat.left_eq_add, Nat.add_left_cancel_iff, not_false_eq_true, not_true_eq_false, i_pc, List.cons_append, List.nil_append, List.length_cons, List.length_nil, Nat.reduceEqDiff, Nat.reduceAdd, Nat.reduceMul, Nat.reduceSub, Nat.reduceLeDiff, Nat.reduceLT, Int32.reduceLT, Int32.reduceLE, Int32.reduceAdd, Int32.reduceSub, reduceCtorEq, true_or, or_true, or_false, false_or, ne_eq, Nat.zero_le, Option.toList, bI_t hf, e5, e2, mo_k (hO2 _ _ _ _), mo_r51 (hO2 _ _ _ _), mo_k51 (hO2 _ _ _ _), mo_l51 (hO2 _ _ _ _), mo_r56 (hO2 _ _ _ _), mo_k56 (hO2 _ _ _ _), mo_l56 (hO2 _ _ _ _), hH_51, hH_56, c1', c2, c3, c4, q3, q4, nI_cl (show f < 2 ^ 31 by omega), nI_cl (show p + 2 < 2 ^ 31 by omega), hTT (p + 2) (show p + 2 < 152 by omega), bI_ff, show ((1 : Int32) = 0) = False from by decide]
          · have c1' : 0 < By f := by rw [b1]; exact nI_lt (a := 0) (by omega) (by omega)
            simp only [e_84_50, e_84_53, e_84_54, e_84_57, e_84_58, e_84_60, e_84_61, e_84_62, e_84_90, e_84_91, true_and, and_true, and_self, false_and, and_false, if_true, if_false, ↓reduceIte, Nat.add_eq_left, Nat.left_eq_add, Nat.add_left_cancel_iff, not_false_eq_true, not_true_eq_false, i_pc, List.cons_append, List.nil_append, List.length_cons, List.length_nil, Nat.reduceEqDiff, Nat.reduceAdd, Nat.reduceMul, Nat.reduceSub, Nat.reduceLeDiff, Nat.reduceLT, Int32.reduceLT, Int32.reduceLE, Int32.reduceAdd, Int32.reduceSub, reduceCtorEq, true_or, or_true, or_false, false_or, ne_eq, Nat.zero_le, Option.toList, bI_t hf, e5, mo_k (hO2 _ _ _ _), mo_r56 (hO2 _ _ _ _), mo_k56 (hO2 _ _ _ _), mo_l56 (hO2 _ _ _ _), hH_56, c1', q4, nI_cl (show f < 2 ^ 31 by omega), bI_ff, show ((1 : Int32) = 0) = False from by decide]
      · refine ⟨false, By, ay, Bk, Q, pre _ (fun a4 a5 => ?_), fun _ => rfl, fun z => z, fun bd' ay2 Q2 z => by rw [hds_no hpn (fun z => hf ⟨z.1, z.2.1⟩)] at z; cases z⟩
        simp only [e_84_46, e_84_47, true_and, and_true, and_self, false_and, and_false, if_true, if_false, ↓reduceIte, Nat.add_eq_left, Nat.left_eq_add, Nat.add_left_cancel_iff, not_false_eq_true, not_true_eq_false, i_pc, List.cons_append, List.nil_append, List.length_cons, List.length_nil, Nat.reduceEqDiff, Nat.reduceAdd, Nat.reduceMul, Nat.reduceSub, Nat.reduceLeDiff, Nat.reduceLT, Int32.reduceLT, Int32.reduceLE, Int32.reduceAdd, Int32.reduceSub, reduceCtorEq, true_or, or_true, or_false, false_or, ne_eq, Nat.zero_le]
        refine ⟨_, m_isFun, ?_⟩
        simp only [e_84_50, e_84_90, e_84_91, true_and, and_true, and_self, false_and, and_false, if_true, if_false, ↓reduceIte, Nat.add_eq_left, Nat.left_eq_add, Nat.add_left_cancel_iff, not_false_eq_true, not_true_eq_false, i_pc, List.cons_append, List.nil_append, List.length_cons, List.length_nil, Nat.reduceEqDiff, Nat.reduceAdd, Nat.reduceMul, Nat.reduceSub, Nat.reduceLeDiff, Nat.reduceLT, Int32.reduceLT, Int32.reduceLE, Int32.reduceAdd, Int32.reduceSub, reduceCtorEq, true_or, or_true, or_false, false_or, ne_eq, Nat.zero_le, Option.toList, bI_f hf, bI_ff]
    · exact stop p bd By ay Bk Q hpn hp hB
theorem m_heads (hO : MO h) (hTT : ∀ j, j < 152 → hI h 51 j = T j) (hT : TX T n) (hn : hI h 49 3 = nI n) : ∃ (ok : Bool) (By' ay' Bk' Q' : Nat → Int32), Rn xs L (d + 2) 84 [.inr (some 49)] h (some (.inl (bI ok)), hH h By' ay' Bk' Q') ∧ (hds T n 0 (fun _ => 0) (hI h 57) (hI h 52) = none → ok = false) ∧ ((∀ f, f < 4 → ∃ k, k ≤ 3 ∧ hI h 57 f = nI k) → ∀ f, f < 4 → ∃ k, k ≤ 3 ∧ ay' f = nI k) ∧ ∀ bd' ay2 Q2, hds T n 0 (fun _ => 0) (hI h 57) (hI h 52) = some (bd', ay2, Q2) → ok = decide (0 < bd' 0 ∧ ay2 0 = 0) ∧ (∀ f, f < 4 → By' f = nI (bd' f) ∧ bd' f < 152) ∧ ay' = ay2 ∧ Q' = Q2 := by
  have hgo := fun By (hB : ∀ j, j < 4 → By j = 0) => m_hd_loop (xs := xs) (L := L) (d := d) hO hTT hT hn n 0 (fun _ => 0) By (hI h 57) (hI h 58) (hI h 52) (by omega) (by omega) (fun f hf => ⟨hB f hf, by decide⟩)
  have hz := hgo (fun j => if j < 4 then 0 else hI h 56 j) (fun j hj => if_pos hj)
  obtain ⟨ok, By', ay', Bk', Q', i1, i2, i3⟩ := hz
  refine ⟨ok, By', ay', Bk', Q', ?_, i2, i3⟩
  rw [i_rn]
  show X xs L (d + 1) 84 (0, [some (.inr (some 49)), none, none, none, none, none], [], h) _
  simp only [e_84_0, e_84_1, e_84_2, e_84_3, true_and, and_true, and_self, false_and, and_false, if_true, if_false, ↓reduceIte, Nat.add_eq_left, Nat.left_eq_add, Nat.add_left_cancel_iff, not_false_eq_true, not_true_eq_false, i_pc, List.cons_append, List.nil_append, List.length_cons, List.length_nil, Nat.reduceEqDiff, Nat.reduceAdd, Nat.reduceMul, Nat.reduceSub, Nat.reduceLeDiff, Nat.reduceLT, Int32.reduceLT, Int32.reduceLE, Int32.reduceAdd, Int32.reduceSub, reduceCtorEq, true_or, or_true, or_false, false_or, ne_eq, Nat.zero_le]
  have e0 : h = hH h (hI h 56) (hI h 57) (hI h 58) (hI h 52) := hH_id.symm
  have hl : ∀ (m i : Nat) (By : Nat → Int32), i + m = 4 → (∀ j, j < i → By j = 0) → (∀ j, i ≤ j → By j = hI h 56 j) → X xs L (d + 1) 84 (4, [some (.inr (some 49)), some (.inl (nI 0)), some (.inl (nI i)), none, none, none], [], hH h By (hI h 57) (hI h 58) (hI h 52)) (some (.inl (bI ok)), hH h By' ay' Bk' Q') := by
    have hO2 : ∀ By ay Bk Q : Nat → Int32, MO (hH h By ay Bk Q) := fun _ _ _ _ => hO
    intro m
    induction m with
    | zero =>
      intro i By hi hB hC
      have : i = 4 := by omega
      subst this
      simp only [e_84_4, e_84_5, e_84_6, true_and, and_true, and_self, false_and, and_false, if_true, if_false, ↓reduceIte, Nat.add_eq_left, Nat.left_eq_add, Nat.add_left_cancel_iff, not_false_eq_true, not_true_eq_false, i_pc, List.cons_append, List.nil_append, List.length_cons, List.length_nil, Nat.reduceEqDiff, Nat.reduceAdd, Nat.reduceMul, Nat.reduceSub, Nat.reduceLeDiff, Nat.reduceLT, Int32.reduceLT, Int32.reduceLE, Int32.reduceAdd, Int32.reduceSub, reduceCtorEq, true_or, or_true, or_false, false_or, ne_eq, Nat.zero_le, show ((4 : Int32) ≤ nI 4) = True from by decide]
      have eB : By = fun j => if j < 4 then 0 else hI h 56 j := funext (fun j => by
        by_cases c : j < 4
        · rw [if_pos c]; exact hB j c
        · rw [if_neg c]; exact hC j (by omega))
      rw [eB]
      exact i1 _ _ _ _
    | succ m ih =>
      intro i By hi hB hC
      have c1 : ¬ (4 : Int32) ≤ nI i := nI_ge (b := 4) (by omega) (by decide)
      have c2 : vp_in (nI i) 4 := vin (by omega) (by decide)
      have hgo := ih (i + 1) (up By i 0) (by omega) (fun j hj => by
        by_cases c : j = i
        · subst c; exact up_eq
        · rw [up_ne c]; exact hB j (by omega)) (fun j hj => by rw [up_ne (by omega)]; exact hC j (by omega))
      rw [e_84_4]
      simp only [e_84_5, e_84_6, e_84_9, e_84_10, e_84_13, e_84_14, e_84_15, e_84_16, e_84_19, true_and, and_true, and_self, false_and, and_false, if_true, if_false, ↓reduceIte, Nat.add_eq_left, Nat.left_eq_add, Nat.add_left_cancel_iff, not_false_eq_true, not_true_eq_false, i_pc, List.cons_append, List.nil_append, List.length_cons, List.length_nil, Nat.reduceEqDiff, Nat.reduceAdd, Nat.reduceMul, Nat.reduceSub, Nat.reduceLeDiff, Nat.reduceLT, Int32.reduceLT, Int32.reduceLE, Int32.reduceAdd, Int32.reduceSub, reduceCtorEq, true_or, or_true, or_false, false_or, ne_eq, Nat.zero_le, mo_k (hO2 _ _ _ _), mo_r56 (hO2 _ _ _ _), mo_k56 (hO2 _ _ _ _), mo_l56 (hO2 _ _ _ _), c1, c2, hW_56, nI_1, nI_cl (show i < 2 ^ 31 by omega)]
      exact hgo
  have := hl 4 0 (hI h 56) (by omega) (fun j hj => by omega) (fun j _ => rfl)
  rw [← e0] at this
  exact this
end MZ

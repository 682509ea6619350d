-- THE MODEL's reading: heads
def hH (h : Hp) (By ay Bk Q : Nat → Int32) : Hp := sA (sA (sA (sA h 56 By) 57 ay) 58 Bk) 52 Q
def BkM (Bk : Nat → Int32) : List Nat → Prop
  | [] => True
  | o :: st => Bk st.length = nI o ∧ o < 152 ∧ BkM Bk st
section MY
variable {xs : Nat → Int32} {L d : Nat} {h : Hp} {res : Res} {By ay Bk Q T : Nat → Int32} {n p : Nat}
theorem hH_o {o k : Nat} (h1 : ¬ o = 56) (h2 : ¬ o = 57) (h3 : ¬ o = 58) (h4 : ¬ o = 52) : hI (hH h By ay Bk Q) o k = hI h o k := by
  unfold hH
  rw [hI_sA, if_neg h4, hI_sA, if_neg h3, hI_sA, if_neg h2, hI_sA, if_neg h1]
theorem hH_51 {k : Nat} : hI (hH h By ay Bk Q) 51 k = hI h 51 k := hH_o (by decide) (by decide) (by decide) (by decide)
theorem hH_49 {k : Nat} : hI (hH h By ay Bk Q) 49 k = hI h 49 k := hH_o (by decide) (by decide) (by decide) (by decide)
theorem hH_56 {k : Nat} : hI (hH h By ay Bk Q) 56 k = By k := by
  unfold hH
  rw [hI_sA, if_neg (by decide), hI_sA, if_neg (by decide), hI_sA, if_neg (by decide), hI_sA, if_pos rfl]
theorem hH_57 {k : Nat} : hI (hH h By ay Bk Q) 57 k = ay k := by
  unfold hH
  rw [hI_sA, if_neg (by decide), hI_sA, if_neg (by decide), hI_sA, if_pos rfl]
theorem hH_58 {k : Nat} : hI (hH h By ay Bk Q) 58 k = Bk k := by
  unfold hH
  rw [hI_sA, if_neg (by decide), hI_sA, if_pos rfl]
theorem hH_52 {k : Nat} : hI (hH h By ay Bk Q) 52 k = Q k := by
  unfold hH
  rw [hI_sA, if_pos rfl]
theorem hW_56 {k : Nat} {v : Int32} : sI (hH h By ay Bk Q) 56 k v = hH h (up By k v) ay Bk Q := by
  unfold hH
  rw [sI_sAo (by decide), sI_sAo (by decide), sI_sAo (by decide), sI_sAs]
theorem hW_57 {k : Nat} {v : Int32} : sI (hH h By ay Bk Q) 57 k v = hH h By (up ay k v) Bk Q := by
  unfold hH
  rw [sI_sAo (by decide), sI_sAo (by decide), sI_sAs]
theorem hW_58 {k : Nat} {v : Int32} : sI (hH h By ay Bk Q) 58 k v = hH h By ay (up Bk k v) Q := by
  unfold hH
  rw [sI_sAo (by decide), sI_sAs]
theorem hW_52 {k : Nat} {v : Int32} : sI (hH h By ay Bk Q) 52 k v = hH h By ay Bk (up Q k v) := by
  unfold hH
  rw [sI_sAs]
theorem hH_id : hH h (hI h 56) (hI h 57) (hI h 58) (hI h 52) = h := by
  unfold hH
  rw [sA_id (o := 56) (fun _ => rfl), sA_id (o := 57) (fun _ => rfl), sA_id (o := 58) (fun _ => rfl), sA_id (o := 52) (fun _ => rfl)]
theorem BkM_up {k : Nat} {v : Int32} : ∀ st : List Nat, st.length ≤ k → BkM Bk st → BkM (up Bk k v) st := by
  intro st
  induction st with
  | nil => exact fun _ _ => trivial
  | cons o st ih =>
    intro hk h
    rw [List.length_cons] at hk
    exact ⟨by rw [up_ne (by omega)]; exact h.1, h.2.1, ih (by omega) h.2.2⟩
def HS (xs : Nat → Int32) (L d : Nat) (pc : Nat) (c e : Int32) (h : Hp) (p dep op : Int32) (res : Res) : Prop := X xs L d 84 (pc, [some (.inr (some 49)), some (.inl p), some (.inl c), some (.inl e), some (.inl dep), some (.inl op)], [], h) res
theorem m_hs (hO : MO h) (hTT : ∀ j, j < 152 → hI h 51 j = T j) (hT : TX T n) (hn : hI h 49 3 = nI n) {c e : Int32} : ∀ (m p o : Nat) (st : List Nat) (Bk Q : Nat → Int32), n - p ≤ m → p ≤ n → st.length + 1 ≤ 6 → BkM Bk (o :: st) →
    ∃ Bk' : Nat → Int32, (hsc T n p (o :: st) Q = none → ∃ Q', HS xs L d 127 c e (hH h By ay Bk Q) (nI p) (nI (st.length + 1)) 1 (some (.inl 0), hH h By ay Bk' Q')) ∧ ∀ q R, hsc T n p (o :: st) Q = some (q, R) → q ≤ n ∧ p < q ∧ ∀ res, HS xs L d 229 c e (hH h By ay Bk' R) (nI q) (nI 0) 0 res → HS xs L d 127 c e (hH h By ay Bk Q) (nI p) (nI (st.length + 1)) 1 res := by
  intro m
  have hn2 := hT.1
  have hO2 : ∀ By ay Bk Q : Nat → Int32, MO (hH h By ay Bk Q) := fun _ _ _ _ => hO
  have stop : ∀ (p o : Nat) (st : List Nat) (Bk Q : Nat → Int32), ¬ p < n → p ≤ n → HS xs L d 127 c e (hH h By ay Bk Q) (nI p) (nI (st.length + 1)) 1 (some (.inl 0), hH h By ay Bk Q) := fun p o st Bk Q h1 h2 => by
    have h3 : nI n ≤ nI p := nI_le (by omega) (by omega)
    unfold HS
    simp only [e_84_127, e_84_128, e_84_129, e_84_132, e_84_229, e_84_231, e_84_234, e_84_235, true_and, and_true, and_self, false_and, and_false, if_true, if_false, ↓reduceIte, Nat.add_eq_left, Nat.left_eq_add, Nat.add_left_cancel_iff, not_false_eq_true, not_true_eq_false, i_pc, List.cons_append, List.nil_append, List.length_cons, List.length_nil, Nat.reduceEqDiff, Nat.reduceAdd, Nat.reduceMul, Nat.reduceSub, Nat.reduceLeDiff, Nat.reduceLT, Int32.reduceLT, Int32.reduceLE, Int32.reduceAdd, Int32.reduceSub, reduceCtorEq, true_or, or_true, or_false, false_or, ne_eq, Nat.zero_le, mo_k (hO2 _ _ _ _), hH_49, hn, h3, show ((1 : Int32) = 0) = False from by decide]
  induction m with
  | zero =>
    intro p o st Bk Q hm hp hst hB
    have h1 : ¬ p < n := by omega
    exact ⟨Bk, fun _ => ⟨Q, stop p o st Bk Q h1 hp⟩, fun q R hq => by rw [hsc_no h1] at hq; cases hq⟩
  | succ m ih =>
    intro p o st Bk Q hm hp hst hB
    by_cases hpn : p < n
    · have q0 : ¬ nI n ≤ nI p := nI_ge hpn (by omega)
      have q1 : vp_in (nI p) 6384 := vin (by omega) (by decide)
      have q2 : vp_in (nI (st.length + 1)) 8 := vin (by omega) (by decide)
      have q3 : vp_in (nI st.length) 8 := vin (by omega) (by decide)
      have q4 : vp_in (nI p) 152 := vin (by omega) (by decide)
      have q5 : vp_in (nI o) 152 := vin hB.2.1 (by decide)
      have ho := hB.2.1
      have e3 : nI (st.length + 1) + -1 = nI st.length := by rw [← Int32.sub_eq_add_neg]; exact nI_pred _
      by_cases c1 : T p = 123
      · by_cases c6 : 6 ≤ st.length + 1
        · have q6 : ¬ nI (st.length + 1 + 1) ≤ 6 := nI_ge (a := 6) (by omega) (by omega)
          refine ⟨up Bk (st.length + 1) (nI p), fun _ => ⟨Q, ?_⟩, fun q R hq => by rw [hsc_open hpn c1, if_pos c6] at hq; cases hq⟩
          unfold HS
          simp only [e_84_127, e_84_128, e_84_129, e_84_132, e_84_135, e_84_137, e_84_140, e_84_141, e_84_144, e_84_145, e_84_146, e_84_148, e_84_151, e_84_152, e_84_155, e_84_157, e_84_158, e_84_159, e_84_162, e_84_164, e_84_166, e_84_169, e_84_170, true_and, and_true, and_self, false_and, and_false, if_true, if_false, ↓reduceIte, Nat.add_eq_left, Nat.left_eq_add, Nat.add_left_cancel_iff, not_false_eq_true, not_true_eq_false, i_pc, List.cons_append, List.nil_append, List.length_cons, List.length_nil, Nat.reduceEqDiff, Nat.reduceAdd, Nat.reduceMul, Nat.reduceSub, Nat.reduceLeDiff, Nat.reduceLT, Int32.reduceLT, Int32.reduceLE, Int32.reduceAdd, Int32.reduceSub, reduceCtorEq, true_or, or_true, or_false, false_or, ne_eq, Nat.zero_le, hK_sI, hL_sI, hR_sI, mo_k (hO2 _ _ _ _), mo_r51 (hO2 _ _ _ _), mo_k51 (hO2 _ _ _ _), mo_l51 (hO2 _ _ _ _), mo_r58 (hO2 _ _ _ _), mo_k58 (hO2 _ _ _ _), mo_l58 (hO2 _ _ _ _), hH_49, hH_51, hn, hTT p (show p < 152 by omega), c1, q0, q1, q2, q6, hW_58, nI_1, nI_cl (show p < 2 ^ 31 by omega), nI_cl (show st.length + 1 < 2 ^ 31 by omega), show ((1 : Int32) = 0) = False from by decide]
        · have q6 : nI (st.length + 1 + 1) ≤ 6 := nI_le (b := 6) (by omega) (by decide)
          obtain ⟨Bk', g1, g2⟩ := ih (p + 1) p (o :: st) (up Bk (st.length + 1) (nI p)) Q (by omega) hpn (by rw [List.length_cons]; omega) ⟨up_eq, by omega, BkM_up _ (Nat.le_refl _) hB⟩
          have hgo : ∀ res, HS xs L d 127 c e (hH h By ay (up Bk (st.length + 1) (nI p)) Q) (nI (p + 1)) (nI ((o :: st).length + 1)) 1 res → HS xs L d 127 c e (hH h By ay Bk Q) (nI p) (nI (st.length + 1)) 1 res := fun res hX => by
            unfold HS
            rw [e_84_127]
            simp only [e_84_128, e_84_129, e_84_132, e_84_135, e_84_137, e_84_140, e_84_141, e_84_144, e_84_145, e_84_146, e_84_148, e_84_151, e_84_152, e_84_155, e_84_157, e_84_158, e_84_159, e_84_162, e_84_164, e_84_166, e_84_223, e_84_226, true_and, and_true, and_self, false_and, and_false, if_true, if_false, ↓reduceIte, Nat.add_eq_left, Nat.left_eq_add, Nat.add_left_cancel_iff, not_false_eq_true, not_true_eq_false, i_pc, List.cons_append, List.nil_append, List.length_cons, List.length_nil, Nat.reduceEqDiff, Nat.reduceAdd, Nat.reduceMul, Nat.reduceSub, Nat.reduceLeDiff, Nat.reduceLT, Int32.reduceLT, Int32.reduceLE, Int32.reduceAdd, Int32.reduceSub, reduceCtorEq, true_or, or_true, or_false, false_or, ne_eq, Nat.zero_le, hK_sI, hL_sI, hR_sI, mo_k (hO2 _ _ _ _), mo_r51 (hO2 _ _ _ _), mo_k51 (hO2 _ _ _ _), mo_l51 (hO2 _ _ _ _), mo_r58 (hO2 _ _ _ _), mo_k58 (hO2 _ _ _ _), mo_l58 (hO2 _ _ _ _), hH_49, hH_51, hn, hTT p (show p < 152 by omega), c1, q0, q1, q2, q6, hW_58, nI_1, nI_cl (show p < 2 ^ 31 by omega), nI_cl (show st.length + 1 < 2 ^ 31 by omega), show ((1 : Int32) = 0) = False from by decide]
            exact hX
          rw [hsc_open hpn c1, if_neg c6]
          refine ⟨Bk', fun hq => ?_, fun q R hq => ?_⟩
          · obtain ⟨Q', g3⟩ := g1 hq
            exact ⟨Q', hgo _ g3⟩
          · obtain ⟨g3, g4, g5⟩ := g2 q R hq
            exact ⟨g3, by omega, fun res hX => hgo _ (g5 res hX)⟩
      by_cases c2 : T p = 125
      · rw [hsc_close hpn c2]
        cases st with
        | nil =>
          refine ⟨Bk, fun hq => (by rw [hsc_nil] at hq; cases hq), fun q R hq => ?_⟩
          rw [hsc_nil] at hq
          cases hq
          refine ⟨hpn, by omega, fun res hX => ?_⟩
          have hB0 : Bk 0 = nI o := hB.1
          have e4 : nI (0 + 1) + -1 = nI 0 := by decide
          unfold HS
          rw [e_84_127]
          have v0 : vp_in (nI 0) 8 := vin (by decide) (by decide)
          simp only [e_84_128, e_84_129, e_84_132, e_84_135, e_84_137, e_84_140, e_84_141, e_84_144, e_84_145, e_84_146, e_84_148, e_84_171, e_84_172, e_84_175, e_84_176, e_84_177, e_84_179, e_84_182, e_84_185, e_84_186, e_84_189, e_84_190, e_84_191, e_84_194, e_84_196, e_84_197, e_84_198, e_84_199, e_84_202, e_84_203, e_84_206, e_84_208, e_84_209, e_84_210, e_84_211, e_84_213, e_84_220, e_84_221, e_84_223, e_84_226, true_and, and_true, and_self, false_and, and_false, if_true, if_false, ↓reduceIte, Nat.add_eq_left, Nat.left_eq_add, Nat.add_left_cancel_iff, not_false_eq_true, not_true_eq_false, i_pc, List.cons_append, List.nil_append, List.length_cons, List.length_nil, Nat.reduceEqDiff, Nat.reduceAdd, Nat.reduceMul, Nat.reduceSub, Nat.reduceLeDiff, Nat.reduceLT, Int32.reduceLT, Int32.reduceLE, Int32.reduceAdd, Int32.reduceSub, reduceCtorEq, true_or, or_true, or_false, false_or, ne_eq, Nat.zero_le, hK_sI, hL_sI, hR_sI, List.length_nil, mo_k (hO2 _ _ _ _), mo_r51 (hO2 _ _ _ _), mo_k51 (hO2 _ _ _ _), mo_l51 (hO2 _ _ _ _), mo_r58 (hO2 _ _ _ _), mo_k58 (hO2 _ _ _ _), mo_l58 (hO2 _ _ _ _), mo_r52 (hO2 _ _ _ _), mo_k52 (hO2 _ _ _ _), mo_l52 (hO2 _ _ _ _), hH_49, hH_51, hH_58, hn, hTT p (show p < 152 by omega), c1, c2, q0, q1, q4, q5, v0, e4, hB0, hW_52, nI_1, nI_cl (show p < 2 ^ 31 by omega), nI_cl (show o < 2 ^ 31 by omega), nI_cl (show 0 < 2 ^ 31 by omega), show ((1 : Int32) = 0) = False from by decide, show (nI 0 ≤ 0) = True from by decide, show ((125 : Int32) = 123) = False from by decide, show (1 : Int32) + -1 = nI 0 from by decide, show nI 1 + -1 = nI 0 from by decide]
          by_cases c3 : nI n ≤ nI (p + 1)
          · simp only [e_84_127, e_84_128, e_84_129, e_84_132, true_and, and_true, and_self, false_and, and_false, if_true, if_false, ↓reduceIte, Nat.add_eq_left, Nat.left_eq_add, Nat.add_left_cancel_iff, not_false_eq_true, not_true_eq_false, i_pc, List.cons_append, List.nil_append, List.length_cons, List.length_nil, Nat.reduceEqDiff, Nat.reduceAdd, Nat.reduceMul, Nat.reduceSub, Nat.reduceLeDiff, Nat.reduceLT, Int32.reduceLT, Int32.reduceLE, Int32.reduceAdd, Int32.reduceSub, reduceCtorEq, true_or, or_true, or_false, false_or, ne_eq, Nat.zero_le, mo_k (hO2 _ _ _ _), hH_49, hn, c3]
            exact hX
          · simp only [e_84_127, e_84_128, e_84_129, e_84_132, e_84_135, e_84_137, true_and, and_true, and_self, false_and, and_false, if_true, if_false, ↓reduceIte, Nat.add_eq_left, Nat.left_eq_add, Nat.add_left_cancel_iff, not_false_eq_true, not_true_eq_false, i_pc, List.cons_append, List.nil_append, List.length_cons, List.length_nil, Nat.reduceEqDiff, Nat.reduceAdd, Nat.reduceMul, Nat.reduceSub, Nat.reduceLeDiff, Nat.reduceLT, Int32.reduceLT, Int32.reduceLE, Int32.reduceAdd, Int32.reduceSub, reduceCtorEq, true_or, or_true, or_false, false_or, ne_eq, Nat.zero_le, mo_k (hO2 _ _ _ _), hH_49, hn, c3]
            exact hX
        | cons s2 st2 =>
          have hBs := hB.2.2
          have hst2 : st2.length + 1 + 1 ≤ 6 := hst
          obtain ⟨Bk', g1, g2⟩ := ih (p + 1) s2 st2 Bk (up (up Q p (nI o)) o (nI p)) (by omega) hpn (by omega) hBs
          have hB0 : Bk (st2.length + 1) = nI o := hB.1
          have q6 : ¬ nI (st2.length + 1) ≤ 0 := nI_nle (by omega) (by omega)
          have e3' : nI (st2.length + 1 + 1) + -1 = nI (st2.length + 1) := e3
          have q3' : vp_in (nI (st2.length + 1)) 8 := q3
          have hgo : ∀ res, HS xs L d 127 c e (hH h By ay Bk (up (up Q p (nI o)) o (nI p))) (nI (p + 1)) (nI (st2.length + 1)) 1 res → HS xs L d 127 c e (hH h By ay Bk Q) (nI p) (nI ((s2 :: st2).length + 1)) 1 res := fun res hX => by
            unfold HS
            rw [e_84_127]
            simp only [e_84_128, e_84_129, e_84_132, e_84_135, e_84_137, e_84_140, e_84_141, e_84_144, e_84_145, e_84_146, e_84_148, e_84_171, e_84_172, e_84_175, e_84_176, e_84_177, e_84_179, e_84_182, e_84_185, e_84_186, e_84_189, e_84_190, e_84_191, e_84_194, e_84_196, e_84_197, e_84_198, e_84_199, e_84_202, e_84_203, e_84_206, e_84_208, e_84_209, e_84_210, e_84_211, e_84_213, e_84_216, e_84_217, e_84_221, e_84_223, e_84_226, true_and, and_true, and_self, false_and, and_false, if_true, if_false, ↓reduceIte, Nat.add_eq_left, Nat.left_eq_add, Nat.add_left_cancel_iff, not_false_eq_true, not_true_eq_false, i_pc, List.cons_append, List.nil_append, List.length_cons, List.length_nil, Nat.reduceEqDiff, Nat.reduceAdd, Nat.reduceMul, Nat.reduceSub, Nat.reduceLeDiff, Nat.reduceLT, Int32.reduceLT, Int32.reduceLE, Int32.reduceAdd, Int32.reduceSub, reduceCtorEq, true_or, or_true, or_false, false_or, ne_eq, Nat.zero_le, hK_sI, hL_sI, hR_sI, List.length_cons, mo_k (hO2 _ _ _ _), mo_r51 (hO2 _ _ _ _), mo_k51 (hO2 _ _ _ _), mo_l51 (hO2 _ _ _ _), mo_r58 (hO2 _ _ _ _), mo_k58 (hO2 _ _ _ _), mo_l58 (hO2 _ _ _ _), mo_r52 (hO2 _ _ _ _), mo_k52 (hO2 _ _ _ _), mo_l52 (hO2 _ _ _ _), hH_49, hH_51, hH_58, hn, hTT p (show p < 152 by omega), c1, c2, q0, q1, q4, q5, q3', q6, e3', hB0, hW_52, nI_1, nI_cl (show p < 2 ^ 31 by omega), nI_cl (show o < 2 ^ 31 by omega), nI_cl (show st2.length + 1 < 2 ^ 31 by omega), show ((1 : Int32) = 0) = False from by decide, show ((125 : Int32) = 123) = False from by decide]
            exact hX
          refine ⟨Bk', fun hq => ?_, fun q R hq => ?_⟩
          · obtain ⟨Q', g3⟩ := g1 hq
            exact ⟨Q', hgo _ g3⟩
          · obtain ⟨g3, g4, g5⟩ := g2 q R hq
            exact ⟨g3, by omega, fun res hX => hgo _ (g5 res hX)⟩
      · rw [hsc_1 hpn c1 c2]
        obtain ⟨Bk', g1, g2⟩ := ih (p + 1) o st Bk Q (by omega) hpn hst hB
        have hgo : ∀ res, HS xs L d 127 c e (hH h By ay Bk Q) (nI (p + 1)) (nI (st.length + 1)) 1 res → HS xs L d 127 c e (hH h By ay Bk Q) (nI p) (nI (st.length + 1)) 1 res := fun res hX => by
          unfold HS
          rw [e_84_127]
          simp only [e_84_128, e_84_129, e_84_132, e_84_135, e_84_137, e_84_140, e_84_141, e_84_144, e_84_145, e_84_146, e_84_148, e_84_171, e_84_172, e_84_175, e_84_176, e_84_177, e_84_179, e_84_223, e_84_226, true_and, and_true, and_self, false_and, and_false, if_true, if_false, ↓reduceIte, Nat.add_eq_left, Nat.left_eq_add, Nat.add_left_cancel_iff, not_false_eq_true, not_true_eq_false, i_pc, List.cons_append, List.nil_append, List.length_cons, List.length_nil, Nat.reduceEqDiff, Nat.reduceAdd, Nat.reduceMul, Nat.reduceSub, Nat.reduceLeDiff, Nat.reduceLT, Int32.reduceLT, Int32.reduceLE, Int32.reduceAdd, Int32.reduceSub, reduceCtorEq, true_or, or_true, or_false, false_or, ne_eq, Nat.zero_le, mo_k (hO2 _ _ _ _), mo_r51 (hO2 _ _ _ _), mo_k51 (hO2 _ _ _ _), mo_l51 (hO2 _ _ _ _), hH_49, hH_51, hn, hTT p (show p < 152 by omega), c1, c2, q0, q1, nI_1, nI_cl (show p < 2 ^ 31 by omega), show ((1 : Int32) = 0) = False from by decide]
          exact hX
        refine ⟨Bk', fun hq => ?_, fun q R hq => ?_⟩
        · obtain ⟨Q', g3⟩ := g1 hq
          exact ⟨Q', hgo _ g3⟩
        · obtain ⟨g3, g4, g5⟩ := g2 q R hq
          exact ⟨g3, by omega, fun res hX => hgo _ (g5 res hX)⟩
    · exact ⟨Bk, fun _ => ⟨Q, stop p o st Bk Q hpn hp⟩, fun q R hq => by rw [hsc_no hpn] at hq; cases hq⟩
end MY

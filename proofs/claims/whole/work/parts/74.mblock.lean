-- THE MODEL's reading: block
section MX
variable {xs : Nat → Int32} {L d : Nat} {h : Hp} {res : Res} {u : TB} {Bg F G ar T : Nat → Int32} {n p dep : Nat}
theorem stS_inv (hT : TX T n) (hp : p ≤ n) {x : Nat × Nat} (hs : stS ar T n p = some x) : ∃ b, x.1 = b + 1 ∧ p ≤ b ∧ b < n ∧ (∀ j, p ≤ j → j < b → ¬ T j = 123 ∧ (p < j → ¬ T j = 125)) ∧ ((x.2 = 0 ∧ T b = 59) ∨ (¬ x.2 = 0 ∧ T b = 123)) := by
  have hn := hT.1
  unfold stS at hs
  by_cases c1 : T p = 126
  · rw [if_pos c1] at hs
    by_cases c2 : T (p + 1) = 123
    · rw [if_pos c2] at hs
      cases hs
      have h2 : p < n := tx_lt hT (by omega) (by rw [c1]; decide)
      have h3 : p + 1 < n := tx_lt hT (by omega) (by rw [c2]; decide)
      refine ⟨p + 1, rfl, by omega, h3, fun j q1 q2 => ?_, Or.inr ⟨show ¬ (3 : Nat) = 0 by decide, c2⟩⟩
      have : j = p := by omega
      subst this
      rw [c1]
      exact ⟨by decide, fun z => by omega⟩
    · rw [if_neg c2] at hs; cases hs
  rw [if_neg c1] at hs
  by_cases c2 : (97 ≤ T p ∧ T p ≤ 102 ∧ T (p + 1) = 61) ∨ isBe (T p) = true
  · rw [if_pos c2] at hs
    have hpn : p < n := tx_lt hT (by omega) (fun e => by
      rcases c2 with z | z
      · rw [e] at z; exact absurd z.1 (by decide)
      · rw [e] at z; exact absurd z (by decide))
    have hp123 : ¬ T p = 123 := fun e => by
      rcases c2 with z | z
      · rw [e] at z; exact absurd z.2.1 (by decide)
      · rw [e] at z; exact absurd z (by decide)
    have hx : p + sx T p ≤ n ∧ p < p + sx T p ∧ ∀ j, p ≤ j → j < p + sx T p → ¬ T j = 123 ∧ (p < j → ¬ T j = 125) := by
      unfold sx
      by_cases cv : 97 ≤ T p ∧ T p ≤ 102
      · rw [if_pos cv]
        have c61 : T (p + 1) = 61 := by
          rcases c2 with z | z
          · exact z.2.2
          · unfold isBe at z
            simp only [Bool.or_eq_true, decide_eq_true_eq] at z
            rcases z with (((z | z) | z) | z) | z <;> rw [z] at cv <;> exact absurd cv.1 (by decide)
        have := tx_lt hT (p := p + 1) (by omega) (by rw [c61]; decide)
        refine ⟨by omega, by omega, fun j q1 q2 => ?_⟩
        by_cases c : j = p
        · subst c; exact ⟨hp123, fun z => by omega⟩
        · have : j = p + 1 := by omega
          subst this
          rw [c61]
          exact ⟨by decide, fun _ => by decide⟩
      · rw [if_neg cv]
        refine ⟨by omega, by omega, fun j q1 q2 => ?_⟩
        have : j = p := by omega
        subst this
        exact ⟨hp123, fun z => by omega⟩
    cases hsm : sm ar T (p + sx T p) true (0, 0, 0) [] with
    | none => rw [hsm] at hs; cases hs
    | some y =>
      obtain ⟨q, J⟩ := y
      rw [hsm] at hs
      have hs : (if T p = 63 ∨ T p = 64 then (if T q = 123 then some (q + 1, if T p = 63 then 1 else 2) else none) else (if T q = 59 ∧ q < n then some (q + 1, 0) else none)) = some x := hs
      obtain ⟨r1, r2, r3, r4⟩ := sm_rng hT 152 _ _ _ _ _ _ (by omega) hx.1 hsm
      have hbr : ∀ j, p ≤ j → j < q → ¬ T j = 123 ∧ (p < j → ¬ T j = 125) := fun j q1 q2 => by
        rcases Nat.lt_or_ge j (p + sx T p) with c | c
        · exact hx.2.2 j q1 c
        · exact ⟨(r4 j c q2).1, fun _ => (r4 j c q2).2⟩
      by_cases cg : T p = 63 ∨ T p = 64
      · rw [if_pos cg] at hs
        by_cases c3 : T q = 123
        · rw [if_pos c3] at hs
          cases hs
          exact ⟨q, rfl, by omega, tx_lt hT (by omega) (by rw [c3]; decide), hbr, Or.inr ⟨by show ¬ (if T p = 63 then 1 else 2) = 0; split <;> decide, c3⟩⟩
        · rw [if_neg c3] at hs; cases hs
      · rw [if_neg cg] at hs
        by_cases c3 : T q = 59 ∧ q < n
        · rw [if_pos c3] at hs
          cases hs
          exact ⟨q, rfl, by omega, c3.2, hbr, Or.inl ⟨rfl, c3.1⟩⟩
        · rw [if_neg c3] at hs; cases hs
  · rw [if_neg c2] at hs; cases hs
/-- the open blocks in the model's row; the lowest is no try -/
def BI (K Bg : Nat → Int32) (p : Nat) : List Nat → Prop
  | [] => True
  | o :: st => o < p ∧ Bg st.length = nI o ∧ (st = [] → ¬ K o = 3) ∧ BI K Bg p st
theorem BI_le {K K' Bg Bg' : Nat → Int32} {q : Nat} (hpq : p ≤ q) : ∀ st : List Nat, (∀ x, x < p → K' x = K x) → (∀ x, x < st.length → Bg' x = Bg x) → BI K Bg p st → BI K' Bg' q st := by
  intro st
  induction st with
  | nil => exact fun _ _ _ => trivial
  | cons o st ih =>
    intro hK hB h
    refine ⟨by have := h.1; omega, by rw [hB st.length (by rw [List.length_cons]; omega)]; exact h.2.1, fun e => by rw [hK o h.1]; exact h.2.2.1 e, ih hK (fun x hx => hB x (by rw [List.length_cons]; omega)) h.2.2.2⟩
theorem m_blk_loop (hO : MO h) (hA : AR h ar) (hTT : ∀ j, j < 152 → hI h 51 j = T j) (hT : TX T n) (hn : hI h 49 3 = nI n) {a1 : Option AV} : ∀ (m p : Nat) (stk : List Nat) (u : TB) (Bg F G Q : Nat → Int32), 152 - p ≤ m → p ≤ n + 1 → stk.length ≤ 6 → BI u.1 Bg p stk → u.2.2.2 ≤ 40 → (stk = [] ∨ p ≤ n) → ¬ hsc T n p stk Q = none →
    ∃ (u' : TB) (Bg' F' G' : Nat → Int32), (∀ a4, X xs L (d + 4) 86 (35, [some (.inr (some 49)), a1, some (.inl (nI stk.length)), some (.inl (nI p)), a4], [], kH h u Bg F G) (some (.inl (bI (bm ar T n p stk u).isSome)), kH h u' Bg' F' G')) ∧ ∀ x, bm ar T n p stk u = some x → u' = x.2 ∧ x.2.2.2.2 ≤ 40 := by
  intro m
  have hn2 := hT.1
  have hO2 : ∀ (u : TB) (Bg F G : Nat → Int32), MO (kH h u Bg F G) := fun _ _ _ _ => hO
  induction m with
  | zero => intro p stk u Bg F G Q hm hp; omega
  | succ m ih =>
    intro p stk u Bg F G Q hm hp hst hB hl hpn hQ
    cases stk with
    | nil =>
      refine ⟨u, Bg, F, G, fun a4 => ?_, fun x hx => ?_⟩
      · rw [bm_nil]
        show X _ _ _ _ _ (some (.inl (bI true)), _)
        simp only [e_86_35, e_86_36, e_86_167, e_86_168, true_and, and_true, and_self, false_and, and_false, if_true, if_false, ↓reduceIte, Nat.add_eq_left, Nat.left_eq_add, Nat.add_left_cancel_iff, not_false_eq_true, not_true_eq_false, i_pc, List.cons_append, List.nil_append, List.length_cons, List.length_nil, Nat.reduceEqDiff, Nat.reduceAdd, Nat.reduceMul, Nat.reduceSub, Nat.reduceLeDiff, Nat.reduceLT, Int32.reduceLT, Int32.reduceLE, Int32.reduceAdd, Int32.reduceSub, reduceCtorEq, true_or, or_true, or_false, false_or, ne_eq, Nat.zero_le, List.length_nil, show (nI 0 ≤ 0) = True from by decide, bI_tt]
      · rw [bm_nil] at hx
        cases hx
        exact ⟨rfl, hl⟩
    | cons o st =>
      have hpn : p ≤ n := hpn.resolve_left (by intro z; cases z)
      have hst : st.length + 1 ≤ 6 := hst
      have q0 : ¬ nI (st.length + 1) ≤ 0 := nI_nle (by omega) (by omega)
      have q1 : vp_in (nI p) 6384 := vin (by omega) (by decide)
      have q2 : vp_in (nI st.length) 8 := vin (by omega) (by decide)
      have ho : o < p := hB.1
      have q3 : vp_in (nI o) 152 := vin (by omega) (by decide)
      have e3 : nI (st.length + 1) + -1 = nI st.length := by rw [← Int32.sub_eq_add_neg]; exact nI_pred _
      by_cases c125 : T p = 125
      · have hp2 : p < n := tx_lt hT (by omega) (by rw [c125]; decide)
        rw [hsc_close hp2 c125] at hQ
        by_cases c3 : u.1 o = 3
        · have q4 : vp_in (nI (p + 1)) 6384 := vin (by omega) (by decide)
          have q5 : vp_in (nI (p + 1)) 152 := vin (by omega) (by decide)
          rw [bm_try (by omega) c125 c3]
          by_cases c123 : T (p + 1) = 123
          · have hp3 : p + 1 < n := tx_lt hT (by omega) (by rw [c123]; decide)
            rw [if_pos c123]
            have hst0 : ∃ s2 st2, st = s2 :: st2 := by
              cases st with
              | nil => exact absurd c3 (hB.2.2.1 rfl)
              | cons s2 st2 => exact ⟨s2, st2, rfl⟩
            obtain ⟨s2, st2, rfl⟩ := hst0
            rw [hsc_open hp3 c123] at hQ
            rw [List.length_cons] at hst
            rw [if_neg (by omega)] at hQ
            obtain ⟨u', Bg', F', G', g1, g2⟩ := ih (p + 2) ((p + 1) :: s2 :: st2) (up u.1 (p + 1) 4, up u.2.1 (p + 1) (u.2.1 o), u.2.2) (up Bg (s2 :: st2).length (nI (p + 1))) F G _ (by omega) (by omega) (by simp only [List.length_cons]; omega) ⟨by omega, up_eq, (fun z => by cases z), BI_le (p := p) (by omega) _ (fun x hx => up_ne (by omega)) (fun x hx => up_ne (by omega)) hB.2.2.2⟩ hl (Or.inr (by omega)) hQ
            refine ⟨u', Bg', F', G', fun a4 => ?_, g2⟩
            have q0' : ¬ nI (st2.length + 1 + 1) ≤ 0 := q0
            have q2' : vp_in (nI (st2.length + 1)) 8 := q2
            have e3' : nI (st2.length + 1 + 1) + -1 = nI (st2.length + 1) := e3
            rw [e_86_35]
            simp only [q0', q2', e3', e_86_36, e_86_39, e_86_40, e_86_43, e_86_44, e_86_45, e_86_47, e_86_50, e_86_53, e_86_54, e_86_57, e_86_58, e_86_59, e_86_61, e_86_64, e_86_65, e_86_68, e_86_70, e_86_71, e_86_72, e_86_75, e_86_76, e_86_79, e_86_80, e_86_81, e_86_83, e_86_86, e_86_87, e_86_88, e_86_89, e_86_92, e_86_93, e_86_94, e_86_95, e_86_96, e_86_99, e_86_100, e_86_101, e_86_104, e_86_106, e_86_107, e_86_108, e_86_109, e_86_112, e_86_113, e_86_114, e_86_115, e_86_118, e_86_121, true_and, and_true, and_self, false_and, and_false, if_true, if_false, ↓reduceIte, Nat.add_eq_left, Nat.left_eq_add, Nat.add_left_cancel_iff, not_false_eq_true, not_true_eq_false, i_pc, List.cons_append, List.nil_append, List.length_cons, List.length_nil, Nat.reduceEqDiff, Nat.reduceAdd, Nat.reduceMul, Nat.reduceSub, Nat.reduceLeDiff, Nat.reduceLT, Int32.reduceLT, Int32.reduceLE, Int32.reduceAdd, Int32.reduceSub, reduceCtorEq, true_or, or_true, or_false, false_or, ne_eq, Nat.zero_le, hK_sI, hL_sI, hR_sI, List.length_cons, q0, q1, q2, q3, q4, q5, e3, mo_k (hO2 _ _ _ _), mo_r51 (hO2 _ _ _ _), mo_k51 (hO2 _ _ _ _), mo_l51 (hO2 _ _ _ _), mo_r53 (hO2 _ _ _ _), mo_k53 (hO2 _ _ _ _), mo_l53 (hO2 _ _ _ _), mo_r54 (hO2 _ _ _ _), mo_k54 (hO2 _ _ _ _), mo_l54 (hO2 _ _ _ _), mo_r59 (hO2 _ _ _ _), mo_k59 (hO2 _ _ _ _), mo_l59 (hO2 _ _ _ _), kH_51, kH_53, kH_54, kH_59, hTT p (show p < 152 by omega), hTT (p + 1) (show p + 1 < 152 by omega), c125, c123, c3, (show Bg (st2.length + 1) = nI o from hB.2.1), kW_53, kW_54, kW_59, nI_1, nI_cl (show p < 2 ^ 31 by omega), nI_cl (show p + 1 < 2 ^ 31 by omega), nI_cl (show o < 2 ^ 31 by omega), nI_cl (show st2.length + 1 < 2 ^ 31 by omega), (show nI (st2.length + 1) + 1 = nI (st2.length + 2) from nI_1 _)]
            exact g1 _
          · rw [if_neg c123]
            refine ⟨u, Bg, F, G, fun a4 => ?_, fun x hx => by cases hx⟩
            show X _ _ _ _ _ (some (.inl (bI false)), _)
            simp only [e_86_35, e_86_36, e_86_39, e_86_40, e_86_43, e_86_44, e_86_45, e_86_47, e_86_50, e_86_53, e_86_54, e_86_57, e_86_58, e_86_59, e_86_61, e_86_64, e_86_65, e_86_68, e_86_70, e_86_71, e_86_72, e_86_75, e_86_76, e_86_79, e_86_80, e_86_81, e_86_83, e_86_86, e_86_87, true_and, and_true, and_self, false_and, and_false, if_true, if_false, ↓reduceIte, Nat.add_eq_left, Nat.left_eq_add, Nat.add_left_cancel_iff, not_false_eq_true, not_true_eq_false, i_pc, List.cons_append, List.nil_append, List.length_cons, List.length_nil, Nat.reduceEqDiff, Nat.reduceAdd, Nat.reduceMul, Nat.reduceSub, Nat.reduceLeDiff, Nat.reduceLT, Int32.reduceLT, Int32.reduceLE, Int32.reduceAdd, Int32.reduceSub, reduceCtorEq, true_or, or_true, or_false, false_or, ne_eq, Nat.zero_le, List.length_cons, q0, q1, q2, q3, q4, q5, e3, mo_k (hO2 _ _ _ _), mo_r51 (hO2 _ _ _ _), mo_k51 (hO2 _ _ _ _), mo_l51 (hO2 _ _ _ _), mo_r53 (hO2 _ _ _ _), mo_k53 (hO2 _ _ _ _), mo_l53 (hO2 _ _ _ _), mo_r59 (hO2 _ _ _ _), mo_k59 (hO2 _ _ _ _), mo_l59 (hO2 _ _ _ _), kH_51, kH_53, kH_59, hTT p (show p < 152 by omega), hTT (p + 1) (show p + 1 < 152 by omega), c125, c123, c3, (show Bg st.length = nI o from hB.2.1), nI_1, bI_ff, nI_cl (show p < 2 ^ 31 by omega), nI_cl (show p + 1 < 2 ^ 31 by omega), nI_cl (show o < 2 ^ 31 by omega), nI_cl (show st.length < 2 ^ 31 by omega)]
        · rw [bm_close (by omega) c125 c3]
          obtain ⟨u', Bg', F', G', g1, g2⟩ := ih (p + 1) st u Bg F G _ (by omega) (by omega) (by omega) (BI_le (p := p) (by omega) _ (fun x hx => rfl) (fun x hx => rfl) hB.2.2.2) hl (Or.inr (by omega)) hQ
          refine ⟨u', Bg', F', G', fun a4 => ?_, g2⟩
          rw [e_86_35]
          simp only [e_86_36, e_86_39, e_86_40, e_86_43, e_86_44, e_86_45, e_86_47, e_86_50, e_86_53, e_86_54, e_86_57, e_86_58, e_86_59, e_86_61, e_86_64, e_86_65, e_86_68, e_86_70, e_86_71, e_86_72, e_86_121, true_and, and_true, and_self, false_and, and_false, if_true, if_false, ↓reduceIte, Nat.add_eq_left, Nat.left_eq_add, Nat.add_left_cancel_iff, not_false_eq_true, not_true_eq_false, i_pc, List.cons_append, List.nil_append, List.length_cons, List.length_nil, Nat.reduceEqDiff, Nat.reduceAdd, Nat.reduceMul, Nat.reduceSub, Nat.reduceLeDiff, Nat.reduceLT, Int32.reduceLT, Int32.reduceLE, Int32.reduceAdd, Int32.reduceSub, reduceCtorEq, true_or, or_true, or_false, false_or, ne_eq, Nat.zero_le, List.length_cons, q0, q1, q2, q3, e3, mo_k (hO2 _ _ _ _), mo_r51 (hO2 _ _ _ _), mo_k51 (hO2 _ _ _ _), mo_l51 (hO2 _ _ _ _), mo_r53 (hO2 _ _ _ _), mo_k53 (hO2 _ _ _ _), mo_l53 (hO2 _ _ _ _), mo_r59 (hO2 _ _ _ _), mo_k59 (hO2 _ _ _ _), mo_l59 (hO2 _ _ _ _), kH_51, kH_53, kH_59, hTT p (show p < 152 by omega), c125, c3, (show Bg st.length = nI o from hB.2.1), nI_1, nI_cl (show p < 2 ^ 31 by omega), nI_cl (show o < 2 ^ 31 by omega), nI_cl (show st.length < 2 ^ 31 by omega)]
          exact g1 _
      · obtain ⟨F', G', hr⟩ := m_stmt (xs := xs) (L := L) (d := d) (dep := st.length + 1) (u := u) (Bg := Bg) (F := F) (G := G) hO hA hTT hT hn hpn (by omega) hl
        have hgo : ∀ (res : Res) (a4 : Option AV), (∃ v, Rn xs L (d + 4) 85 [.inr (some 49), .inl (nI p), .inl (nI (st.length + 1))] (kH h u Bg F G) v ∧ X xs L (d + 4) 86 (130, [some (.inr (some 49)), a1, some (.inl (nI (st.length + 1))), some (.inl (nI p)), a4], v.1.toList ++ [], v.2) res) → X xs L (d + 4) 86 (35, [some (.inr (some 49)), a1, some (.inl (nI (o :: st).length)), some (.inl (nI p)), a4], [], kH h u Bg F G) res := fun res a4 z => by
          rw [e_86_35]
          simp only [e_86_36, e_86_39, e_86_40, e_86_43, e_86_44, e_86_45, e_86_47, e_86_124, e_86_125, e_86_126, e_86_127, true_and, and_true, and_self, false_and, and_false, if_true, if_false, ↓reduceIte, Nat.add_eq_left, Nat.left_eq_add, Nat.add_left_cancel_iff, not_false_eq_true, not_true_eq_false, i_pc, List.cons_append, List.nil_append, List.length_cons, List.length_nil, Nat.reduceEqDiff, Nat.reduceAdd, Nat.reduceMul, Nat.reduceSub, Nat.reduceLeDiff, Nat.reduceLT, Int32.reduceLT, Int32.reduceLE, Int32.reduceAdd, Int32.reduceSub, reduceCtorEq, true_or, or_true, or_false, false_or, ne_eq, Nat.zero_le, List.length_cons, q0, q1, mo_k (hO2 _ _ _ _), mo_r51 (hO2 _ _ _ _), mo_k51 (hO2 _ _ _ _), mo_l51 (hO2 _ _ _ _), kH_51, hTT p (show p < 152 by omega), c125, nI_cl (show p < 2 ^ 31 by omega)]
          exact z
        have hbad : ∀ u' : TB, bm ar T n p (o :: st) u = none → stR h u Bg F' G' p (st.length + 1) (stS ar T n p) = (some (.inl (-1)), kH h u' Bg F' G') → ∃ (u' : TB) (Bg' F' G' : Nat → Int32), (∀ a4, X xs L (d + 4) 86 (35, [some (.inr (some 49)), a1, some (.inl (nI (o :: st).length)), some (.inl (nI p)), a4], [], kH h u Bg F G) (some (.inl (bI (bm ar T n p (o :: st) u).isSome)), kH h u' Bg' F' G')) ∧ ∀ x, bm ar T n p (o :: st) u = some x → u' = x.2 ∧ x.2.2.2.2 ≤ 40 := fun u' hbm he => by
          refine ⟨u', Bg, F', G', fun a4 => ?_, fun x hx => by rw [hbm] at hx; cases hx⟩
          rw [he] at hr
          refine hgo _ a4 ⟨_, hr, ?_⟩
          rw [hbm]
          show X _ _ _ _ _ (some (.inl (bI false)), _)
          simp only [e_86_130, e_86_132, e_86_134, e_86_137, e_86_138, true_and, and_true, and_self, false_and, and_false, if_true, if_false, ↓reduceIte, Nat.add_eq_left, Nat.left_eq_add, Nat.add_left_cancel_iff, not_false_eq_true, not_true_eq_false, i_pc, List.cons_append, List.nil_append, List.length_cons, List.length_nil, Nat.reduceEqDiff, Nat.reduceAdd, Nat.reduceMul, Nat.reduceSub, Nat.reduceLeDiff, Nat.reduceLT, Int32.reduceLT, Int32.reduceLE, Int32.reduceAdd, Int32.reduceSub, reduceCtorEq, true_or, or_true, or_false, false_or, ne_eq, Nat.zero_le, Option.toList, show ((0 : Int32) ≤ -1) = False from by decide, bI_ff]
        cases hs : stS ar T n p with
        | none => exact hbad (u1T u p) (bm_none (by omega) c125 hs) (by rw [hs]; rfl)
        | some x =>
          obtain ⟨b, hxb, hpb, hbn, hbr, hb2⟩ := stS_inv hT hpn hs
          obtain ⟨x1, x2⟩ := x
          have hxb : x1 = b + 1 := hxb
          subst hxb
          have hbr2 : ∀ j, p ≤ j → j < b → ¬ T j = 123 ∧ ¬ T j = 125 := fun j k1 k2 => ⟨(hbr j k1 k2).1, by
            by_cases c : j = p
            · subst c; exact c125
            · exact (hbr j k1 k2).2 (by omega)⟩
          by_cases c40 : 40 ≤ u.2.2.2
          · exact hbad (u1T u p) (bm_40 (by omega) c125 c40) (by rw [hs]; exact if_pos c40)
          have q6 : (0 : Int32) ≤ nI (b + 1) := nI_le (a := 0) (by omega) (by omega)
          have q7 : vp_in (nI b) 6384 := vin (by omega) (by decide)
          rcases hb2 with ⟨h0, h59⟩ | ⟨h0, h123⟩
          · have h0 : x2 = 0 := h0
            subst h0
            have h59n : ¬ T b = 123 := by rw [h59]; decide
            rw [bm_sim (by omega) c125 hs (by omega), if_neg c40]
            rw [hsc_skip (b + 1 - p) p (b + 1) (by omega) hbn (fun j k1 k2 => by
              by_cases c : j = b
              · subst c; rw [h59]; decide
              · exact hbr2 j k1 (by omega))] at hQ
            obtain ⟨u', Bg', F'', G'', g1, g2⟩ := ih (b + 1) (o :: st) (u1T u p) Bg F' G' Q (by omega) (by omega) hst (BI_le (p := p) (by omega) _ (fun x hx => rfl) (fun x hx => rfl) hB) (by show u.2.2.2 + 1 ≤ 40; omega) (Or.inr hbn) hQ
            refine ⟨u', Bg', F'', G'', fun a4 => hgo _ a4 ⟨_, hr, ?_⟩, g2⟩
            rw [hs]
            show X _ _ _ _ (130, _, (stR h u Bg F' G' p (st.length + 1) (some (b + 1, 0))).1.toList ++ [], (stR h u Bg F' G' p (st.length + 1) (some (b + 1, 0))).2) _
            rw [show stR h u Bg F' G' p (st.length + 1) (some (b + 1, 0)) = (some (.inl (nI (b + 1))), kH h (u1T u p) Bg F' G') from (if_neg c40).trans (if_pos rfl)]
            simp only [e_86_130, e_86_132, e_86_134, e_86_137, e_86_138, e_86_139, e_86_140, e_86_143, e_86_145, e_86_146, e_86_147, e_86_148, e_86_150, e_86_159, e_86_160, e_86_161, e_86_163, e_86_164, true_and, and_true, and_self, false_and, and_false, if_true, if_false, ↓reduceIte, Nat.add_eq_left, Nat.left_eq_add, Nat.add_left_cancel_iff, not_false_eq_true, not_true_eq_false, i_pc, List.cons_append, List.nil_append, List.length_cons, List.length_nil, Nat.reduceEqDiff, Nat.reduceAdd, Nat.reduceMul, Nat.reduceSub, Nat.reduceLeDiff, Nat.reduceLT, Int32.reduceLT, Int32.reduceLE, Int32.reduceAdd, Int32.reduceSub, reduceCtorEq, true_or, or_true, or_false, false_or, ne_eq, Nat.zero_le, Option.toList, q6, q7, nI_pred, mo_k (hO2 _ _ _ _), mo_r51 (hO2 _ _ _ _), mo_k51 (hO2 _ _ _ _), mo_l51 (hO2 _ _ _ _), kH_51, hTT b (show b < 152 by omega), h59n, nI_cl (show b < 2 ^ 31 by omega)]
            exact g1 _
          · have h0 : ¬ x2 = 0 := h0
            rw [hsc_skip (b - p) p b (by omega) (by omega) hbr2, hsc_open hbn h123] at hQ
            have hst6 : ¬ 6 ≤ st.length + 1 := fun z => hQ (if_pos z)
            rw [if_neg hst6] at hQ
            rw [bm_blk (by omega) c125 hs h0 hpb, if_neg c40, if_neg hst6]
            obtain ⟨u', Bg', F'', G'', g1, g2⟩ := ih (b + 1) (b :: o :: st) (u2T u p b x2) (up Bg (st.length + 1) (nI b)) F' G' Q (by omega) (by omega) (by simp only [List.length_cons]; omega) ⟨by omega, up_eq, (fun z => by cases z), BI_le (p := p) (by omega) _ (fun x hx => up_ne (by omega)) (fun x hx => up_ne (by rw [List.length_cons] at hx; omega)) hB⟩ (by show u.2.2.2 + 1 ≤ 40; omega) (Or.inr hbn) hQ
            refine ⟨u', Bg', F'', G'', fun a4 => hgo _ a4 ⟨_, hr, ?_⟩, g2⟩
            rw [hs]
            rw [show stR h u Bg F' G' p (st.length + 1) (some (b + 1, x2)) = (some (.inl (nI (b + 1))), kH h (u2T u p b x2) (up Bg (st.length + 1) (nI b)) F' G') from (if_neg c40).trans (if_neg h0)]
            simp only [e_86_130, e_86_132, e_86_134, e_86_137, e_86_138, e_86_139, e_86_140, e_86_143, e_86_145, e_86_146, e_86_147, e_86_148, e_86_150, e_86_153, e_86_154, e_86_155, e_86_156, e_86_160, e_86_161, e_86_163, e_86_164, true_and, and_true, and_self, false_and, and_false, if_true, if_false, ↓reduceIte, Nat.add_eq_left, Nat.left_eq_add, Nat.add_left_cancel_iff, not_false_eq_true, not_true_eq_false, i_pc, List.cons_append, List.nil_append, List.length_cons, List.length_nil, Nat.reduceEqDiff, Nat.reduceAdd, Nat.reduceMul, Nat.reduceSub, Nat.reduceLeDiff, Nat.reduceLT, Int32.reduceLT, Int32.reduceLE, Int32.reduceAdd, Int32.reduceSub, reduceCtorEq, true_or, or_true, or_false, false_or, ne_eq, Nat.zero_le, Option.toList, q6, q7, nI_pred, nI_1, mo_k (hO2 _ _ _ _), mo_r51 (hO2 _ _ _ _), mo_k51 (hO2 _ _ _ _), mo_l51 (hO2 _ _ _ _), kH_51, hTT b (show b < 152 by omega), h123, nI_cl (show b < 2 ^ 31 by omega)]
            exact g1 _
end MX

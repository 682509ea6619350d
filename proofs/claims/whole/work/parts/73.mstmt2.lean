-- THE MODEL's reading: statement answers as the spec
def u1T (u : TB) (p : Nat) : TB := (u.1, u.2.1, up u.2.2.1 p (nI u.2.2.2), u.2.2.2 + 1)
def u2T (u : TB) (p b g : Nat) : TB := (up u.1 b (nI g), up u.2.1 b (nI p), up u.2.2.1 p (nI u.2.2.2), u.2.2.2 + 1)
def stR (h : Hp) (u : TB) (Bg F G : Nat → Int32) (p dep : Nat) : Option (Nat × Nat) → Res
  | none => (some (.inl (-1)), kH h (u1T u p) Bg F G)
  | some x => if 40 ≤ u.2.2.2 then (some (.inl (-1)), kH h (u1T u p) Bg F G) else if x.2 = 0 then (some (.inl (nI x.1)), kH h (u1T u p) Bg F G) else (some (.inl (nI x.1)), kH h (u2T u p (x.1 - 1) x.2) (up Bg dep (nI (x.1 - 1))) F G)
section MW
variable {xs : Nat → Int32} {L d : Nat} {h : Hp} {res : Res} {u : TB} {Bg F G ar T : Nat → Int32} {n p dep : Nat}
/-- a statement with an expression, from behind the expression on -/
theorem st_expr (hO : MO h) (hTT : ∀ j, j < 152 → hI h 51 j = T j) (hT : TX T n) (hn : hI h 49 3 = nI n) (hp : p < n) (hdep : dep < 8) (hl : u.2.2.2 ≤ 40) (h126 : ¬ T p = 126) (hc : (97 ≤ T p ∧ T p ≤ 102 ∧ T (p + 1) = 61) ∨ isBe (T p) = true) (hx : p + sx T p ≤ n) : X xs L d 85 (112, [some (.inr (some 49)), some (.inl (nI p)), some (.inl (nI dep)), some (.inl (T p)), some (.inl (anE 0 (sm ar T (p + sx T p) true (0, 0, 0) [])))], [], kH h (u1T u p) Bg F G) (stR h u Bg F G p dep (stS ar T n p)) := by
  have hn2 := hT.1
  cases hs : sm ar T (p + sx T p) true (0, 0, 0) [] with
  | none =>
    have e : stS ar T n p = none := by
      unfold stS
      rw [if_neg h126, if_pos hc, hs]
    rw [e]
    exact st_no hO
  | some x =>
    obtain ⟨q, J⟩ := x
    obtain ⟨r1, r2, r3, r4⟩ := sm_rng hT 152 _ _ _ _ _ _ (by omega) hx hs
    have e : stS ar T n p = if T p = 63 ∨ T p = 64 then (if T q = 123 then some (q + 1, if T p = 63 then 1 else 2) else none) else (if T q = 59 ∧ q < n then some (q + 1, 0) else none) := by
      unfold stS
      rw [if_neg h126, if_pos hc, hs]
    show X xs L d 85 (112, [some (.inr (some 49)), some (.inl (nI p)), some (.inl (nI dep)), some (.inl (T p)), some (.inl (nI (0 + q)))], [], kH h (u1T u p) Bg F G) _
    rw [Nat.zero_add]
    have hlu : (u1T u p).2.2.2 = u.2.2.2 + 1 := rfl
    refine stm_pre hO (by omega) (by omega) (fun h41 => ?_) (fun h41 => ?_)
    · cases hq : stS ar T n p with
      | none => rfl
      | some y => exact if_pos (by omega)
    · by_cases cg : T p = 63 ∨ T p = 64
      · have hb := st_blk (xs := xs) (L := L) (d := d) (u := u1T u p) (Bg := Bg) (F := F) (G := G) (p := p) (q := q) (c := T p) hO (by omega) hdep (Or.inr cg)
        rw [hTT q (by omega)] at hb
        rw [if_pos cg] at e
        by_cases c1 : T q = 123
        · rw [if_pos c1] at hb e
          rw [e]
          show X _ _ _ _ _ (if 40 ≤ u.2.2.2 then _ else if (if T p = 63 then 1 else 2) = 0 then _ else (some (.inl (nI (q + 1))), kH h (u2T u p (q + 1 - 1) (if T p = 63 then 1 else 2)) (up Bg dep (nI (q + 1 - 1))) F G))
          rw [if_neg (by omega), if_neg (by split <;> omega), Nat.add_sub_cancel]
          have e3 : (if T p = 63 then 1 else if T p = 64 then 2 else 3) = if T p = 63 then 1 else 2 := by
            rcases cg with c | c
            · rw [if_pos c, if_pos c]
            · rw [if_pos c]
          rw [e3] at hb
          exact hb
        · rw [if_neg c1] at hb e
          rw [e]
          exact hb
      · have hb := st_sim (xs := xs) (L := L) (d := d) (u := u1T u p) (Bg := Bg) (F := F) (G := G) (p := p) (dep := dep) (q := q) (c := T p) hO (by omega) hn hn2 h126 (fun z => cg (Or.inl z)) (fun z => cg (Or.inr z))
        rw [hTT q (by omega)] at hb
        rw [if_neg cg] at e
        by_cases c1 : T q = 59 ∧ q < n
        · rw [if_pos c1] at hb e
          rw [e]
          show X _ _ _ _ _ (if 40 ≤ u.2.2.2 then _ else if 0 = 0 then (some (.inl (nI (q + 1))), kH h (u1T u p) Bg F G) else _)
          rw [if_neg (by omega), if_pos rfl]
          exact hb
        · rw [if_neg c1] at hb e
          rw [e]
          exact hb
theorem m_stmt (hO : MO h) (hA : AR h ar) (hTT : ∀ j, j < 152 → hI h 51 j = T j) (hT : TX T n) (hn : hI h 49 3 = nI n) (hp : p ≤ n) (hdep : dep < 8) (hl : u.2.2.2 ≤ 40) : ∃ F' G', Rn xs L (d + 4) 85 [.inr (some 49), .inl (nI p), .inl (nI dep)] (kH h u Bg F G) (stR h u Bg F' G' p dep (stS ar T n p)) := by
  have hn2 := hT.1
  have hO2 : ∀ (u : TB) (Bg F G : Nat → Int32), MO (kH h u Bg F G) := fun _ _ _ _ => hO
  have q1 : vp_in (nI p) 6384 := vin (by omega) (by decide)
  have q2 : vp_in (nI p) 152 := vin (by omega) (by decide)
  have e55 : kH h (u.1, u.2.1, up u.2.2.1 p (nI u.2.2.2), u.2.2.2 + 1) Bg F G = kH h (u1T u p) Bg F G := rfl
  have pre : ∀ res, X xs L (d + 3) 85 (27, [some (.inr (some 49)), some (.inl (nI p)), some (.inl (nI dep)), some (.inl (T p)), none], [], kH h (u1T u p) Bg F G) res → Rn xs L (d + 4) 85 [.inr (some 49), .inl (nI p), .inl (nI dep)] (kH h u Bg F G) res := fun res hX => by
    rw [i_rn]
    show X xs L (d + 3) 85 (0, [some (.inr (some 49)), some (.inl (nI p)), some (.inl (nI dep)), none, none], [], kH h u Bg F G) _
    simp only [e_85_0, e_85_1, e_85_4, e_85_5, e_85_6, e_85_7, e_85_8, e_85_11, e_85_12, e_85_13, e_85_16, e_85_17, e_85_18, e_85_19, e_85_22, e_85_23, e_85_24, true_and, and_true, and_self, false_and, and_false, if_true, if_false, ↓reduceIte, Nat.add_eq_left, Nat.left_eq_add, Nat.add_left_cancel_iff, not_false_eq_true, not_true_eq_false, i_pc, List.cons_append, List.nil_append, List.length_cons, List.length_nil, Nat.reduceEqDiff, Nat.reduceAdd, Nat.reduceMul, Nat.reduceSub, Nat.reduceLeDiff, Nat.reduceLT, Int32.reduceLT, Int32.reduceLE, Int32.reduceAdd, Int32.reduceSub, reduceCtorEq, true_or, or_true, or_false, false_or, ne_eq, Nat.zero_le, hK_sI, hL_sI, hR_sI, mo_k (hO2 _ _ _ _), mo_r51 (hO2 _ _ _ _), mo_k51 (hO2 _ _ _ _), mo_l51 (hO2 _ _ _ _), mo_r55 (hO2 _ _ _ _), mo_k55 (hO2 _ _ _ _), mo_l55 (hO2 _ _ _ _), kH_51, kH_ln, kW_55, nI_1, kW_ln, q1, q2, nI_cl (show p < 2 ^ 31 by omega), hTT p (show p < 152 by omega)]
    exact hX
  by_cases c126 : T p = 126
  · have hpn : p < n := tx_lt hT (by omega) (by rw [c126]; decide)
    refine ⟨F, G, pre _ ?_⟩
    simp only [e_85_27, e_85_28, e_85_30, e_85_33, e_85_34, e_85_35, e_85_36, e_85_110, true_and, and_true, and_self, false_and, and_false, if_true, if_false, ↓reduceIte, Nat.add_eq_left, Nat.left_eq_add, Nat.add_left_cancel_iff, not_false_eq_true, not_true_eq_false, i_pc, List.cons_append, List.nil_append, List.length_cons, List.length_nil, Nat.reduceEqDiff, Nat.reduceAdd, Nat.reduceMul, Nat.reduceSub, Nat.reduceLeDiff, Nat.reduceLT, Int32.reduceLT, Int32.reduceLE, Int32.reduceAdd, Int32.reduceSub, reduceCtorEq, true_or, or_true, or_false, false_or, ne_eq, Nat.zero_le, c126, nI_1]
    have hlu : (u1T u p).2.2.2 = u.2.2.2 + 1 := rfl
    refine stm_pre hO (by omega) (by omega) (fun h41 => ?_) (fun h41 => ?_)
    · cases hq : stS ar T n p with
      | none => rfl
      | some y => exact if_pos (by omega)
    · have hb := st_blk (xs := xs) (L := L) (d := d + 3) (u := u1T u p) (Bg := Bg) (F := F) (G := G) (p := p) (q := p + 1) (c := 126) hO (by omega) hdep (Or.inl rfl)
      rw [hTT (p + 1) (by omega)] at hb
      by_cases c1 : T (p + 1) = 123
      · rw [if_pos c1] at hb
        rw [stS_try c126 c1]
        show X _ _ _ _ _ (if 40 ≤ u.2.2.2 then _ else if 3 = 0 then _ else (some (.inl (nI (p + 1 + 1))), kH h (u2T u p (p + 1 + 1 - 1) 3) (up Bg dep (nI (p + 1 + 1 - 1))) F G))
        rw [if_neg (by omega), if_neg (by decide), Nat.add_sub_cancel]
        exact hb
      · rw [if_neg c1] at hb
        have e : stS ar T n p = none := by
          unfold stS
          rw [if_pos c126, if_neg c1]
        rw [e]
        exact hb
  by_cases cv : 97 ≤ T p ∧ T p ≤ 102
  · have hpn : p < n := tx_lt hT (by omega) (fun e => by rw [e] at cv; exact absurd cv (by decide))
    have q3 : vp_in (nI (p + 1)) 6384 := vin (by omega) (by decide)
    have e2 : nI p + 2 = nI (0 + (p + 2)) := by rw [show (2 : Int32) = nI 2 from rfl, nI_add, Nat.zero_add]
    by_cases c61 : T (p + 1) = 61
    · have hpn2 : p + 1 < n := tx_lt hT (by omega) (by rw [c61]; decide)
      have hsx : sx T p = 2 := if_pos cv
      obtain ⟨F', G', hr⟩ := m_ex (xs := xs) (L := L) (d := d) (h := kH h (u1T u p) Bg F G) (b := 0) (p := p + 2) (T := T) (hO2 _ _ _ _) (kH_AR hA) (by decide) (fun j hj => by rw [kH_51, Nat.zero_add]; exact hTT j hj) hT hpn2
      rw [kH_eH] at hr
      refine ⟨F', G', pre _ ?_⟩
      simp only [e_85_27, e_85_28, e_85_30, e_85_39, e_85_40, true_and, and_true, and_self, false_and, and_false, if_true, if_false, ↓reduceIte, Nat.add_eq_left, Nat.left_eq_add, Nat.add_left_cancel_iff, not_false_eq_true, not_true_eq_false, i_pc, List.cons_append, List.nil_append, List.length_cons, List.length_nil, Nat.reduceEqDiff, Nat.reduceAdd, Nat.reduceMul, Nat.reduceSub, Nat.reduceLeDiff, Nat.reduceLT, Int32.reduceLT, Int32.reduceLE, Int32.reduceAdd, Int32.reduceSub, reduceCtorEq, true_or, or_true, or_false, false_or, ne_eq, Nat.zero_le, c126]
      refine ⟨_, m_isVar, ?_⟩
      simp only [e_85_43, e_85_46, e_85_47, e_85_50, e_85_51, e_85_52, e_85_53, e_85_54, e_85_56, e_85_59, e_85_60, e_85_61, e_85_62, e_85_63, true_and, and_true, and_self, false_and, and_false, if_true, if_false, ↓reduceIte, Nat.add_eq_left, Nat.left_eq_add, Nat.add_left_cancel_iff, not_false_eq_true, not_true_eq_false, i_pc, List.cons_append, List.nil_append, List.length_cons, List.length_nil, Nat.reduceEqDiff, Nat.reduceAdd, Nat.reduceMul, Nat.reduceSub, Nat.reduceLeDiff, Nat.reduceLT, Int32.reduceLT, Int32.reduceLE, Int32.reduceAdd, Int32.reduceSub, reduceCtorEq, true_or, or_true, or_false, false_or, ne_eq, Nat.zero_le, Option.toList, bI_t cv, mo_k (hO2 _ _ _ _), mo_r51 (hO2 _ _ _ _), mo_k51 (hO2 _ _ _ _), mo_l51 (hO2 _ _ _ _), kH_51, q3, nI_1, nI_cl (show p + 1 < 2 ^ 31 by omega), hTT (p + 1) (show p + 1 < 152 by omega), c61, e2, show ((1 : Int32) = 0) = False from by decide]
      refine ⟨_, hr, ?_⟩
      simp only [e_85_66, e_85_110, true_and, and_true, and_self, false_and, and_false, if_true, if_false, ↓reduceIte, Nat.add_eq_left, Nat.left_eq_add, Nat.add_left_cancel_iff, not_false_eq_true, not_true_eq_false, i_pc, List.cons_append, List.nil_append, List.length_cons, List.length_nil, Nat.reduceEqDiff, Nat.reduceAdd, Nat.reduceMul, Nat.reduceSub, Nat.reduceLeDiff, Nat.reduceLT, Int32.reduceLT, Int32.reduceLE, Int32.reduceAdd, Int32.reduceSub, reduceCtorEq, true_or, or_true, or_false, false_or, ne_eq, Nat.zero_le, Option.toList]
      have := st_expr (xs := xs) (L := L) (d := d + 3) (ar := ar) (u := u) (Bg := Bg) (F := F') (G := G') hO hTT hT hn hpn hdep hl c126 (Or.inl ⟨cv.1, cv.2, c61⟩) (by rw [hsx]; exact hpn2)
      rw [hsx] at this
      exact this
    · have hbe : ¬ isBe (T p) = true := fun z => by
        unfold isBe at z
        simp only [Bool.or_eq_true, decide_eq_true_eq] at z
        rcases z with (((z | z) | z) | z) | z <;> rw [z] at cv <;> exact absurd cv.1 (by decide)
      have e : stS ar T n p = none := by
        unfold stS
        rw [if_neg c126, if_neg (fun z => z.elim (fun z => c61 z.2.2) hbe)]
      have n1 : ¬ T p = 33 := fun e => by rw [e] at cv; exact absurd cv.1 (by decide)
      have n2 : ¬ T p = 94 := fun e => by rw [e] at cv; exact absurd cv.1 (by decide)
      have n3 : ¬ T p = 35 := fun e => by rw [e] at cv; exact absurd cv.1 (by decide)
      have n4 : ¬ T p = 63 := fun e => by rw [e] at cv; exact absurd cv.1 (by decide)
      have n5 : ¬ T p = 64 := fun e => by rw [e] at cv; exact absurd cv.1 (by decide)
      rw [e]
      refine ⟨F, G, pre _ ?_⟩
      simp only [e_85_27, e_85_28, e_85_30, e_85_39, e_85_40, true_and, and_true, and_self, false_and, and_false, if_true, if_false, ↓reduceIte, Nat.add_eq_left, Nat.left_eq_add, Nat.add_left_cancel_iff, not_false_eq_true, not_true_eq_false, i_pc, List.cons_append, List.nil_append, List.length_cons, List.length_nil, Nat.reduceEqDiff, Nat.reduceAdd, Nat.reduceMul, Nat.reduceSub, Nat.reduceLeDiff, Nat.reduceLT, Int32.reduceLT, Int32.reduceLE, Int32.reduceAdd, Int32.reduceSub, reduceCtorEq, true_or, or_true, or_false, false_or, ne_eq, Nat.zero_le, c126]
      refine ⟨_, m_isVar, ?_⟩
      simp only [e_85_43, e_85_46, e_85_47, e_85_50, e_85_51, e_85_52, e_85_53, e_85_54, e_85_56, e_85_69, e_85_70, e_85_72, e_85_75, e_85_76, e_85_78, e_85_81, e_85_82, e_85_84, e_85_87, e_85_88, e_85_90, e_85_93, e_85_94, e_85_96, e_85_109, e_85_110, true_and, and_true, and_self, false_and, and_false, if_true, if_false, ↓reduceIte, Nat.add_eq_left, Nat.left_eq_add, Nat.add_left_cancel_iff, not_false_eq_true, not_true_eq_false, i_pc, List.cons_append, List.nil_append, List.length_cons, List.length_nil, Nat.reduceEqDiff, Nat.reduceAdd, Nat.reduceMul, Nat.reduceSub, Nat.reduceLeDiff, Nat.reduceLT, Int32.reduceLT, Int32.reduceLE, Int32.reduceAdd, Int32.reduceSub, reduceCtorEq, true_or, or_true, or_false, false_or, ne_eq, Nat.zero_le, Option.toList, bI_t cv, mo_k (hO2 _ _ _ _), mo_r51 (hO2 _ _ _ _), mo_k51 (hO2 _ _ _ _), mo_l51 (hO2 _ _ _ _), kH_51, q3, nI_1, nI_cl (show p + 1 < 2 ^ 31 by omega), hTT (p + 1) (show p + 1 < 152 by omega), c61, n1, n2, n3, n4, n5, show ((1 : Int32) = 0) = False from by decide]
      exact st_no hO
  by_cases cb : isBe (T p) = true
  · have hpn : p < n := tx_lt hT (by omega) (fun e => by rw [e] at cb; exact absurd cb (by decide))
    have hsx : sx T p = 1 := if_neg cv
    have e2 : nI p + 1 = nI (0 + (p + 1)) := by rw [nI_1, Nat.zero_add]
    obtain ⟨F', G', hr⟩ := m_ex (xs := xs) (L := L) (d := d) (h := kH h (u1T u p) Bg F G) (b := 0) (p := p + 1) (T := T) (hO2 _ _ _ _) (kH_AR hA) (by decide) (fun j hj => by rw [kH_51, Nat.zero_add]; exact hTT j hj) hT hpn
    rw [kH_eH] at hr
    have hgo := st_expr (xs := xs) (L := L) (d := d + 3) (ar := ar) (u := u) (Bg := Bg) (F := F') (G := G') hO hTT hT hn hpn hdep hl c126 (Or.inr cb) (by rw [hsx]; exact hpn)
    rw [hsx] at hgo
    refine ⟨F', G', pre _ ?_⟩
    simp only [e_85_27, e_85_28, e_85_30, e_85_39, e_85_40, true_and, and_true, and_self, false_and, and_false, if_true, if_false, ↓reduceIte, Nat.add_eq_left, Nat.left_eq_add, Nat.add_left_cancel_iff, not_false_eq_true, not_true_eq_false, i_pc, List.cons_append, List.nil_append, List.length_cons, List.length_nil, Nat.reduceEqDiff, Nat.reduceAdd, Nat.reduceMul, Nat.reduceSub, Nat.reduceLeDiff, Nat.reduceLT, Int32.reduceLT, Int32.reduceLE, Int32.reduceAdd, Int32.reduceSub, reduceCtorEq, true_or, or_true, or_false, false_or, ne_eq, Nat.zero_le, c126]
    refine ⟨_, m_isVar, ?_⟩
    have h99 : X xs L (d + 3) 85 (99, [some (.inr (some 49)), some (.inl (nI p)), some (.inl (nI dep)), some (.inl (T p)), none], [], kH h (u1T u p) Bg F G) (stR h u Bg F' G' p dep (stS ar T n p)) := by
      simp only [e_85_99, e_85_100, e_85_101, e_85_102, e_85_103, true_and, and_true, and_self, false_and, and_false, if_true, if_false, ↓reduceIte, Nat.add_eq_left, Nat.left_eq_add, Nat.add_left_cancel_iff, not_false_eq_true, not_true_eq_false, i_pc, List.cons_append, List.nil_append, List.length_cons, List.length_nil, Nat.reduceEqDiff, Nat.reduceAdd, Nat.reduceMul, Nat.reduceSub, Nat.reduceLeDiff, Nat.reduceLT, Int32.reduceLT, Int32.reduceLE, Int32.reduceAdd, Int32.reduceSub, reduceCtorEq, true_or, or_true, or_false, false_or, ne_eq, Nat.zero_le, mo_k (hO2 _ _ _ _), e2]
      refine ⟨_, hr, ?_⟩
      simp only [e_85_106, e_85_110, true_and, and_true, and_self, false_and, and_false, if_true, if_false, ↓reduceIte, Nat.add_eq_left, Nat.left_eq_add, Nat.add_left_cancel_iff, not_false_eq_true, not_true_eq_false, i_pc, List.cons_append, List.nil_append, List.length_cons, List.length_nil, Nat.reduceEqDiff, Nat.reduceAdd, Nat.reduceMul, Nat.reduceSub, Nat.reduceLeDiff, Nat.reduceLT, Int32.reduceLT, Int32.reduceLE, Int32.reduceAdd, Int32.reduceSub, reduceCtorEq, true_or, or_true, or_false, false_or, ne_eq, Nat.zero_le, Option.toList]
      exact hgo
    have cb2 := cb
    unfold isBe at cb2
    simp only [Bool.or_eq_true, decide_eq_true_eq] at cb2
    by_cases n1 : T p = 33
    · simp only [e_85_43, e_85_69, e_85_70, e_85_72, true_and, and_true, and_self, false_and, and_false, if_true, if_false, ↓reduceIte, Nat.add_eq_left, Nat.left_eq_add, Nat.add_left_cancel_iff, not_false_eq_true, not_true_eq_false, i_pc, List.cons_append, List.nil_append, List.length_cons, List.length_nil, Nat.reduceEqDiff, Nat.reduceAdd, Nat.reduceMul, Nat.reduceSub, Nat.reduceLeDiff, Nat.reduceLT, Int32.reduceLT, Int32.reduceLE, Int32.reduceAdd, Int32.reduceSub, reduceCtorEq, true_or, or_true, or_false, false_or, ne_eq, Nat.zero_le, Option.toList, bI_f cv, n1]
      rw [n1] at h99
      exact h99
    by_cases n2 : T p = 94
    · simp only [e_85_43, e_85_69, e_85_70, e_85_72, e_85_75, e_85_76, e_85_78, true_and, and_true, and_self, false_and, and_false, if_true, if_false, ↓reduceIte, Nat.add_eq_left, Nat.left_eq_add, Nat.add_left_cancel_iff, not_false_eq_true, not_true_eq_false, i_pc, List.cons_append, List.nil_append, List.length_cons, List.length_nil, Nat.reduceEqDiff, Nat.reduceAdd, Nat.reduceMul, Nat.reduceSub, Nat.reduceLeDiff, Nat.reduceLT, Int32.reduceLT, Int32.reduceLE, Int32.reduceAdd, Int32.reduceSub, reduceCtorEq, true_or, or_true, or_false, false_or, ne_eq, Nat.zero_le, Option.toList, bI_f cv, n1, n2]
      rw [n2] at h99
      exact h99
    by_cases n3 : T p = 35
    · simp only [e_85_43, e_85_69, e_85_70, e_85_72, e_85_75, e_85_76, e_85_78, e_85_81, e_85_82, e_85_84, true_and, and_true, and_self, false_and, and_false, if_true, if_false, ↓reduceIte, Nat.add_eq_left, Nat.left_eq_add, Nat.add_left_cancel_iff, not_false_eq_true, not_true_eq_false, i_pc, List.cons_append, List.nil_append, List.length_cons, List.length_nil, Nat.reduceEqDiff, Nat.reduceAdd, Nat.reduceMul, Nat.reduceSub, Nat.reduceLeDiff, Nat.reduceLT, Int32.reduceLT, Int32.reduceLE, Int32.reduceAdd, Int32.reduceSub, reduceCtorEq, true_or, or_true, or_false, false_or, ne_eq, Nat.zero_le, Option.toList, bI_f cv, n1, n2, n3]
      rw [n3] at h99
      exact h99
    by_cases n4 : T p = 63
    · simp only [e_85_43, e_85_69, e_85_70, e_85_72, e_85_75, e_85_76, e_85_78, e_85_81, e_85_82, e_85_84, e_85_87, e_85_88, e_85_90, true_and, and_true, and_self, false_and, and_false, if_true, if_false, ↓reduceIte, Nat.add_eq_left, Nat.left_eq_add, Nat.add_left_cancel_iff, not_false_eq_true, not_true_eq_false, i_pc, List.cons_append, List.nil_append, List.length_cons, List.length_nil, Nat.reduceEqDiff, Nat.reduceAdd, Nat.reduceMul, Nat.reduceSub, Nat.reduceLeDiff, Nat.reduceLT, Int32.reduceLT, Int32.reduceLE, Int32.reduceAdd, Int32.reduceSub, reduceCtorEq, true_or, or_true, or_false, false_or, ne_eq, Nat.zero_le, Option.toList, bI_f cv, n1, n2, n3, n4]
      rw [n4] at h99
      exact h99
    have n5 : T p = 64 := by
      rcases cb2 with (((z | z) | z) | z) | z
      · exact absurd z n1
      · exact absurd z n2
      · exact absurd z n3
      · exact absurd z n4
      · exact z
    simp only [e_85_43, e_85_69, e_85_70, e_85_72, e_85_75, e_85_76, e_85_78, e_85_81, e_85_82, e_85_84, e_85_87, e_85_88, e_85_90, e_85_93, e_85_94, e_85_96, true_and, and_true, and_self, false_and, and_false, if_true, if_false, ↓reduceIte, Nat.add_eq_left, Nat.left_eq_add, Nat.add_left_cancel_iff, not_false_eq_true, not_true_eq_false, i_pc, List.cons_append, List.nil_append, List.length_cons, List.length_nil, Nat.reduceEqDiff, Nat.reduceAdd, Nat.reduceMul, Nat.reduceSub, Nat.reduceLeDiff, Nat.reduceLT, Int32.reduceLT, Int32.reduceLE, Int32.reduceAdd, Int32.reduceSub, reduceCtorEq, true_or, or_true, or_false, false_or, ne_eq, Nat.zero_le, Option.toList, bI_f cv, n1, n2, n3, n4, n5]
    rw [n5] at h99
    exact h99
  · have e : stS ar T n p = none := by
      unfold stS
      rw [if_neg c126, if_neg (fun z => z.elim (fun z => cv ⟨z.1, z.2.1⟩) cb)]
    unfold isBe at cb
    simp only [Bool.or_eq_true, decide_eq_true_eq, not_or] at cb
    obtain ⟨⟨⟨⟨n1, n2⟩, n3⟩, n4⟩, n5⟩ := cb
    rw [e]
    refine ⟨F, G, pre _ ?_⟩
    simp only [e_85_27, e_85_28, e_85_30, e_85_39, e_85_40, true_and, and_true, and_self, false_and, and_false, if_true, if_false, ↓reduceIte, Nat.add_eq_left, Nat.left_eq_add, Nat.add_left_cancel_iff, not_false_eq_true, not_true_eq_false, i_pc, List.cons_append, List.nil_append, List.length_cons, List.length_nil, Nat.reduceEqDiff, Nat.reduceAdd, Nat.reduceMul, Nat.reduceSub, Nat.reduceLeDiff, Nat.reduceLT, Int32.reduceLT, Int32.reduceLE, Int32.reduceAdd, Int32.reduceSub, reduceCtorEq, true_or, or_true, or_false, false_or, ne_eq, Nat.zero_le, c126]
    refine ⟨_, m_isVar, ?_⟩
    simp only [e_85_43, e_85_69, e_85_70, e_85_72, e_85_75, e_85_76, e_85_78, e_85_81, e_85_82, e_85_84, e_85_87, e_85_88, e_85_90, e_85_93, e_85_94, e_85_96, e_85_109, e_85_110, true_and, and_true, and_self, false_and, and_false, if_true, if_false, ↓reduceIte, Nat.add_eq_left, Nat.left_eq_add, Nat.add_left_cancel_iff, not_false_eq_true, not_true_eq_false, i_pc, List.cons_append, List.nil_append, List.length_cons, List.length_nil, Nat.reduceEqDiff, Nat.reduceAdd, Nat.reduceMul, Nat.reduceSub, Nat.reduceLeDiff, Nat.reduceLT, Int32.reduceLT, Int32.reduceLE, Int32.reduceAdd, Int32.reduceSub, reduceCtorEq, true_or, or_true, or_false, false_or, ne_eq, Nat.zero_le, Option.toList, bI_f cv, n1, n2, n3, n4, n5]
    exact st_no hO
end MW

-- the translator: copies, code and program objects, functions, the fit of calls
section TH
variable {xs : Nat → Int32} {L d : Nat} {h : Hp} {res : Res} {n : Nat} {tx : Nat → Int32} {s : TS}
theorem t_min {x y : Nat} (hx : x < 2 ^ 31) (hy : y ≤ x) : Rn xs L (d + 1) 129 [.inl (nI x), .inl (nI y)] h (some (.inl (nI y)), h) := by
  rw [i_rn]
  show X xs L d 129 (0, [some (.inl (nI x)), some (.inl (nI y))], [], h) _
  by_cases h1 : y = x
  · subst h1
    have h2 : ¬ nI y < nI y := fun z => Int32.lt_irrefl z
    simp only [e_129_0, e_129_1, e_129_2, e_129_5, e_129_6, e_129_9, e_129_10, true_and, and_true, and_self, false_and, and_false, if_true, if_false, ↓reduceIte, Nat.add_eq_left, Nat.left_eq_add, Nat.add_left_cancel_iff, not_false_eq_true, not_true_eq_false, i_pc, List.cons_append, List.nil_append, List.length_cons, List.length_nil, Nat.reduceEqDiff, Nat.reduceAdd, Nat.reduceMul, Nat.reduceSub, Nat.reduceLeDiff, Nat.reduceLT, Int32.reduceLT, Int32.reduceLE, Int32.reduceAdd, Int32.reduceSub, reduceCtorEq, true_or, or_true, or_false, false_or, ne_eq, Nat.zero_le, h2]
  · have h2 : nI y < nI x := Int32.not_le.mp (nI_ge (by omega) hx)
    simp only [e_129_0, e_129_1, e_129_2, e_129_5, e_129_6, e_129_9, e_129_10, true_and, and_true, and_self, false_and, and_false, if_true, if_false, ↓reduceIte, Nat.add_eq_left, Nat.left_eq_add, Nat.add_left_cancel_iff, not_false_eq_true, not_true_eq_false, i_pc, List.cons_append, List.nil_append, List.length_cons, List.length_nil, Nat.reduceEqDiff, Nat.reduceAdd, Nat.reduceMul, Nat.reduceSub, Nat.reduceLeDiff, Nat.reduceLT, Int32.reduceLT, Int32.reduceLE, Int32.reduceAdd, Int32.reduceSub, reduceCtorEq, true_or, or_true, or_false, false_or, ne_eq, Nat.zero_le, h2]
theorem t_copy {o m : Nat} (hk : hK h o = 20) (hm : m ≤ hL h o) (hl : hL h o ≤ 100000) (ho : o < hN h) : ∃ f : Nat → Int32, (∀ k, k < m → f k = hI h o k) ∧ Rn xs L (d + 2) 128 [.inr (some o), .inl (nI m)] h (some (.inr (some (hN h))), sA (nw h 20 m m) (hN h) f) := by
  by_cases h1 : m = hL h o
  · refine ⟨hI h o, fun _ _ => rfl, ?_⟩
    subst h1
    rw [i_rn]
    show X xs L (d + 1) 128 (0, [some (.inr (some o)), some (.inl (nI (hL h o))), none], [], h) _
    simp only [e_128_0, e_128_1, e_128_2, e_128_3, e_128_6, e_128_7, e_128_10, e_128_13, true_and, and_true, and_self, false_and, and_false, if_true, if_false, ↓reduceIte, Nat.add_eq_left, Nat.left_eq_add, Nat.add_left_cancel_iff, not_false_eq_true, not_true_eq_false, i_pc, List.cons_append, List.nil_append, List.length_cons, List.length_nil, Nat.reduceEqDiff, Nat.reduceAdd, Nat.reduceMul, Nat.reduceSub, Nat.reduceLeDiff, Nat.reduceLT, Int32.reduceLT, Int32.reduceLE, Int32.reduceAdd, Int32.reduceSub, reduceCtorEq, true_or, or_true, or_false, false_or, ne_eq, Nat.zero_le, hk, hK_sA, hK_nw]
  · refine ⟨va_cpy (hI (nw h 20 m m) o) (hI (nw h 20 m m) (hN h)) 0 0 m, fun k hk2 => ?_, ?_⟩
    · unfold va_cpy
      rw [if_pos (by omega), hI_nw, if_neg (by omega), show 0 + (k - 0) = k by omega]
    · rw [i_rn]
      show X xs L (d + 1) 128 (0, [some (.inr (some o)), some (.inl (nI m)), none], [], h) _
      have h2 : ¬ nI m = nI (hL h o) := fun e => h1 ((nI_eq (by omega) (by omega)).mp e)
      have h3 : ¬ nI m < 0 := Int32.not_lt.mpr (nI_le (a := 0) (by omega) (by omega))
      have h4 : m ≤ 100000 := by omega
      have h5 : ¬ o = hN h := by omega
      simp only [e_128_0, e_128_1, e_128_2, e_128_3, e_128_14, e_128_15, e_128_17, e_128_18, e_128_19, e_128_20, e_128_21, e_128_22, e_128_23, e_128_24, e_128_25, true_and, and_true, and_self, false_and, and_false, if_true, if_false, ↓reduceIte, Nat.add_eq_left, Nat.left_eq_add, Nat.add_left_cancel_iff, not_false_eq_true, not_true_eq_false, i_pc, List.cons_append, List.nil_append, List.length_cons, List.length_nil, Nat.reduceEqDiff, Nat.reduceAdd, Nat.reduceMul, Nat.reduceSub, Nat.reduceLeDiff, Nat.reduceLT, Int32.reduceLT, Int32.reduceLE, Int32.reduceAdd, Int32.reduceSub, reduceCtorEq, true_or, or_true, or_false, false_or, ne_eq, Nat.zero_le, hk, hK_nw, hL_nw, h2, h3, h4, h5, nI_cl (show m < 2 ^ 31 by omega)]
      refine ⟨_, t_min (by omega) hm, ?_⟩
      have h6 : 0 + m ≤ hL h o := by omega
      have h7 : 0 + m ≤ m := by omega
      simp only [e_128_28, e_128_31, e_128_32, true_and, and_true, and_self, false_and, and_false, if_true, if_false, ↓reduceIte, Nat.add_eq_left, Nat.left_eq_add, Nat.add_left_cancel_iff, not_false_eq_true, not_true_eq_false, i_pc, List.cons_append, List.nil_append, List.length_cons, List.length_nil, Nat.reduceEqDiff, Nat.reduceAdd, Nat.reduceMul, Nat.reduceSub, Nat.reduceLeDiff, Nat.reduceLT, Int32.reduceLT, Int32.reduceLE, Int32.reduceAdd, Int32.reduceSub, reduceCtorEq, true_or, or_true, or_false, false_or, ne_eq, Nat.zero_le, Option.toList, hk, hK_nw, hL_nw, h3, h5, h6, h7, nI_cl (show m < 2 ^ 31 by omega), show (0 : Int32).toNatClampNeg = 0 from by decide, show ((0 : Int32) < 0) = False from by decide, hm, Nat.zero_add, Nat.le_refl]
/-- arrays of two objects, copied into a new Code at c -/
def cFitL (A W : Nat → Int32) : Nat → Nat → Bool
  | 0, _ => true
  | m + 1, i => if A i = -1 ∨ A i = W i then cFitL A W m (i + 1) else false
theorem t_fit_loop {w : Nat} {W : Nat → Int32} (hT : TI h n tx) (hk : hK h w = 20) (hl : hL h w = 4) (hW : ∀ k, k < 4 → hI (tH h s) w k = W k) : ∀ (m i : Nat), i + m = 4 → X xs L d 32 (2, [some (.inr (some 6)), some (.inr (some w)), some (.inl (nI i))], [], tH h s) (some (.inl (bI (cFitL (aA s) W m i))), tH h s) := by
  obtain ⟨⟨k6, r0, r1, r2, r3, r4, r5⟩, ⟨k7, k8, k9, k10, k11, k5⟩, ⟨l7, l8, l9, l10, l11, l5⟩, h6, hn, htx⟩ := hT
  intro m
  induction m with
  | zero =>
    intro i hi
    have hi4 : i = 4 := by omega
    subst hi4
    simp only [e_32_2, e_32_3, e_32_4, e_32_37, e_32_38, true_and, and_true, and_self, false_and, and_false, if_true, if_false, ↓reduceIte, Nat.add_eq_left, Nat.left_eq_add, Nat.add_left_cancel_iff, not_false_eq_true, not_true_eq_false, i_pc, List.cons_append, List.nil_append, List.length_cons, List.length_nil, Nat.reduceEqDiff, Nat.reduceAdd, Nat.reduceMul, Nat.reduceSub, Nat.reduceLeDiff, Nat.reduceLT, Int32.reduceLT, Int32.reduceLE, Int32.reduceAdd, Int32.reduceSub, reduceCtorEq, true_or, or_true, or_false, false_or, ne_eq, Nat.zero_le, show ((4 : Int32) ≤ nI 4) = True from by decide, cFitL, bI_tt]
  | succ m ih =>
    intro i hi
    have h1 : ¬ (4 : Int32) ≤ nI i := nI_ge (b := 4) (by omega) (by decide)
    have h2 : vp_in (nI i) 4 := vin (by omega) (by decide)
    have hw := hW i (by omega)
    rw [e_32_2]
    unfold cFitL
    by_cases c1 : aA s i = -1
    · rw [if_pos (Or.inl c1)]
      simp only [e_32_3, e_32_4, e_32_7, e_32_8, e_32_11, e_32_12, e_32_13, e_32_14, e_32_31, e_32_34, true_and, and_true, and_self, false_and, and_false, if_true, if_false, ↓reduceIte, Nat.add_eq_left, Nat.left_eq_add, Nat.add_left_cancel_iff, not_false_eq_true, not_true_eq_false, i_pc, List.cons_append, List.nil_append, List.length_cons, List.length_nil, Nat.reduceEqDiff, Nat.reduceAdd, Nat.reduceMul, Nat.reduceSub, Nat.reduceLeDiff, Nat.reduceLT, Int32.reduceLT, Int32.reduceLE, Int32.reduceAdd, Int32.reduceSub, reduceCtorEq, true_or, or_true, or_false, false_or, ne_eq, Nat.zero_le, th_K, th_L, th_R, th_11S, k6, r4, k11, l11, h1, h2, c1, nI_1, nI_cl (show i < 2 ^ 31 by omega)]
      exact ih (i + 1) (by omega)
    · by_cases c2 : aA s i = W i
      · rw [if_pos (Or.inr c2)]
        rw [c2] at c1
        simp only [e_32_3, e_32_4, e_32_7, e_32_8, e_32_11, e_32_12, e_32_13, e_32_14, e_32_17, e_32_18, e_32_21, e_32_22, e_32_23, e_32_24, e_32_25, e_32_26, e_32_31, e_32_34, true_and, and_true, and_self, false_and, and_false, if_true, if_false, ↓reduceIte, Nat.add_eq_left, Nat.left_eq_add, Nat.add_left_cancel_iff, not_false_eq_true, not_true_eq_false, i_pc, List.cons_append, List.nil_append, List.length_cons, List.length_nil, Nat.reduceEqDiff, Nat.reduceAdd, Nat.reduceMul, Nat.reduceSub, Nat.reduceLeDiff, Nat.reduceLT, Int32.reduceLT, Int32.reduceLE, Int32.reduceAdd, Int32.reduceSub, reduceCtorEq, true_or, or_true, or_false, false_or, ne_eq, Nat.zero_le, th_K, th_L, th_R, th_11S, k6, r4, k11, l11, hk, hl, hw, h1, h2, c1, c2, nI_1, nI_cl (show i < 2 ^ 31 by omega)]
        exact ih (i + 1) (by omega)
      · rw [if_neg (fun e => e.elim c1 c2)]
        simp only [e_32_3, e_32_4, e_32_7, e_32_8, e_32_11, e_32_12, e_32_13, e_32_14, e_32_17, e_32_18, e_32_21, e_32_22, e_32_23, e_32_24, e_32_25, e_32_26, e_32_29, e_32_30, true_and, and_true, and_self, false_and, and_false, if_true, if_false, ↓reduceIte, Nat.add_eq_left, Nat.left_eq_add, Nat.add_left_cancel_iff, not_false_eq_true, not_true_eq_false, i_pc, List.cons_append, List.nil_append, List.length_cons, List.length_nil, Nat.reduceEqDiff, Nat.reduceAdd, Nat.reduceMul, Nat.reduceSub, Nat.reduceLeDiff, Nat.reduceLT, Int32.reduceLT, Int32.reduceLE, Int32.reduceAdd, Int32.reduceSub, reduceCtorEq, true_or, or_true, or_false, false_or, ne_eq, Nat.zero_le, th_K, th_L, th_R, th_11S, k6, r4, k11, l11, hk, hl, hw, h1, h2, c1, c2, nI_1, nI_cl (show i < 2 ^ 31 by omega), bI_ff]
theorem t_fit {w : Nat} {W : Nat → Int32} (hT : TI h n tx) (hk : hK h w = 20) (hl : hL h w = 4) (hW : ∀ k, k < 4 → hI (tH h s) w k = W k) : Rn xs L (d + 1) 32 [.inr (some 6), .inr (some w)] (tH h s) (some (.inl (bI (cFitL (aA s) W 4 0))), tH h s) := by
  rw [i_rn]
  show X xs L d 32 (0, [some (.inr (some 6)), some (.inr (some w)), none], [], _) _
  simp only [e_32_0, e_32_1, true_and, and_true, and_self, false_and, and_false, if_true, if_false, ↓reduceIte, Nat.add_eq_left, Nat.left_eq_add, Nat.add_left_cancel_iff, not_false_eq_true, not_true_eq_false, i_pc, List.cons_append, List.nil_append, List.length_cons, List.length_nil, Nat.reduceEqDiff, Nat.reduceAdd, Nat.reduceMul, Nat.reduceSub, Nat.reduceLeDiff, Nat.reduceLT, Int32.reduceLT, Int32.reduceLE, Int32.reduceAdd, Int32.reduceSub, reduceCtorEq, true_or, or_true, or_false, false_or, ne_eq, Nat.zero_le]
  exact t_fit_loop hT hk hl hW 4 0 (by omega)
def aP (s : TS) : Nat → Int32 := s.2.2.2.2.2.2.1
def sPS (k : Nat) (p v : Int32) : TS → TS
  | (a, z, l, I, H, S, P, A) => (a, z, l, I, H, up S k v, up P k p, A)
def cFun (n : Nat) (tx : Nat → Int32) (s : TS) : Bool × TS :=
  if pk n tx s.1 - 65 < 0 ∨ 4 ≤ pk n tx s.1 - 65 ∨ ¬ aP s (pk n tx s.1 - 65).toNatClampNeg = -1 then (false, sAt (s.1 + 1 + 1) s)
  else if pk n tx (s.1 + 1) - 48 < 0 ∨ 3 < pk n tx (s.1 + 1) - 48 then (false, sAt (s.1 + 1 + 1) s)
  else if (cB n tx 6 (sPS (pk n tx s.1 - 65).toNatClampNeg (pk n tx (s.1 + 1) - 48) (nI s.2.1) (sAt (s.1 + 1 + 1) s))).1 then (true, cEmit 0 0 (cEmit 1 0 (cB n tx 6 (sPS (pk n tx s.1 - 65).toNatClampNeg (pk n tx (s.1 + 1) - 48) (nI s.2.1) (sAt (s.1 + 1 + 1) s))).2)) else cB n tx 6 (sPS (pk n tx s.1 - 65).toNatClampNeg (pk n tx (s.1 + 1) - 48) (nI s.2.1) (sAt (s.1 + 1 + 1) s))
theorem th_10S {k : Nat} : hI (tH h s) 10 k = aP s k := by
  obtain ⟨a, z, l, I, H, S, P, A⟩ := s
  exact th_10
theorem tw_PS {k : Nat} {p v : Int32} : sI (sI (tH h s) 10 k p) 9 k v = tH h (sPS k p v s) := by
  obtain ⟨a, z, l, I, H, S, P, A⟩ := s
  rw [tw_10, tw_9]
  rfl
theorem bd_ps {k : Nat} {p v : Int32} (hb : Bd n s) : Bd n (sPS k p v s) := by
  obtain ⟨a, z, l, I, H, S, P, A⟩ := s
  exact hb
theorem fun_in (h1 : ¬ pk n tx (s.1 + 1) - 48 < 0) : s.1 + 1 < n := by
  refine pk_at (tx := tx) (fun e => h1 ?_)
  rw [e]
  decide
theorem bd_fun (hb : Bd n s) (h1 : (cFun n tx s).1 = true) : Bd n (cFun n tx s).2 := by
  unfold cFun at h1 ⊢
  by_cases c1 : pk n tx s.1 - 65 < 0 ∨ 4 ≤ pk n tx s.1 - 65 ∨ ¬ aP s (pk n tx s.1 - 65).toNatClampNeg = -1
  · rw [if_pos c1] at h1; exact absurd h1 Bool.false_ne_true
  rw [if_neg c1] at h1 ⊢
  by_cases c2 : pk n tx (s.1 + 1) - 48 < 0 ∨ 3 < pk n tx (s.1 + 1) - 48
  · rw [if_pos c2] at h1; exact absurd h1 Bool.false_ne_true
  rw [if_neg c2] at h1 ⊢
  have hp : s.1 + 1 < n := fun_in (fun z => c2 (Or.inl z))
  have hb2 : Bd n (sPS (pk n tx s.1 - 65).toNatClampNeg (pk n tx (s.1 + 1) - 48) (nI s.2.1) (sAt (s.1 + 1 + 1) s)) := bd_ps ⟨hp, hb.2⟩
  by_cases c3 : (cB n tx 6 (sPS (pk n tx s.1 - 65).toNatClampNeg (pk n tx (s.1 + 1) - 48) (nI s.2.1) (sAt (s.1 + 1 + 1) s))).1 = true
  · rw [if_pos c3]; exact bd_emit (bd_emit (bd_B 6 _ hb2 c3))
  · rw [if_neg c3] at h1; exact absurd h1 c3
theorem t_fun (hT : TI h n tx) (hb : Bd n s) : Rn xs L (d + 40) 33 [.inr (some 6)] (tH h s) (some (.inl (bI (cFun n tx s).1)), tH h (cFun n tx s).2) := by
  have h0 := hT
  obtain ⟨⟨k6, r0, r1, r2, r3, r4, r5⟩, ⟨k7, k8, k9, k10, k11, k5⟩, ⟨l7, l8, l9, l10, l11, l5⟩, h6, hn, htx⟩ := hT
  have ha : s.1 < 2 ^ 30 := by have := hb.1; omega
  rw [i_rn]
  show X xs L (d + 39) 33 (0, [some (.inr (some 6)), none, none], [], _) _
  simp only [e_33_0, e_33_1, true_and, and_true, and_self, false_and, and_false, if_true, if_false, ↓reduceIte, Nat.add_eq_left, Nat.left_eq_add, Nat.add_left_cancel_iff, not_false_eq_true, not_true_eq_false, i_pc, List.cons_append, List.nil_append, List.length_cons, List.length_nil, Nat.reduceEqDiff, Nat.reduceAdd, Nat.reduceMul, Nat.reduceSub, Nat.reduceLeDiff, Nat.reduceLT, Int32.reduceLT, Int32.reduceLE, Int32.reduceAdd, Int32.reduceSub, reduceCtorEq, true_or, or_true, or_false, false_or, ne_eq, Nat.zero_le, th_K, k6]
  refine ⟨_, t_peekS h0 (by omega), ?_⟩
  simp only [e_33_4, e_33_6, e_33_7, e_33_8, e_33_9, e_33_10, e_33_13, e_33_14, e_33_15, e_33_18, e_33_19, true_and, and_true, and_self, false_and, and_false, if_true, if_false, ↓reduceIte, Nat.add_eq_left, Nat.left_eq_add, Nat.add_left_cancel_iff, not_false_eq_true, not_true_eq_false, i_pc, List.cons_append, List.nil_append, List.length_cons, List.length_nil, Nat.reduceEqDiff, Nat.reduceAdd, Nat.reduceMul, Nat.reduceSub, Nat.reduceLeDiff, Nat.reduceLT, Int32.reduceLT, Int32.reduceLE, Int32.reduceAdd, Int32.reduceSub, reduceCtorEq, true_or, or_true, or_false, false_or, ne_eq, Nat.zero_le, Option.toList, th_K, k6, th_67S, tw_atS, nI_1]
  refine ⟨_, t_peekS h0 (by show s.1 + 1 < 2 ^ 31; omega), ?_⟩
  have e1 : (sAt (s.1 + 1) s).1 = s.1 + 1 := rfl
  have e2 : sAt (s.1 + 1 + 1) (sAt (s.1 + 1) s) = sAt (s.1 + 1 + 1) s := rfl
  simp only [e_33_22, e_33_24, e_33_25, e_33_26, e_33_27, e_33_28, e_33_31, e_33_32, e_33_33, true_and, and_true, and_self, false_and, and_false, if_true, if_false, ↓reduceIte, Nat.add_eq_left, Nat.left_eq_add, Nat.add_left_cancel_iff, not_false_eq_true, not_true_eq_false, i_pc, List.cons_append, List.nil_append, List.length_cons, List.length_nil, Nat.reduceEqDiff, Nat.reduceAdd, Nat.reduceMul, Nat.reduceSub, Nat.reduceLeDiff, Nat.reduceLT, Int32.reduceLT, Int32.reduceLE, Int32.reduceAdd, Int32.reduceSub, reduceCtorEq, true_or, or_true, or_false, false_or, ne_eq, Nat.zero_le, Option.toList, th_K, k6, th_67S, tw_atS, nI_1, e1, e2]
  unfold cFun
  by_cases c1 : pk n tx s.1 - 65 < 0
  · rw [if_pos (Or.inl c1)]
    simp only [e_33_36, e_33_37, e_33_55, e_33_56, true_and, and_true, and_self, false_and, and_false, if_true, if_false, ↓reduceIte, Nat.add_eq_left, Nat.left_eq_add, Nat.add_left_cancel_iff, not_false_eq_true, not_true_eq_false, i_pc, List.cons_append, List.nil_append, List.length_cons, List.length_nil, Nat.reduceEqDiff, Nat.reduceAdd, Nat.reduceMul, Nat.reduceSub, Nat.reduceLeDiff, Nat.reduceLT, Int32.reduceLT, Int32.reduceLE, Int32.reduceAdd, Int32.reduceSub, reduceCtorEq, true_or, or_true, or_false, false_or, ne_eq, Nat.zero_le, c1, bI_ff]
  by_cases c2 : 4 ≤ pk n tx s.1 - 65
  · rw [if_pos (Or.inr (Or.inl c2))]
    simp only [e_33_36, e_33_37, e_33_40, e_33_41, e_33_42, e_33_55, e_33_56, true_and, and_true, and_self, false_and, and_false, if_true, if_false, ↓reduceIte, Nat.add_eq_left, Nat.left_eq_add, Nat.add_left_cancel_iff, not_false_eq_true, not_true_eq_false, i_pc, List.cons_append, List.nil_append, List.length_cons, List.length_nil, Nat.reduceEqDiff, Nat.reduceAdd, Nat.reduceMul, Nat.reduceSub, Nat.reduceLeDiff, Nat.reduceLT, Int32.reduceLT, Int32.reduceLE, Int32.reduceAdd, Int32.reduceSub, reduceCtorEq, true_or, or_true, or_false, false_or, ne_eq, Nat.zero_le, c1, c2, bI_ff]
  obtain ⟨f, hf, ef⟩ := nI_of2 (M := 3) (n := 3) (by decide) c1 (Int32.not_lt.mp (fun z => c2 (Int32.not_lt.mp (fun z2 => by
    have q1 := Int32.lt_iff_toInt_lt.mp z
    have q2 := Int32.lt_iff_toInt_lt.mp z2
    rw [show (3 : Int32).toInt = 3 from by decide] at q1
    rw [show (4 : Int32).toInt = 4 from by decide] at q2
    omega))))
  have h1 : vp_in (nI f) 4 := vin (by omega) (by decide)
  have h8 : f < 2 ^ 31 := by omega
  rw [ef] at c1 c2
  simp only [ef, nI_cl h8]
  by_cases c3 : aP s f = -1
  · rw [if_neg (fun e => e.elim c1 (fun e => e.elim c2 (fun e => e c3)))]
    have e3 : ∀ k, aP (sAt (s.1 + 1 + 1) s) k = aP s k := fun _ => rfl
    have e4 : (sAt (s.1 + 1 + 1) s).2.1 = s.2.1 := rfl
    by_cases c4 : pk n tx (s.1 + 1) - 48 < 0
    · rw [if_pos (Or.inl c4)]
      simp only [e_33_36, e_33_37, e_33_40, e_33_41, e_33_42, e_33_45, e_33_46, e_33_49, e_33_50, e_33_51, e_33_52, e_33_57, e_33_58, e_33_66, e_33_67, true_and, and_true, and_self, false_and, and_false, if_true, if_false, ↓reduceIte, Nat.add_eq_left, Nat.left_eq_add, Nat.add_left_cancel_iff, not_false_eq_true, not_true_eq_false, i_pc, List.cons_append, List.nil_append, List.length_cons, List.length_nil, Nat.reduceEqDiff, Nat.reduceAdd, Nat.reduceMul, Nat.reduceSub, Nat.reduceLeDiff, Nat.reduceLT, Int32.reduceLT, Int32.reduceLE, Int32.reduceAdd, Int32.reduceSub, reduceCtorEq, true_or, or_true, or_false, false_or, ne_eq, Nat.zero_le, th_K, th_L, th_R, th_10S, k6, r3, k10, l10, e3, h1, c1, c2, c3, c4, nI_cl h8, bI_ff]
    by_cases c5 : 3 < pk n tx (s.1 + 1) - 48
    · rw [if_pos (Or.inr c5)]
      have c6 : ¬ pk n tx (s.1 + 1) - 48 ≤ 3 := Int32.not_le.mpr c5
      simp only [e_33_36, e_33_37, e_33_40, e_33_41, e_33_42, e_33_45, e_33_46, e_33_49, e_33_50, e_33_51, e_33_52, e_33_57, e_33_58, e_33_61, e_33_62, e_33_63, e_33_66, e_33_67, true_and, and_true, and_self, false_and, and_false, if_true, if_false, ↓reduceIte, Nat.add_eq_left, Nat.left_eq_add, Nat.add_left_cancel_iff, not_false_eq_true, not_true_eq_false, i_pc, List.cons_append, List.nil_append, List.length_cons, List.length_nil, Nat.reduceEqDiff, Nat.reduceAdd, Nat.reduceMul, Nat.reduceSub, Nat.reduceLeDiff, Nat.reduceLT, Int32.reduceLT, Int32.reduceLE, Int32.reduceAdd, Int32.reduceSub, reduceCtorEq, true_or, or_true, or_false, false_or, ne_eq, Nat.zero_le, th_K, th_L, th_R, th_10S, k6, r3, k10, l10, e3, h1, c1, c2, c3, c4, c6, nI_cl h8, bI_ff]
    rw [if_neg (fun e => e.elim c4 c5)]
    have c6 : pk n tx (s.1 + 1) - 48 ≤ 3 := Int32.not_lt.mp c5
    have hp : s.1 + 1 < n := fun_in c4
    have hb2 : Bd n (sPS f (pk n tx (s.1 + 1) - 48) (nI s.2.1) (sAt (s.1 + 1 + 1) s)) := bd_ps ⟨hp, hb.2⟩
    have e5 : hI (sI (tH h (sAt (s.1 + 1 + 1) s)) 10 f (pk n tx (s.1 + 1) - 48)) 6 8 = nI s.2.1 := by rw [hI_sI, if_neg (by omega), th_68S]; rfl
    simp only [e_33_36, e_33_37, e_33_40, e_33_41, e_33_42, e_33_45, e_33_46, e_33_49, e_33_50, e_33_51, e_33_52, e_33_57, e_33_58, e_33_61, e_33_62, e_33_63, e_33_66, e_33_67, e_33_68, e_33_69, e_33_72, e_33_73, e_33_74, e_33_75, e_33_76, e_33_79, e_33_80, e_33_81, e_33_84, e_33_85, e_33_86, e_33_87, true_and, and_true, and_self, false_and, and_false, if_true, if_false, ↓reduceIte, Nat.add_eq_left, Nat.left_eq_add, Nat.add_left_cancel_iff, not_false_eq_true, not_true_eq_false, i_pc, List.cons_append, List.nil_append, List.length_cons, List.length_nil, Nat.reduceEqDiff, Nat.reduceAdd, Nat.reduceMul, Nat.reduceSub, Nat.reduceLeDiff, Nat.reduceLT, Int32.reduceLT, Int32.reduceLE, Int32.reduceAdd, Int32.reduceSub, reduceCtorEq, true_or, or_true, or_false, false_or, ne_eq, Nat.zero_le, hK_sI, hL_sI, hR_sI, th_K, th_L, th_R, th_10S, e5, k6, r3, k10, l10, r2, k9, l9, e3, h1, c1, c2, c3, c4, c6, nI_cl h8, tw_PS]
    refine ⟨_, rnC (by omega) (t_B h0 6 1 d (by omega) _ hb2), ?_⟩
    cases c7 : (cB n tx 6 (sPS f (pk n tx (s.1 + 1) - 48) (nI s.2.1) (sAt (s.1 + 1 + 1) s))).1 with
    | false => simp only [e_33_90, e_33_93, e_33_94, true_and, and_true, and_self, false_and, and_false, if_true, if_false, ↓reduceIte, Nat.add_eq_left, Nat.left_eq_add, Nat.add_left_cancel_iff, not_false_eq_true, not_true_eq_false, i_pc, List.cons_append, List.nil_append, List.length_cons, List.length_nil, Nat.reduceEqDiff, Nat.reduceAdd, Nat.reduceMul, Nat.reduceSub, Nat.reduceLeDiff, Nat.reduceLT, Int32.reduceLT, Int32.reduceLE, Int32.reduceAdd, Int32.reduceSub, reduceCtorEq, true_or, or_true, or_false, false_or, ne_eq, Nat.zero_le, Option.toList, bI_ff, c7, Bool.false_eq_true]
    | true =>
      have hb3 := bd_B 6 _ hb2 c7
      simp only [e_33_90, e_33_95, e_33_96, e_33_97, e_33_98, true_and, and_true, and_self, false_and, and_false, if_true, if_false, ↓reduceIte, Nat.add_eq_left, Nat.left_eq_add, Nat.add_left_cancel_iff, not_false_eq_true, not_true_eq_false, i_pc, List.cons_append, List.nil_append, List.length_cons, List.length_nil, Nat.reduceEqDiff, Nat.reduceAdd, Nat.reduceMul, Nat.reduceSub, Nat.reduceLeDiff, Nat.reduceLT, Int32.reduceLT, Int32.reduceLE, Int32.reduceAdd, Int32.reduceSub, reduceCtorEq, true_or, or_true, or_false, false_or, ne_eq, Nat.zero_le, Option.toList, th_K, k6, bI_tt, show ((1 : Int32) = 0) = False from by decide]
      refine ⟨_, t_emitS h0 (by have := hb3.2.1; omega), ?_⟩
      simp only [e_33_101, e_33_102, e_33_103, e_33_104, true_and, and_true, and_self, false_and, and_false, if_true, if_false, ↓reduceIte, Nat.add_eq_left, Nat.left_eq_add, Nat.add_left_cancel_iff, not_false_eq_true, not_true_eq_false, i_pc, List.cons_append, List.nil_append, List.length_cons, List.length_nil, Nat.reduceEqDiff, Nat.reduceAdd, Nat.reduceMul, Nat.reduceSub, Nat.reduceLeDiff, Nat.reduceLT, Int32.reduceLT, Int32.reduceLE, Int32.reduceAdd, Int32.reduceSub, reduceCtorEq, true_or, or_true, or_false, false_or, ne_eq, Nat.zero_le, Option.toList, th_K, k6]
      refine ⟨_, t_emitS h0 (by have := (bd_emit (op := 1) (x := 0) hb3).2.1; omega), ?_⟩
      simp only [e_33_107, e_33_108, true_and, and_true, and_self, false_and, and_false, if_true, if_false, ↓reduceIte, Nat.add_eq_left, Nat.left_eq_add, Nat.add_left_cancel_iff, not_false_eq_true, not_true_eq_false, i_pc, List.cons_append, List.nil_append, List.length_cons, List.length_nil, Nat.reduceEqDiff, Nat.reduceAdd, Nat.reduceMul, Nat.reduceSub, Nat.reduceLeDiff, Nat.reduceLT, Int32.reduceLT, Int32.reduceLE, Int32.reduceAdd, Int32.reduceSub, reduceCtorEq, true_or, or_true, or_false, false_or, ne_eq, Nat.zero_le, Option.toList]
  · rw [if_pos (Or.inr (Or.inr c3))]
    have e3 : ∀ k, aP (sAt (s.1 + 1 + 1) s) k = aP s k := fun _ => rfl
    simp only [e_33_36, e_33_37, e_33_40, e_33_41, e_33_42, e_33_45, e_33_46, e_33_49, e_33_50, e_33_51, e_33_52, e_33_55, e_33_56, true_and, and_true, and_self, false_and, and_false, if_true, if_false, ↓reduceIte, Nat.add_eq_left, Nat.left_eq_add, Nat.add_left_cancel_iff, not_false_eq_true, not_true_eq_false, i_pc, List.cons_append, List.nil_append, List.length_cons, List.length_nil, Nat.reduceEqDiff, Nat.reduceAdd, Nat.reduceMul, Nat.reduceSub, Nat.reduceLeDiff, Nat.reduceLT, Int32.reduceLT, Int32.reduceLE, Int32.reduceAdd, Int32.reduceSub, reduceCtorEq, true_or, or_true, or_false, false_or, ne_eq, Nat.zero_le, th_K, th_L, th_R, th_10S, k6, r3, k10, l10, e3, h1, c1, c2, c3, nI_cl h8, bI_ff]
end TH

-- the translator: beginReading, readProgram, readAside
/-- the translator's and the text's shape; n signs tx are typed -/
def T0 (h : Hp) (n : Nat) (tx : Nat → Int32) : Prop := (hK h 6 = 7 ∧ hR h 6 0 = some 7 ∧ hR h 6 1 = some 8 ∧ hR h 6 2 = some 9 ∧ hR h 6 3 = some 10 ∧ hR h 6 4 = some 11) ∧ (hK h 7 = 20 ∧ hK h 8 = 20 ∧ hK h 9 = 20 ∧ hK h 10 = 20 ∧ hK h 11 = 20 ∧ hK h 5 = 21) ∧ (hL h 7 = 151 ∧ hL h 8 = 151 ∧ hL h 9 = 4 ∧ hL h 10 = 4 ∧ hL h 11 = 4 ∧ hL h 5 = 150) ∧ (hK h 4 = 6 ∧ hR h 4 0 = some 5 ∧ hI h 4 1 = nI n) ∧ n ≤ 150 ∧ ∀ p, p < n → hI h 5 p = tx p ∧ 32 ≤ tx p ∧ tx p ≤ 126
def bgR (h : Hp) (n : Nat) : Hp := sI (sR h 6 5 (some 5)) 6 6 (nI n)
/-- the state at the beginning -/
def s0 (h : Hp) : TS := (0, 0, 0, hI h 7, hI h 8, hI h 9, hI h 10, fun j => if j < 4 then -1 else hI h 11 j)
def cProgL (n : Nat) (tx : Nat → Int32) : Nat → TS → Bool × TS
  | 0, s => (true, s)
  | m + 1, s => if s.1 < n then (if (cFun n tx s).1 then cProgL n tx m (cFun n tx s).2 else cFun n tx s) else (true, s)
def sPar (f : Nat → Int32) : TS → TS
  | (a, z, l, I, H, S, _, A) => (a, z, l, I, H, S, f, A)
def sp0 (h : Hp) : TS := sPar (fun j => if j < 4 then -1 else hI h 10 j) (s0 h)
section TJ
variable {xs : Nat → Int32} {L d : Nat} {h g : Hp} {res : Res} {n : Nat} {tx : Nat → Int32} {s : TS}
theorem T0_TI (hT : T0 h n tx) : TI (bgR h n) n tx := by
  obtain ⟨⟨k6, r0, r1, r2, r3, r4⟩, ⟨k7, k8, k9, k10, k11, k5⟩, ⟨l7, l8, l9, l10, l11, l5⟩, ⟨k4, r40, i41⟩, hn, htx⟩ := hT
  refine ⟨⟨k6, ?_, ?_, ?_, ?_, ?_, ?_⟩, ⟨k7, k8, k9, k10, k11, k5⟩, ⟨l7, l8, l9, l10, l11, l5⟩, ?_, hn, fun p hp => ?_⟩
  · unfold bgR; rw [hR_sI, hR_sR, if_neg (by omega)]; exact r0
  · unfold bgR; rw [hR_sI, hR_sR, if_neg (by omega)]; exact r1
  · unfold bgR; rw [hR_sI, hR_sR, if_neg (by omega)]; exact r2
  · unfold bgR; rw [hR_sI, hR_sR, if_neg (by omega)]; exact r3
  · unfold bgR; rw [hR_sI, hR_sR, if_neg (by omega)]; exact r4
  · unfold bgR; rw [hR_sI, hR_sR, if_pos ⟨rfl, rfl⟩]
  · unfold bgR; rw [hI_sI, if_pos ⟨rfl, rfl⟩]
  · unfold bgR; rw [hI_sI, if_neg (by omega), hI_sR]; exact htx p hp
theorem tw_11A {f : Nat → Int32} {a z l : Nat} {I H S P A : Nat → Int32} : sA (tH h (a, z, l, I, H, S, P, A)) 11 f = tH h (a, z, l, I, H, S, P, f) := by
  unfold tH
  rw [sA_sA]
theorem sA_sAo {o o2 : Nat} {f f2 : Nat → Int32} (hne : ¬ o = o2) : sA (sA h o2 f2) o f = sA (sA h o f) o2 f2 := by
  refine hp_ext rfl rfl (fun _ => rfl) (fun _ => rfl) (fun x y => ?_) (fun _ _ => rfl)
  rw [hI_sA, hI_sA, hI_sA, hI_sA]
  by_cases h1 : x = o2
  · rw [if_pos h1, if_neg (fun e => hne (e.symm.trans h1)), if_pos h1]
  · rw [if_neg h1, if_neg h1]
theorem tw_10A {f : Nat → Int32} : sA (tH h s) 10 f = tH h (sPar f s) := by
  obtain ⟨a, z, l, I, H, S, P, A⟩ := s
  unfold tH sPar
  rw [sA_sAo (by decide), sA_sA]
theorem t_begin (hT : T0 h n tx) : Rn xs L (d + 2) 31 [.inr (some 6), .inr (some 4)] h (none, tH (bgR h n) (s0 h)) := by
  obtain ⟨⟨k6, r0, r1, r2, r3, r4⟩, ⟨k7, k8, k9, k10, k11, k5⟩, ⟨l7, l8, l9, l10, l11, l5⟩, ⟨k4, r40, i41⟩, hn, htx⟩ := hT
  rw [i_rn]
  show X xs L (d + 1) 31 (0, [some (.inr (some 6)), some (.inr (some 4))], [], h) _
  have e0 : sI (sI (sI (bgR h n) 6 7 0) 6 8 0) 6 9 0 = tH (bgR h n) (0, 0, 0, hI h 7, hI h 8, hI h 9, hI h 10, hI h 11) := by
    have q : ∀ o j, ¬ o = 6 → hI (sI (sI (sI (bgR h n) 6 7 0) 6 8 0) 6 9 0) o j = hI h o j := fun o j ho => by
      unfold bgR
      rw [hI_sI, if_neg (fun z => ho z.1), hI_sI, if_neg (fun z => ho z.1), hI_sI, if_neg (fun z => ho z.1), hI_sI, if_neg (fun z => ho z.1), hI_sR]
    unfold tH
    show _ = sA (sA (sA (sA (sA (sI (sI (sI (bgR h n) 6 7 0) 6 8 0) 6 9 0) 7 (hI h 7)) 8 (hI h 8)) 9 (hI h 9)) 10 (hI h 10)) 11 (hI h 11)
    rw [sA_id (o := 7) (fun j => (q 7 j (by decide)).symm), sA_id (o := 8) (fun j => (q 8 j (by decide)).symm), sA_id (o := 9) (fun j => (q 9 j (by decide)).symm), sA_id (o := 10) (fun j => (q 10 j (by decide)).symm), sA_id (o := 11) (fun j => (q 11 j (by decide)).symm)]
  have hf := r_fill (xs := xs) (L := L) (d := d) (h := tH (bgR h n) (0, 0, 0, hI h 7, hI h 8, hI h 9, hI h 10, hI h 11)) (o := 11) (n := 4) (v := -1) (th_K.trans k11) (th_L.trans l11) (by decide)
  rw [tw_11A] at hf
  simp only [th_11] at hf
  simp only [e_31_0, e_31_1, e_31_2, e_31_5, e_31_8, e_31_9, e_31_10, e_31_13, e_31_16, e_31_17, e_31_18, e_31_21, e_31_22, e_31_23, e_31_26, e_31_27, e_31_28, e_31_31, e_31_32, e_31_35, e_31_36, true_and, and_true, and_self, false_and, and_false, if_true, if_false, ↓reduceIte, Nat.add_eq_left, Nat.left_eq_add, Nat.add_left_cancel_iff, not_false_eq_true, not_true_eq_false, i_pc, List.cons_append, List.nil_append, List.length_cons, List.length_nil, Nat.reduceEqDiff, Nat.reduceAdd, Nat.reduceMul, Nat.reduceSub, Nat.reduceLeDiff, Nat.reduceLT, Int32.reduceLT, Int32.reduceLE, Int32.reduceAdd, Int32.reduceSub, reduceCtorEq, true_or, or_true, or_false, false_or, ne_eq, Nat.zero_le, hK_sI, hL_sI, hR_sI, hI_sI, hN_sI, hU_sI, hK_sR, hL_sR, hI_sR, hR_sR, hN_sR, hU_sR, hK_sA, hL_sA, hR_sA, hI_sA, hN_sA, hU_sA, k4, k6, r40, i41, r4]
  have e1 : sI (sI (sI (sI (sR h 6 5 (some 5)) 6 6 (nI n)) 6 7 0) 6 8 0) 6 9 0 = tH (bgR h n) (0, 0, 0, hI h 7, hI h 8, hI h 9, hI h 10, hI h 11) := e0
  refine ⟨(none, tH (bgR h n) (s0 h)), by rw [e1]; exact hf, ?_⟩
  simp only [e_31_39, true_and, and_true, and_self, false_and, and_false, if_true, if_false, ↓reduceIte, Nat.add_eq_left, Nat.left_eq_add, Nat.add_left_cancel_iff, not_false_eq_true, not_true_eq_false, i_pc, List.cons_append, List.nil_append, List.length_cons, List.length_nil, Nat.reduceEqDiff, Nat.reduceAdd, Nat.reduceMul, Nat.reduceSub, Nat.reduceLeDiff, Nat.reduceLT, Int32.reduceLT, Int32.reduceLE, Int32.reduceAdd, Int32.reduceSub, reduceCtorEq, true_or, or_true, or_false, false_or, ne_eq, Nat.zero_le, Option.toList]
theorem bd_s0 : Bd n (s0 h) := ⟨Nat.zero_le _, Nat.zero_le _, Nat.zero_le _⟩
theorem bd_sp0 : Bd n (sp0 h) := ⟨Nat.zero_le _, Nat.zero_le _, Nat.zero_le _⟩
theorem bd_progl : ∀ (m : Nat) (s : TS), Bd n s → (cProgL n tx m s).1 = true → Bd n (cProgL n tx m s).2 := by
  intro m
  induction m with
  | zero => intro s hb h1; exact hb
  | succ m ih =>
    intro s hb h1
    unfold cProgL at h1 ⊢
    by_cases c1 : s.1 < n
    · rw [if_pos c1] at h1 ⊢
      by_cases c2 : (cFun n tx s).1 = true
      · rw [if_pos c2] at h1 ⊢; exact ih _ (bd_fun hb c2) h1
      · rw [if_neg c2] at h1; exact absurd h1 c2
    · rw [if_neg c1]; exact hb
theorem t_prog_loop {a1 : Option AV} (hT : TI h n tx) : ∀ (m i : Nat) (s : TS), i + m = 4 → Bd n s → ((cProgL n tx m s).1 = false → res = (some (.inr none), tH h (cProgL n tx m s).2)) → ((cProgL n tx m s).1 = true → ∀ a2, X xs L (d + 40) 29 (46, [some (.inr (some 6)), a1, a2], [], tH h (cProgL n tx m s).2) res) → X xs L (d + 40) 29 (15, [some (.inr (some 6)), a1, some (.inl (nI i))], [], tH h s) res := by
  have k6 : hK h 6 = 7 := hT.1.1
  have h66 : hI h 6 6 = nI n := hT.2.2.2.1
  have hn : n ≤ 150 := hT.2.2.2.2.1
  intro m
  induction m with
  | zero =>
    intro i s hi hb h1 h2
    have hi4 : i = 4 := by omega
    subst hi4
    simp only [e_29_15, e_29_16, e_29_17, true_and, and_true, and_self, false_and, and_false, if_true, if_false, ↓reduceIte, Nat.add_eq_left, Nat.left_eq_add, Nat.add_left_cancel_iff, not_false_eq_true, not_true_eq_false, i_pc, List.cons_append, List.nil_append, List.length_cons, List.length_nil, Nat.reduceEqDiff, Nat.reduceAdd, Nat.reduceMul, Nat.reduceSub, Nat.reduceLeDiff, Nat.reduceLT, Int32.reduceLT, Int32.reduceLE, Int32.reduceAdd, Int32.reduceSub, reduceCtorEq, true_or, or_true, or_false, false_or, ne_eq, Nat.zero_le, show ((4 : Int32) ≤ nI 4) = True from by decide]
    exact h2 rfl _
  | succ m ih =>
    intro i s hi hb h1 h2
    have h3 : ¬ (4 : Int32) ≤ nI i := nI_ge (b := 4) (by omega) (by decide)
    unfold cProgL at h1 h2
    rw [e_29_15]
    by_cases c1 : s.1 < n
    · rw [if_pos c1] at h1 h2
      have h4 : ¬ nI n ≤ nI s.1 := nI_ge c1 (by omega)
      simp only [e_29_16, e_29_17, e_29_20, e_29_21, e_29_24, e_29_25, e_29_28, e_29_31, e_29_32, true_and, and_true, and_self, false_and, and_false, if_true, if_false, ↓reduceIte, Nat.add_eq_left, Nat.left_eq_add, Nat.add_left_cancel_iff, not_false_eq_true, not_true_eq_false, i_pc, List.cons_append, List.nil_append, List.length_cons, List.length_nil, Nat.reduceEqDiff, Nat.reduceAdd, Nat.reduceMul, Nat.reduceSub, Nat.reduceLeDiff, Nat.reduceLT, Int32.reduceLT, Int32.reduceLE, Int32.reduceAdd, Int32.reduceSub, reduceCtorEq, true_or, or_true, or_false, false_or, ne_eq, Nat.zero_le, th_K, k6, th_67S, th_66, h66, h3, h4]
      refine ⟨_, t_fun hT hb, ?_⟩
      cases c2 : (cFun n tx s).1 with
      | false =>
        rw [c2, if_neg Bool.false_ne_true] at h1
        simp only [e_29_35, e_29_38, e_29_39, true_and, and_true, and_self, false_and, and_false, if_true, if_false, ↓reduceIte, Nat.add_eq_left, Nat.left_eq_add, Nat.add_left_cancel_iff, not_false_eq_true, not_true_eq_false, i_pc, List.cons_append, List.nil_append, List.length_cons, List.length_nil, Nat.reduceEqDiff, Nat.reduceAdd, Nat.reduceMul, Nat.reduceSub, Nat.reduceLeDiff, Nat.reduceLT, Int32.reduceLT, Int32.reduceLE, Int32.reduceAdd, Int32.reduceSub, reduceCtorEq, true_or, or_true, or_false, false_or, ne_eq, Nat.zero_le, Option.toList, bI_ff]
        exact h1 c2
      | true =>
        rw [c2, if_pos rfl] at h1 h2
        simp only [e_29_35, e_29_40, e_29_43, true_and, and_true, and_self, false_and, and_false, if_true, if_false, ↓reduceIte, Nat.add_eq_left, Nat.left_eq_add, Nat.add_left_cancel_iff, not_false_eq_true, not_true_eq_false, i_pc, List.cons_append, List.nil_append, List.length_cons, List.length_nil, Nat.reduceEqDiff, Nat.reduceAdd, Nat.reduceMul, Nat.reduceSub, Nat.reduceLeDiff, Nat.reduceLT, Int32.reduceLT, Int32.reduceLE, Int32.reduceAdd, Int32.reduceSub, reduceCtorEq, true_or, or_true, or_false, false_or, ne_eq, Nat.zero_le, Option.toList, bI_tt, nI_1, show ((1 : Int32) = 0) = False from by decide]
        exact ih (i + 1) _ (by omega) (bd_fun hb c2) h1 h2
    · rw [if_neg c1] at h1 h2
      have h4 : nI n ≤ nI s.1 := nI_le (by omega) (by have := hb.1; omega)
      simp only [e_29_16, e_29_17, e_29_20, e_29_21, e_29_24, e_29_25, e_29_28, true_and, and_true, and_self, false_and, and_false, if_true, if_false, ↓reduceIte, Nat.add_eq_left, Nat.left_eq_add, Nat.add_left_cancel_iff, not_false_eq_true, not_true_eq_false, i_pc, List.cons_append, List.nil_append, List.length_cons, List.length_nil, Nat.reduceEqDiff, Nat.reduceAdd, Nat.reduceMul, Nat.reduceSub, Nat.reduceLeDiff, Nat.reduceLT, Int32.reduceLT, Int32.reduceLE, Int32.reduceAdd, Int32.reduceSub, reduceCtorEq, true_or, or_true, or_false, false_or, ne_eq, Nat.zero_le, th_K, k6, th_67S, th_66, h66, h3, h4]
      exact h2 rfl _
/-- the program is good -/
def cAcc (n : Nat) (r : Bool × TS) : Prop := r.1 = true ∧ r.2.1 = n ∧ aP r.2 0 = 0 ∧ cFitL (aA r.2) (aP r.2) 4 0 = true
theorem t_rp_go {a1 : Option AV} (hT0 : T0 h n tx) (hX : X xs L (d + 40) 29 (15, [some (.inr (some 6)), some (.inr (some 4)), some (.inl (nI 0))], [], tH (bgR h n) (sp0 h)) res) : Rn xs L (d + 41) 29 [.inr (some 6), .inr (some 4)] h res := by
  have hT := T0_TI hT0
  obtain ⟨⟨k6, r0, r1, r2, r3, r4, r5⟩, ⟨k7, k8, k9, k10, k11, k5⟩, ⟨l7, l8, l9, l10, l11, l5⟩, h6, hn, htx⟩ := hT
  rw [i_rn]
  show X xs L (d + 40) 29 (0, [some (.inr (some 6)), some (.inr (some 4)), none], [], h) _
  simp only [e_29_0, e_29_1, e_29_2, true_and, and_true, and_self, false_and, and_false, if_true, if_false, ↓reduceIte, Nat.add_eq_left, Nat.left_eq_add, Nat.add_left_cancel_iff, not_false_eq_true, not_true_eq_false, i_pc, List.cons_append, List.nil_append, List.length_cons, List.length_nil, Nat.reduceEqDiff, Nat.reduceAdd, Nat.reduceMul, Nat.reduceSub, Nat.reduceLeDiff, Nat.reduceLT, Int32.reduceLT, Int32.reduceLE, Int32.reduceAdd, Int32.reduceSub, reduceCtorEq, true_or, or_true, or_false, false_or, ne_eq, Nat.zero_le, hT0.1.1]
  refine ⟨_, t_begin hT0, ?_⟩
  simp only [e_29_5, e_29_6, e_29_9, e_29_10, true_and, and_true, and_self, false_and, and_false, if_true, if_false, ↓reduceIte, Nat.add_eq_left, Nat.left_eq_add, Nat.add_left_cancel_iff, not_false_eq_true, not_true_eq_false, i_pc, List.cons_append, List.nil_append, List.length_cons, List.length_nil, Nat.reduceEqDiff, Nat.reduceAdd, Nat.reduceMul, Nat.reduceSub, Nat.reduceLeDiff, Nat.reduceLT, Int32.reduceLT, Int32.reduceLE, Int32.reduceAdd, Int32.reduceSub, reduceCtorEq, true_or, or_true, or_false, false_or, ne_eq, Nat.zero_le, Option.toList, th_K, th_R, k6, r3]
  have hf := r_fill (xs := xs) (L := L) (d := d + 39) (h := tH (bgR h n) (s0 h)) (o := 10) (n := 4) (v := -1) (th_K.trans k10) (th_L.trans l10) (by decide)
  rw [tw_10A] at hf
  refine ⟨_, hf, ?_⟩
  simp only [e_29_13, e_29_14, true_and, and_true, and_self, false_and, and_false, if_true, if_false, ↓reduceIte, Nat.add_eq_left, Nat.left_eq_add, Nat.add_left_cancel_iff, not_false_eq_true, not_true_eq_false, i_pc, List.cons_append, List.nil_append, List.length_cons, List.length_nil, Nat.reduceEqDiff, Nat.reduceAdd, Nat.reduceMul, Nat.reduceSub, Nat.reduceLeDiff, Nat.reduceLT, Int32.reduceLT, Int32.reduceLE, Int32.reduceAdd, Int32.reduceSub, reduceCtorEq, true_or, or_true, or_false, false_or, ne_eq, Nat.zero_le, Option.toList]
  have e : (fun j => if j < 4 then (-1 : Int32) else hI (tH (bgR h n) (s0 h)) 10 j) = fun j => if j < 4 then -1 else hI h 10 j := funext (fun j => by
    split
    · rfl
    · rw [th_10S]; rfl)
  rw [e]
  exact hX
theorem t_rp_rej (hT0 : T0 h n tx) (hr : ¬ cAcc n (cProgL n tx 4 (sp0 h))) : Rn xs L (d + 41) 29 [.inr (some 6), .inr (some 4)] h (some (.inr none), tH (bgR h n) (cProgL n tx 4 (sp0 h)).2) := by
  have hT := T0_TI hT0
  have h0 := hT
  obtain ⟨⟨k6, r0, r1, r2, r3, r4, r5⟩, ⟨k7, k8, k9, k10, k11, k5⟩, ⟨l7, l8, l9, l10, l11, l5⟩, h6, hn, htx⟩ := hT
  refine t_rp_go (a1 := none) hT0 (t_prog_loop h0 4 0 _ (by omega) bd_sp0 (fun _ => rfl) (fun h1 a2 => ?_))
  have hb := bd_progl (n := n) (tx := tx) 4 _ (bd_sp0 (h := h)) h1
  by_cases c1 : (cProgL n tx 4 (sp0 h)).2.1 = n
  · have c1' : nI (cProgL n tx 4 (sp0 h)).2.1 = nI n := by rw [c1]
    by_cases c2 : aP (cProgL n tx 4 (sp0 h)).2 0 = 0
    · have c3 : cFitL (aA (cProgL n tx 4 (sp0 h)).2) (aP (cProgL n tx 4 (sp0 h)).2) 4 0 = false := by
        cases c4 : cFitL (aA (cProgL n tx 4 (sp0 h)).2) (aP (cProgL n tx 4 (sp0 h)).2) 4 0 with
        | false => rfl
        | true => exact absurd ⟨h1, c1, c2, c4⟩ hr
      simp only [e_29_46, e_29_47, e_29_50, e_29_51, e_29_54, e_29_57, e_29_58, e_29_61, e_29_62, e_29_63, e_29_66, e_29_67, e_29_68, e_29_71, true_and, and_true, and_self, false_and, and_false, if_true, if_false, ↓reduceIte, Nat.add_eq_left, Nat.left_eq_add, Nat.add_left_cancel_iff, not_false_eq_true, not_true_eq_false, i_pc, List.cons_append, List.nil_append, List.length_cons, List.length_nil, Nat.reduceEqDiff, Nat.reduceAdd, Nat.reduceMul, Nat.reduceSub, Nat.reduceLeDiff, Nat.reduceLT, Int32.reduceLT, Int32.reduceLE, Int32.reduceAdd, Int32.reduceSub, reduceCtorEq, true_or, or_true, or_false, false_or, ne_eq, Nat.zero_le, th_K, th_L, th_R, th_67S, th_66, th_10S, k6, h6, r3, k10, l10, c1', c2, show vp_in (0 : Int32) 4 from vin (n := 0) (by decide) (by decide), show (0 : Int32).toNatClampNeg = 0 from by decide]
      refine ⟨_, t_fit (W := aP (cProgL n tx 4 (sp0 h)).2) h0 k10 l10 (fun k _ => th_10S), ?_⟩
      simp only [e_29_74, e_29_77, e_29_78, true_and, and_true, and_self, false_and, and_false, if_true, if_false, ↓reduceIte, Nat.add_eq_left, Nat.left_eq_add, Nat.add_left_cancel_iff, not_false_eq_true, not_true_eq_false, i_pc, List.cons_append, List.nil_append, List.length_cons, List.length_nil, Nat.reduceEqDiff, Nat.reduceAdd, Nat.reduceMul, Nat.reduceSub, Nat.reduceLeDiff, Nat.reduceLT, Int32.reduceLT, Int32.reduceLE, Int32.reduceAdd, Int32.reduceSub, reduceCtorEq, true_or, or_true, or_false, false_or, ne_eq, Nat.zero_le, Option.toList, c3, bI_ff]
    · simp only [e_29_46, e_29_47, e_29_50, e_29_51, e_29_54, e_29_57, e_29_58, e_29_61, e_29_62, e_29_63, e_29_77, e_29_78, true_and, and_true, and_self, false_and, and_false, if_true, if_false, ↓reduceIte, Nat.add_eq_left, Nat.left_eq_add, Nat.add_left_cancel_iff, not_false_eq_true, not_true_eq_false, i_pc, List.cons_append, List.nil_append, List.length_cons, List.length_nil, Nat.reduceEqDiff, Nat.reduceAdd, Nat.reduceMul, Nat.reduceSub, Nat.reduceLeDiff, Nat.reduceLT, Int32.reduceLT, Int32.reduceLE, Int32.reduceAdd, Int32.reduceSub, reduceCtorEq, true_or, or_true, or_false, false_or, ne_eq, Nat.zero_le, th_K, th_L, th_R, th_67S, th_66, th_10S, k6, h6, r3, k10, l10, c1', c2, show vp_in (0 : Int32) 4 from vin (n := 0) (by decide) (by decide), show (0 : Int32).toNatClampNeg = 0 from by decide]
  · have c1' : ¬ nI (cProgL n tx 4 (sp0 h)).2.1 = nI n := fun e => c1 ((nI_eq (by have := hb.1; omega) (by omega)).mp e)
    simp only [e_29_46, e_29_47, e_29_50, e_29_51, e_29_54, e_29_77, e_29_78, true_and, and_true, and_self, false_and, and_false, if_true, if_false, ↓reduceIte, Nat.add_eq_left, Nat.left_eq_add, Nat.add_left_cancel_iff, not_false_eq_true, not_true_eq_false, i_pc, List.cons_append, List.nil_append, List.length_cons, List.length_nil, Nat.reduceEqDiff, Nat.reduceAdd, Nat.reduceMul, Nat.reduceSub, Nat.reduceLeDiff, Nat.reduceLT, Int32.reduceLT, Int32.reduceLE, Int32.reduceAdd, Int32.reduceSub, reduceCtorEq, true_or, or_true, or_false, false_or, ne_eq, Nat.zero_le, th_K, th_67S, th_66, k6, h6, c1']
end TJ

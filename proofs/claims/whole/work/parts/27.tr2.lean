-- the translator's expressions: its own functions, and the methods answer as they do
def sAt (b : Nat) (s : TS) : TS := (b, s.2)
def aA (s : TS) : Nat → Int32 := s.2.2.2.2.2.2.2
def sArg (k : Nat) (v : Int32) : TS → TS
  | (a, z, l, I, H, S, P, A) => (a, z, l, I, H, S, P, up A k v)
section TB
variable {xs : Nat → Int32} {L d : Nat} {h : Hp} {res : Res} {n : Nat} {tx : Nat → Int32} {s : TS}
theorem th_67S : hI (tH h s) 6 7 = nI s.1 := by
  obtain ⟨a, z, l, I, H, S, P, A⟩ := s
  exact th_67
theorem th_68S : hI (tH h s) 6 8 = nI s.2.1 := by
  obtain ⟨a, z, l, I, H, S, P, A⟩ := s
  exact th_68
theorem th_69S : hI (tH h s) 6 9 = nI s.2.2.1 := by
  obtain ⟨a, z, l, I, H, S, P, A⟩ := s
  exact th_69
theorem th_11S {k : Nat} : hI (tH h s) 11 k = aA s k := by
  obtain ⟨a, z, l, I, H, S, P, A⟩ := s
  exact th_11
theorem tw_atS {b : Nat} : sI (tH h s) 6 7 (nI b) = tH h (sAt b s) := by
  obtain ⟨a, z, l, I, H, S, P, A⟩ := s
  exact tw_at
theorem tw_11S {k : Nat} {v : Int32} : sI (tH h s) 11 k v = tH h (sArg k v s) := by
  obtain ⟨a, z, l, I, H, S, P, A⟩ := s
  exact tw_11
def cNum (n : Nat) (tx : Nat → Int32) : Nat → Int32 → TS → TS
  | 0, v, s => cEmit 1 v s
  | m + 1, v, s => if 48 ≤ pk n tx s.1 ∧ pk n tx s.1 ≤ 57 then cNum n tx m (v * 10 + (pk n tx s.1 - 48)) (sAt (s.1 + 1) s) else cEmit 1 v s
theorem t_num_loop (hT : TI h n tx) : ∀ (m i : Nat) (v : Int32) (s : TS), i + m = 3 → s.1 + m < 2 ^ 31 → s.2.1 < 2 ^ 31 → X xs L (d + 1) 43 (4, [some (.inr (some 6)), some (.inl v), some (.inl (nI i))], [], tH h s) (none, tH h (cNum n tx m v s)) := by
  have k6 : hK h 6 = 7 := hT.1.1
  intro m
  induction m with
  | zero =>
    intro i v s hi ha hz
    have hi3 : i = 3 := by omega
    subst hi3
    simp only [e_43_4, e_43_5, e_43_6, e_43_48, e_43_49, e_43_50, e_43_51, true_and, and_true, and_self, false_and, and_false, if_true, if_false, ↓reduceIte, Nat.add_eq_left, Nat.left_eq_add, Nat.add_left_cancel_iff, not_false_eq_true, not_true_eq_false, i_pc, List.cons_append, List.nil_append, List.length_cons, List.length_nil, Nat.reduceEqDiff, Nat.reduceAdd, Nat.reduceMul, Nat.reduceSub, Nat.reduceLeDiff, Nat.reduceLT, Int32.reduceLT, Int32.reduceLE, Int32.reduceAdd, Int32.reduceSub, reduceCtorEq, true_or, or_true, or_false, false_or, ne_eq, Nat.zero_le, th_K, k6, show ((3 : Int32) ≤ nI 3) = True from by decide]
    refine ⟨_, t_emitS hT hz, ?_⟩
    simp only [e_43_54, true_and, and_true, and_self, false_and, and_false, if_true, if_false, ↓reduceIte, Nat.add_eq_left, Nat.left_eq_add, Nat.add_left_cancel_iff, not_false_eq_true, not_true_eq_false, i_pc, List.cons_append, List.nil_append, List.length_cons, List.length_nil, Nat.reduceEqDiff, Nat.reduceAdd, Nat.reduceMul, Nat.reduceSub, Nat.reduceLeDiff, Nat.reduceLT, Int32.reduceLT, Int32.reduceLE, Int32.reduceAdd, Int32.reduceSub, reduceCtorEq, true_or, or_true, or_false, false_or, ne_eq, Nat.zero_le, Option.toList]
    rfl
  | succ m ih =>
    intro i v s hi ha hz
    have h1 : ¬ (3 : Int32) ≤ nI i := nI_ge (b := 3) (by omega) (by decide)
    rw [e_43_4]
    simp only [e_43_5, e_43_6, e_43_9, e_43_10, true_and, and_true, and_self, false_and, and_false, if_true, if_false, ↓reduceIte, Nat.add_eq_left, Nat.left_eq_add, Nat.add_left_cancel_iff, not_false_eq_true, not_true_eq_false, i_pc, List.cons_append, List.nil_append, List.length_cons, List.length_nil, Nat.reduceEqDiff, Nat.reduceAdd, Nat.reduceMul, Nat.reduceSub, Nat.reduceLeDiff, Nat.reduceLT, Int32.reduceLT, Int32.reduceLE, Int32.reduceAdd, Int32.reduceSub, reduceCtorEq, true_or, or_true, or_false, false_or, ne_eq, Nat.zero_le, th_K, k6, h1]
    refine ⟨_, t_peekS hT (by omega), ?_⟩
    simp only [e_43_13, true_and, and_true, and_self, false_and, and_false, if_true, if_false, ↓reduceIte, Nat.add_eq_left, Nat.left_eq_add, Nat.add_left_cancel_iff, not_false_eq_true, not_true_eq_false, i_pc, List.cons_append, List.nil_append, List.length_cons, List.length_nil, Nat.reduceEqDiff, Nat.reduceAdd, Nat.reduceMul, Nat.reduceSub, Nat.reduceLeDiff, Nat.reduceLT, Int32.reduceLT, Int32.reduceLE, Int32.reduceAdd, Int32.reduceSub, reduceCtorEq, true_or, or_true, or_false, false_or, ne_eq, Nat.zero_le, Option.toList]
    refine ⟨_, t_isDig, ?_⟩
    unfold cNum
    by_cases h2 : 48 ≤ pk n tx s.1 ∧ pk n tx s.1 ≤ 57
    · rw [if_pos h2]
      simp only [e_43_16, e_43_19, e_43_20, e_43_22, e_43_23, e_43_24, true_and, and_true, and_self, false_and, and_false, if_true, if_false, ↓reduceIte, Nat.add_eq_left, Nat.left_eq_add, Nat.add_left_cancel_iff, not_false_eq_true, not_true_eq_false, i_pc, List.cons_append, List.nil_append, List.length_cons, List.length_nil, Nat.reduceEqDiff, Nat.reduceAdd, Nat.reduceMul, Nat.reduceSub, Nat.reduceLeDiff, Nat.reduceLT, Int32.reduceLT, Int32.reduceLE, Int32.reduceAdd, Int32.reduceSub, reduceCtorEq, true_or, or_true, or_false, false_or, ne_eq, Nat.zero_le, th_K, k6, Option.toList, bI_t h2, show ((1 : Int32) = 0) = False from by decide]
      refine ⟨_, t_peekS hT (by omega), ?_⟩
      simp only [e_43_27, e_43_29, e_43_30, e_43_31, e_43_32, e_43_33, e_43_34, e_43_37, e_43_38, e_43_39, e_43_42, e_43_45, true_and, and_true, and_self, false_and, and_false, if_true, if_false, ↓reduceIte, Nat.add_eq_left, Nat.left_eq_add, Nat.add_left_cancel_iff, not_false_eq_true, not_true_eq_false, i_pc, List.cons_append, List.nil_append, List.length_cons, List.length_nil, Nat.reduceEqDiff, Nat.reduceAdd, Nat.reduceMul, Nat.reduceSub, Nat.reduceLeDiff, Nat.reduceLT, Int32.reduceLT, Int32.reduceLE, Int32.reduceAdd, Int32.reduceSub, reduceCtorEq, true_or, or_true, or_false, false_or, ne_eq, Nat.zero_le, th_K, k6, Option.toList, th_67S, tw_atS, nI_1]
      exact ih (i + 1) _ _ (by omega) (by show s.1 + 1 + m < 2 ^ 31; omega) hz
    · rw [if_neg h2]
      simp only [e_43_16, e_43_48, e_43_49, e_43_50, e_43_51, true_and, and_true, and_self, false_and, and_false, if_true, if_false, ↓reduceIte, Nat.add_eq_left, Nat.left_eq_add, Nat.add_left_cancel_iff, not_false_eq_true, not_true_eq_false, i_pc, List.cons_append, List.nil_append, List.length_cons, List.length_nil, Nat.reduceEqDiff, Nat.reduceAdd, Nat.reduceMul, Nat.reduceSub, Nat.reduceLeDiff, Nat.reduceLT, Int32.reduceLT, Int32.reduceLE, Int32.reduceAdd, Int32.reduceSub, reduceCtorEq, true_or, or_true, or_false, false_or, ne_eq, Nat.zero_le, th_K, k6, Option.toList, bI_f h2]
      refine ⟨_, t_emitS hT hz, ?_⟩
      simp only [e_43_54, true_and, and_true, and_self, false_and, and_false, if_true, if_false, ↓reduceIte, Nat.add_eq_left, Nat.left_eq_add, Nat.add_left_cancel_iff, not_false_eq_true, not_true_eq_false, i_pc, List.cons_append, List.nil_append, List.length_cons, List.length_nil, Nat.reduceEqDiff, Nat.reduceAdd, Nat.reduceMul, Nat.reduceSub, Nat.reduceLeDiff, Nat.reduceLT, Int32.reduceLT, Int32.reduceLE, Int32.reduceAdd, Int32.reduceSub, reduceCtorEq, true_or, or_true, or_false, false_or, ne_eq, Nat.zero_le, Option.toList]
theorem t_num (hT : TI h n tx) (ha : s.1 + 3 < 2 ^ 31) (hz : s.2.1 < 2 ^ 31) : Rn xs L (d + 2) 43 [.inr (some 6)] (tH h s) (none, tH h (cNum n tx 3 0 s)) := by
  rw [i_rn]
  show X xs L (d + 1) 43 (0, [some (.inr (some 6)), none, none], [], _) _
  simp only [e_43_0, e_43_1, e_43_2, e_43_3, true_and, and_true, and_self, false_and, and_false, if_true, if_false, ↓reduceIte, Nat.add_eq_left, Nat.left_eq_add, Nat.add_left_cancel_iff, not_false_eq_true, not_true_eq_false, i_pc, List.cons_append, List.nil_append, List.length_cons, List.length_nil, Nat.reduceEqDiff, Nat.reduceAdd, Nat.reduceMul, Nat.reduceSub, Nat.reduceLeDiff, Nat.reduceLT, Int32.reduceLT, Int32.reduceLE, Int32.reduceAdd, Int32.reduceSub, reduceCtorEq, true_or, or_true, or_false, false_or, ne_eq, Nat.zero_le]
  exact t_num_loop hT 3 0 0 s (by omega) ha hz
/-- a call with cnt arguments is read -/
def cCall (f cnt : Nat) (s : TS) : Bool × TS := if aA s f = -1 ∨ aA s f = nI cnt then (true, cEmit 4 (nI f) (sArg f (nI cnt) s)) else (false, s)
def cArgL (n : Nat) (tx : Nat → Int32) (E : TS → Bool × TS) (f : Nat) : Nat → Nat → TS → Bool × TS
  | 0, _, s => (false, s)
  | m + 1, cnt, s => if (E s).1 then (if (cTakes n tx 44 (E s).2).1 then cArgL n tx E f m (cnt + 1) (cTakes n tx 44 (E s).2).2 else if (cTakes n tx 41 (cTakes n tx 44 (E s).2).2).1 then cCall f (cnt + 1) (cTakes n tx 41 (cTakes n tx 44 (E s).2).2).2 else cTakes n tx 41 (cTakes n tx 44 (E s).2).2) else E s
def cArgs (n : Nat) (tx : Nat → Int32) (E : TS → Bool × TS) (f : Nat) (s : TS) : Bool × TS := if (cTakes n tx 41 s).1 then cCall f 0 (cTakes n tx 41 s).2 else cArgL n tx E f 3 0 (cTakes n tx 41 s).2
/-- the bounds that every state keeps while reading goes well -/
def Bd (n : Nat) (s : TS) : Prop := s.1 ≤ n ∧ s.2.1 ≤ 151 ∧ s.2.2.1 ≤ 40
theorem cTakes_t {c : Int32} (h1 : s.1 < n ∧ tx s.1 = c) : cTakes n tx c s = (true, sAt (s.1 + 1) s) := by
  obtain ⟨a, z, l, I, H, S, P, A⟩ := s
  exact if_pos h1
theorem cTakes_f {c : Int32} (h1 : ¬ (s.1 < n ∧ tx s.1 = c)) : cTakes n tx c s = (false, s) := by
  obtain ⟨a, z, l, I, H, S, P, A⟩ := s
  exact if_neg h1
theorem bd_takes {c : Int32} (hb : Bd n s) : Bd n (cTakes n tx c s).2 := by
  by_cases h1 : s.1 < n ∧ tx s.1 = c
  · rw [cTakes_t h1]; exact ⟨h1.1, hb.2⟩
  · rw [cTakes_f h1]; exact hb
theorem bd_emit {op x : Int32} (hb : Bd n s) : Bd n (cEmit op x s) := by
  obtain ⟨a, z, l, I, H, S, P, A⟩ := s
  by_cases h1 : z < 151
  · have e : cEmit op x (a, z, l, I, H, S, P, A) = (a, z + 1, l, up I z (iw op x), up H z (-1), S, P, A) := if_pos h1
    rw [e]; exact ⟨hb.1, h1, hb.2.2⟩
  · have e : cEmit op x (a, z, l, I, H, S, P, A) = (a, z, l, I, H, S, P, A) := if_neg h1
    rw [e]; exact hb
theorem bd_arg {k : Nat} {v : Int32} (hb : Bd n s) : Bd n (sArg k v s) := by
  obtain ⟨a, z, l, I, H, S, P, A⟩ := s
  exact hb
theorem bd_call {f cnt : Nat} (hb : Bd n s) : Bd n (cCall f cnt s).2 := by
  unfold cCall
  split
  · exact bd_emit (bd_arg hb)
  · exact hb
theorem bd_num (m : Nat) : ∀ (v : Int32) (s : TS), Bd n s → Bd n (cNum n tx m v s) := by
  induction m with
  | zero => intro v s hb; exact bd_emit hb
  | succ m ih =>
    intro v s hb
    unfold cNum
    by_cases h1 : 48 ≤ pk n tx s.1 ∧ pk n tx s.1 ≤ 57
    · rw [if_pos h1]
      refine ih _ _ ⟨?_, hb.2⟩
      show s.1 + 1 ≤ n
      by_cases h2 : s.1 < n
      · omega
      · unfold pk at h1
        rw [if_neg h2] at h1
        exact absurd h1.1 (by decide)
    · rw [if_neg h1]; exact bd_emit hb
theorem bI_tt : bI true = 1 := rfl
theorem bI_ff : bI false = 0 := rfl
theorem t_call {f cnt : Nat} {a2 : Option AV} (hT : TI h n tx) (hb : Bd n s) (hf : f < 4) (hn : n ≤ 150) : X xs L (d + 1) 44 (65, [some (.inr (some 6)), some (.inl (nI f)), a2, some (.inl (nI cnt)), some (.inl 0)], [], tH h s) (some (.inl (bI (cCall f cnt s).1)), tH h (cCall f cnt s).2) := by
  have h1 : vp_in (nI f) 4 := vin hf (by decide)
  have h0 := hT
  obtain ⟨⟨k6, r0, r1, r2, r3, r4, r5⟩, ⟨k7, k8, k9, k10, k11, k5⟩, ⟨l7, l8, l9, l10, l11, l5⟩, h6, hn, htx⟩ := hT
  unfold cCall
  have hz : (sArg f (nI cnt) s).2.1 < 2 ^ 31 := by have := (bd_arg (k := f) (v := nI cnt) hb).2; omega
  by_cases h2 : aA s f = -1
  · rw [if_pos (Or.inl h2)]
    simp only [e_44_65, e_44_67, e_44_70, e_44_71, e_44_74, e_44_75, e_44_76, e_44_77, e_44_92, e_44_93, e_44_96, e_44_97, e_44_98, e_44_99, e_44_100, e_44_101, e_44_102, true_and, and_true, and_self, false_and, and_false, if_true, if_false, ↓reduceIte, Nat.add_eq_left, Nat.left_eq_add, Nat.add_left_cancel_iff, not_false_eq_true, not_true_eq_false, i_pc, List.cons_append, List.nil_append, List.length_cons, List.length_nil, Nat.reduceEqDiff, Nat.reduceAdd, Nat.reduceMul, Nat.reduceSub, Nat.reduceLeDiff, Nat.reduceLT, Int32.reduceLT, Int32.reduceLE, Int32.reduceAdd, Int32.reduceSub, reduceCtorEq, true_or, or_true, or_false, false_or, ne_eq, Nat.zero_le, th_K, th_L, th_R, th_11S, tw_11S, k6, r4, k11, l11, h1, h2, nI_cl (show f < 2 ^ 31 by omega)]
    refine ⟨_, t_emitS h0 hz, ?_⟩
    simp only [e_44_105, e_44_106, true_and, and_true, and_self, false_and, and_false, if_true, if_false, ↓reduceIte, Nat.add_eq_left, Nat.left_eq_add, Nat.add_left_cancel_iff, not_false_eq_true, not_true_eq_false, i_pc, List.cons_append, List.nil_append, List.length_cons, List.length_nil, Nat.reduceEqDiff, Nat.reduceAdd, Nat.reduceMul, Nat.reduceSub, Nat.reduceLeDiff, Nat.reduceLT, Int32.reduceLT, Int32.reduceLE, Int32.reduceAdd, Int32.reduceSub, reduceCtorEq, true_or, or_true, or_false, false_or, ne_eq, Nat.zero_le, Option.toList, bI_tt]
  · by_cases h3 : aA s f = nI cnt
    · rw [if_pos (Or.inr h3)]
      rw [h3] at h2
      simp only [e_44_65, e_44_67, e_44_70, e_44_71, e_44_74, e_44_75, e_44_76, e_44_77, e_44_80, e_44_81, e_44_84, e_44_85, e_44_86, e_44_87, e_44_90, e_44_91, e_44_92, e_44_93, e_44_96, e_44_97, e_44_98, e_44_99, e_44_100, e_44_101, e_44_102, true_and, and_true, and_self, false_and, and_false, if_true, if_false, ↓reduceIte, Nat.add_eq_left, Nat.left_eq_add, Nat.add_left_cancel_iff, not_false_eq_true, not_true_eq_false, i_pc, List.cons_append, List.nil_append, List.length_cons, List.length_nil, Nat.reduceEqDiff, Nat.reduceAdd, Nat.reduceMul, Nat.reduceSub, Nat.reduceLeDiff, Nat.reduceLT, Int32.reduceLT, Int32.reduceLE, Int32.reduceAdd, Int32.reduceSub, reduceCtorEq, true_or, or_true, or_false, false_or, ne_eq, Nat.zero_le, th_K, th_L, th_R, th_11S, tw_11S, k6, r4, k11, l11, h1, h2, h3, nI_cl (show f < 2 ^ 31 by omega)]
      refine ⟨_, t_emitS h0 hz, ?_⟩
      simp only [e_44_105, e_44_106, true_and, and_true, and_self, false_and, and_false, if_true, if_false, ↓reduceIte, Nat.add_eq_left, Nat.left_eq_add, Nat.add_left_cancel_iff, not_false_eq_true, not_true_eq_false, i_pc, List.cons_append, List.nil_append, List.length_cons, List.length_nil, Nat.reduceEqDiff, Nat.reduceAdd, Nat.reduceMul, Nat.reduceSub, Nat.reduceLeDiff, Nat.reduceLT, Int32.reduceLT, Int32.reduceLE, Int32.reduceAdd, Int32.reduceSub, reduceCtorEq, true_or, or_true, or_false, false_or, ne_eq, Nat.zero_le, Option.toList, bI_tt]
    · rw [if_neg (fun e => e.elim h2 h3)]
      simp only [e_44_65, e_44_67, e_44_70, e_44_71, e_44_74, e_44_75, e_44_76, e_44_77, e_44_80, e_44_81, e_44_84, e_44_85, e_44_86, e_44_87, e_44_90, e_44_91, true_and, and_true, and_self, false_and, and_false, if_true, if_false, ↓reduceIte, Nat.add_eq_left, Nat.left_eq_add, Nat.add_left_cancel_iff, not_false_eq_true, not_true_eq_false, i_pc, List.cons_append, List.nil_append, List.length_cons, List.length_nil, Nat.reduceEqDiff, Nat.reduceAdd, Nat.reduceMul, Nat.reduceSub, Nat.reduceLeDiff, Nat.reduceLT, Int32.reduceLT, Int32.reduceLE, Int32.reduceAdd, Int32.reduceSub, reduceCtorEq, true_or, or_true, or_false, false_or, ne_eq, Nat.zero_le, th_K, th_L, th_R, th_11S, tw_11S, k6, r4, k11, l11, h1, h2, h3, nI_cl (show f < 2 ^ 31 by omega), bI_ff]
/-- what readExpression must do, one bracket deeper -/
def ES (xs : Nat → Int32) (L d : Nat) (h : Hp) (n : Nat) (dep : Nat) (E : TS → Bool × TS) : Prop := ∀ s : TS, Bd n s → Rn xs L d 41 [.inr (some 6), .inl (nI dep)] (tH h s) (some (.inl (bI (E s).1)), tH h (E s).2) ∧ ((E s).1 = true → Bd n (E s).2)
theorem t_arg_loop {E : TS → Bool × TS} {f dep : Nat} (hT : TI h n tx) (hf : f < 4) (hE : ES xs L (d + 1) h n dep E) : ∀ (m cnt : Nat) (s : TS), cnt + m = 3 → Bd n s → X xs L (d + 1) 44 (18, [some (.inr (some 6)), some (.inl (nI f)), some (.inl (nI dep)), some (.inl (nI cnt)), some (.inl 1)], [], tH h s) (some (.inl (bI (cArgL n tx E f m cnt s).1)), tH h (cArgL n tx E f m cnt s).2) := by
  have k6 : hK h 6 = 7 := hT.1.1
  have hn : n ≤ 150 := hT.2.2.2.2.1
  intro m
  induction m with
  | zero =>
    intro cnt s hc hb
    have hc3 : cnt = 3 := by omega
    subst hc3
    unfold cArgL
    simp only [e_44_18, e_44_20, e_44_23, e_44_24, e_44_25, e_44_65, e_44_67, e_44_90, e_44_91, true_and, and_true, and_self, false_and, and_false, if_true, if_false, ↓reduceIte, Nat.add_eq_left, Nat.left_eq_add, Nat.add_left_cancel_iff, not_false_eq_true, not_true_eq_false, i_pc, List.cons_append, List.nil_append, List.length_cons, List.length_nil, Nat.reduceEqDiff, Nat.reduceAdd, Nat.reduceMul, Nat.reduceSub, Nat.reduceLeDiff, Nat.reduceLT, Int32.reduceLT, Int32.reduceLE, Int32.reduceAdd, Int32.reduceSub, reduceCtorEq, true_or, or_true, or_false, false_or, ne_eq, Nat.zero_le, show ((1 : Int32) = 0) = False from by decide, show ((3 : Int32) ≤ nI 3) = True from by decide, bI_ff]
  | succ m ih =>
    intro cnt s hc hb
    have h1 : ¬ (3 : Int32) ≤ nI cnt := nI_ge (b := 3) (by omega) (by decide)
    obtain ⟨hr, hb2⟩ := hE s hb
    rw [e_44_18]
    unfold cArgL
    simp only [e_44_20, e_44_23, e_44_24, e_44_25, e_44_28, e_44_29, e_44_30, true_and, and_true, and_self, false_and, and_false, if_true, if_false, ↓reduceIte, Nat.add_eq_left, Nat.left_eq_add, Nat.add_left_cancel_iff, not_false_eq_true, not_true_eq_false, i_pc, List.cons_append, List.nil_append, List.length_cons, List.length_nil, Nat.reduceEqDiff, Nat.reduceAdd, Nat.reduceMul, Nat.reduceSub, Nat.reduceLeDiff, Nat.reduceLT, Int32.reduceLT, Int32.reduceLE, Int32.reduceAdd, Int32.reduceSub, reduceCtorEq, true_or, or_true, or_false, false_or, ne_eq, Nat.zero_le, th_K, k6, h1, show ((1 : Int32) = 0) = False from by decide]
    refine ⟨_, hr, ?_⟩
    cases he : (E s).1 with
    | false => simp only [e_44_33, e_44_36, e_44_37, true_and, and_true, and_self, false_and, and_false, if_true, if_false, ↓reduceIte, Nat.add_eq_left, Nat.left_eq_add, Nat.add_left_cancel_iff, not_false_eq_true, not_true_eq_false, i_pc, List.cons_append, List.nil_append, List.length_cons, List.length_nil, Nat.reduceEqDiff, Nat.reduceAdd, Nat.reduceMul, Nat.reduceSub, Nat.reduceLeDiff, Nat.reduceLT, Int32.reduceLT, Int32.reduceLE, Int32.reduceAdd, Int32.reduceSub, reduceCtorEq, true_or, or_true, or_false, false_or, ne_eq, Nat.zero_le, Option.toList, bI_ff, he, Bool.false_eq_true]
    | true =>
      have hb3 : Bd n (E s).2 := hb2 he
      simp only [e_44_33, e_44_38, e_44_41, e_44_42, e_44_44, true_and, and_true, and_self, false_and, and_false, if_true, if_false, ↓reduceIte, Nat.add_eq_left, Nat.left_eq_add, Nat.add_left_cancel_iff, not_false_eq_true, not_true_eq_false, i_pc, List.cons_append, List.nil_append, List.length_cons, List.length_nil, Nat.reduceEqDiff, Nat.reduceAdd, Nat.reduceMul, Nat.reduceSub, Nat.reduceLeDiff, Nat.reduceLT, Int32.reduceLT, Int32.reduceLE, Int32.reduceAdd, Int32.reduceSub, reduceCtorEq, true_or, or_true, or_false, false_or, ne_eq, Nat.zero_le, Option.toList, bI_tt, th_K, k6, nI_1, show ((1 : Int32) = 0) = False from by decide]
      refine ⟨_, t_takesS hT (by have := hb3.1; omega), ?_⟩
      have hb4 := bd_takes (n := n) (tx := tx) (c := 44) hb3
      cases ht : (cTakes n tx 44 (E s).2).1 with
      | true =>
        simp only [e_44_47, e_44_49, e_44_51, true_and, and_true, and_self, false_and, and_false, if_true, if_false, ↓reduceIte, Nat.add_eq_left, Nat.left_eq_add, Nat.add_left_cancel_iff, not_false_eq_true, not_true_eq_false, i_pc, List.cons_append, List.nil_append, List.length_cons, List.length_nil, Nat.reduceEqDiff, Nat.reduceAdd, Nat.reduceMul, Nat.reduceSub, Nat.reduceLeDiff, Nat.reduceLT, Int32.reduceLT, Int32.reduceLE, Int32.reduceAdd, Int32.reduceSub, reduceCtorEq, true_or, or_true, or_false, false_or, ne_eq, Nat.zero_le, Option.toList, bI_tt, show ((1 : Int32) = 0) = False from by decide]
        exact ih (cnt + 1) _ (by omega) hb4
      | false =>
        simp only [e_44_47, e_44_49, e_44_51, e_44_54, e_44_55, e_44_57, true_and, and_true, and_self, false_and, and_false, if_true, if_false, ↓reduceIte, Nat.add_eq_left, Nat.left_eq_add, Nat.add_left_cancel_iff, not_false_eq_true, not_true_eq_false, i_pc, List.cons_append, List.nil_append, List.length_cons, List.length_nil, Nat.reduceEqDiff, Nat.reduceAdd, Nat.reduceMul, Nat.reduceSub, Nat.reduceLeDiff, Nat.reduceLT, Int32.reduceLT, Int32.reduceLE, Int32.reduceAdd, Int32.reduceSub, reduceCtorEq, true_or, or_true, or_false, false_or, ne_eq, Nat.zero_le, Option.toList, bI_ff, th_K, k6, Bool.false_eq_true]
        refine ⟨_, t_takesS hT (by have := hb4.1; omega), ?_⟩
        have hb5 := bd_takes (n := n) (tx := tx) (c := 41) hb4
        cases ht2 : (cTakes n tx 41 (cTakes n tx 44 (E s).2).2).1 with
        | true =>
          simp only [e_44_60, e_44_18, e_44_20, true_and, and_true, and_self, false_and, and_false, if_true, if_false, ↓reduceIte, Nat.add_eq_left, Nat.left_eq_add, Nat.add_left_cancel_iff, not_false_eq_true, not_true_eq_false, i_pc, List.cons_append, List.nil_append, List.length_cons, List.length_nil, Nat.reduceEqDiff, Nat.reduceAdd, Nat.reduceMul, Nat.reduceSub, Nat.reduceLeDiff, Nat.reduceLT, Int32.reduceLT, Int32.reduceLE, Int32.reduceAdd, Int32.reduceSub, reduceCtorEq, true_or, or_true, or_false, false_or, ne_eq, Nat.zero_le, Option.toList, bI_tt, show ((1 : Int32) = 0) = False from by decide]
          exact t_call hT hb5 hf hn
        | false =>
          simp only [e_44_60, e_44_63, e_44_64, true_and, and_true, and_self, false_and, and_false, if_true, if_false, ↓reduceIte, Nat.add_eq_left, Nat.left_eq_add, Nat.add_left_cancel_iff, not_false_eq_true, not_true_eq_false, i_pc, List.cons_append, List.nil_append, List.length_cons, List.length_nil, Nat.reduceEqDiff, Nat.reduceAdd, Nat.reduceMul, Nat.reduceSub, Nat.reduceLeDiff, Nat.reduceLT, Int32.reduceLT, Int32.reduceLE, Int32.reduceAdd, Int32.reduceSub, reduceCtorEq, true_or, or_true, or_false, false_or, ne_eq, Nat.zero_le, Option.toList, bI_ff, ht2, Bool.false_eq_true]
theorem t_args {E : TS → Bool × TS} {f dep : Nat} (hT : TI h n tx) (hf : f < 4) (hE : ES xs L (d + 1) h n dep E) (hb : Bd n s) : Rn xs L (d + 2) 44 [.inr (some 6), .inl (nI f), .inl (nI dep)] (tH h s) (some (.inl (bI (cArgs n tx E f s).1)), tH h (cArgs n tx E f s).2) := by
  have k6 : hK h 6 = 7 := hT.1.1
  have hn : n ≤ 150 := hT.2.2.2.2.1
  rw [i_rn]
  show X xs L (d + 1) 44 (0, [some (.inr (some 6)), some (.inl (nI f)), some (.inl (nI dep)), none, none], [], _) _
  simp only [e_44_0, e_44_1, e_44_2, e_44_3, e_44_5, true_and, and_true, and_self, false_and, and_false, if_true, if_false, ↓reduceIte, Nat.add_eq_left, Nat.left_eq_add, Nat.add_left_cancel_iff, not_false_eq_true, not_true_eq_false, i_pc, List.cons_append, List.nil_append, List.length_cons, List.length_nil, Nat.reduceEqDiff, Nat.reduceAdd, Nat.reduceMul, Nat.reduceSub, Nat.reduceLeDiff, Nat.reduceLT, Int32.reduceLT, Int32.reduceLE, Int32.reduceAdd, Int32.reduceSub, reduceCtorEq, true_or, or_true, or_false, false_or, ne_eq, Nat.zero_le, th_K, k6]
  refine ⟨_, t_takesS hT (by have := hb.1; omega), ?_⟩
  have hb4 := bd_takes (n := n) (tx := tx) (c := 41) hb
  unfold cArgs
  cases ht : (cTakes n tx 41 s).1 with
  | true =>
    simp only [e_44_8, e_44_11, e_44_12, e_44_15, e_44_16, e_44_18, e_44_20, true_and, and_true, and_self, false_and, and_false, if_true, if_false, ↓reduceIte, Nat.add_eq_left, Nat.left_eq_add, Nat.add_left_cancel_iff, not_false_eq_true, not_true_eq_false, i_pc, List.cons_append, List.nil_append, List.length_cons, List.length_nil, Nat.reduceEqDiff, Nat.reduceAdd, Nat.reduceMul, Nat.reduceSub, Nat.reduceLeDiff, Nat.reduceLT, Int32.reduceLT, Int32.reduceLE, Int32.reduceAdd, Int32.reduceSub, reduceCtorEq, true_or, or_true, or_false, false_or, ne_eq, Nat.zero_le, Option.toList, bI_tt, show ((1 : Int32) = 0) = False from by decide]
    exact t_call (cnt := 0) hT hb4 hf hn
  | false =>
    simp only [e_44_8, e_44_11, e_44_12, e_44_15, e_44_16, true_and, and_true, and_self, false_and, and_false, if_true, if_false, ↓reduceIte, Nat.add_eq_left, Nat.left_eq_add, Nat.add_left_cancel_iff, not_false_eq_true, not_true_eq_false, i_pc, List.cons_append, List.nil_append, List.length_cons, List.length_nil, Nat.reduceEqDiff, Nat.reduceAdd, Nat.reduceMul, Nat.reduceSub, Nat.reduceLeDiff, Nat.reduceLT, Int32.reduceLT, Int32.reduceLE, Int32.reduceAdd, Int32.reduceSub, reduceCtorEq, true_or, or_true, or_false, false_or, ne_eq, Nat.zero_le, Option.toList, bI_ff, Bool.false_eq_true]
    exact t_arg_loop hT hf hE 3 0 _ (by omega) hb4
end TB

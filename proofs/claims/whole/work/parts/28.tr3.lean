-- the translator's terms and expressions
def cTerm (n : Nat) (tx : Nat → Int32) (E : TS → Bool × TS) (k : Nat) (s : TS) : Bool × TS :=
  if 48 ≤ pk n tx s.1 ∧ pk n tx s.1 ≤ 57 then (true, cNum n tx 3 0 s)
  else if 97 ≤ pk n tx s.1 ∧ pk n tx s.1 < 103 then (true, cEmit 2 (pk n tx s.1 - 97) (sAt (s.1 + 1) s))
  else if 65 ≤ pk n tx s.1 ∧ pk n tx s.1 < 69 then (if k = 0 then (false, sAt (s.1 + 1) s) else if (cTakes n tx 40 (sAt (s.1 + 1) s)).1 then cArgs n tx E (pk n tx s.1 - 65).toNatClampNeg (cTakes n tx 40 (sAt (s.1 + 1) s)).2 else cTakes n tx 40 (sAt (s.1 + 1) s))
  else if pk n tx s.1 = 40 ∧ ¬ k = 0 then (if (E (sAt (s.1 + 1) s)).1 then cTakes n tx 41 (E (sAt (s.1 + 1) s)).2 else E (sAt (s.1 + 1) s))
  else (false, sAt (s.1 + 1) s)
def cLoop (n : Nat) (tx : Nat → Int32) (Tm : TS → Bool × TS) : Nat → TS → Bool × TS
  | 0, s => (false, s)
  | m + 1, s => if isOp (pk n tx s.1) = true then (if (Tm (sAt (s.1 + 1) s)).1 then cLoop n tx Tm m (cEmit 3 (pk n tx s.1) (Tm (sAt (s.1 + 1) s)).2) else Tm (sAt (s.1 + 1) s)) else (true, s)
def cEx (n : Nat) (tx : Nat → Int32) (Tm : TS → Bool × TS) (s : TS) : Bool × TS := if (Tm s).1 then cLoop n tx Tm 150 (Tm s).2 else Tm s
def cE (n : Nat) (tx : Nat → Int32) : Nat → TS → Bool × TS
  | 0 => cEx n tx (cTerm n tx (fun s => (false, s)) 0)
  | k + 1 => cEx n tx (cTerm n tx (cE n tx k) (k + 1))
section TC
variable {xs : Nat → Int32} {L d : Nat} {h : Hp} {res : Res} {n : Nat} {tx : Nat → Int32} {s : TS}
theorem pk_at {p : Nat} (hp : ¬ pk n tx p = 0) : p < n := by
  by_cases h1 : p < n
  · exact h1
  · exact absurd (if_neg h1) hp
theorem pk_lo {p : Nat} {c : Int32} (hc : (0 : Int32) < c) (hp : c ≤ pk n tx p) : p < n := pk_at (fun e => by rw [e] at hp; exact absurd hc (Int32.not_lt.mpr hp))
theorem fun_ix {c : Int32} (h1 : 65 ≤ c) (h2 : c < 69) : ∃ f, f < 4 ∧ c = nI (65 + f) := by
  have e1 : (65 : Int32).toInt ≤ c.toInt := Int32.le_iff_toInt_le.mp h1
  have e2 : c.toInt < (69 : Int32).toInt := Int32.lt_iff_toInt_lt.mp h2
  have e3 : (65 : Int32).toInt = 65 := by decide
  have e4 : (69 : Int32).toInt = 69 := by decide
  refine ⟨c.toInt.toNat - 65, by omega, ?_⟩
  rw [← Int32.toInt_inj, nI_toInt (by omega)]
  omega
theorem bd_at (hb : Bd n s) (hp : s.1 < n) : Bd n (sAt (s.1 + 1) s) := ⟨hp, hb.2⟩
def EB (n : Nat) (E : TS → Bool × TS) : Prop := ∀ s : TS, Bd n s → (E s).1 = true → Bd n (E s).2
theorem bd_argl {E : TS → Bool × TS} {f : Nat} (hE : EB n E) : ∀ (m cnt : Nat) (s : TS), Bd n s → (cArgL n tx E f m cnt s).1 = true → Bd n (cArgL n tx E f m cnt s).2 := by
  intro m
  induction m with
  | zero => intro cnt s hb h1; exact hb
  | succ m ih =>
    intro cnt s hb
    unfold cArgL
    cases he : (E s).1 with
    | false => intro h1; simp only [he, Bool.false_eq_true, if_false] at h1
    | true =>
      have hb3 := hE s hb he
      have hb4 := bd_takes (n := n) (tx := tx) (c := 44) hb3
      simp only [if_true]
      cases ht : (cTakes n tx 44 (E s).2).1 with
      | true => intro h1; simp only [if_true] at h1 ⊢; exact ih _ _ hb4 h1
      | false =>
        have hb5 := bd_takes (n := n) (tx := tx) (c := 41) hb4
        simp only [Bool.false_eq_true, if_false]
        split
        · intro _; exact bd_call hb5
        · intro _; exact hb5
theorem bd_args {E : TS → Bool × TS} {f : Nat} (hE : EB n E) (hb : Bd n s) (h1 : (cArgs n tx E f s).1 = true) : Bd n (cArgs n tx E f s).2 := by
  have hb4 := bd_takes (n := n) (tx := tx) (c := 41) hb
  unfold cArgs at h1 ⊢
  split at h1
  · next e => rw [if_pos e]; exact bd_call hb4
  · next e => rw [if_neg e]; exact bd_argl hE _ _ _ hb4 h1
theorem bd_term {E : TS → Bool × TS} {k : Nat} (hE : EB n E) : EB n (cTerm n tx E k) := by
  intro s hb h1
  unfold cTerm at h1 ⊢
  by_cases c1 : 48 ≤ pk n tx s.1 ∧ pk n tx s.1 ≤ 57
  · rw [if_pos c1]; exact bd_num 3 0 s hb
  rw [if_neg c1] at h1 ⊢
  by_cases c2 : 97 ≤ pk n tx s.1 ∧ pk n tx s.1 < 103
  · rw [if_pos c2]; exact bd_emit (bd_at hb (pk_lo (by decide) c2.1))
  rw [if_neg c2] at h1 ⊢
  by_cases c3 : 65 ≤ pk n tx s.1 ∧ pk n tx s.1 < 69
  · rw [if_pos c3] at h1 ⊢
    by_cases c4 : k = 0
    · rw [if_pos c4] at h1; exact absurd h1 Bool.false_ne_true
    rw [if_neg c4] at h1 ⊢
    have hb2 := bd_takes (n := n) (tx := tx) (c := 40) (bd_at hb (pk_lo (by decide) c3.1))
    by_cases c5 : (cTakes n tx 40 (sAt (s.1 + 1) s)).1 = true
    · rw [if_pos c5] at h1 ⊢; exact bd_args hE hb2 h1
    · rw [if_neg c5] at h1 ⊢; exact hb2
  rw [if_neg c3] at h1 ⊢
  by_cases c6 : pk n tx s.1 = 40 ∧ ¬ k = 0
  · rw [if_pos c6] at h1 ⊢
    have hp : s.1 < n := pk_lo (c := 40) (by decide) (by rw [c6.1]; exact Int32.le_refl _)
    by_cases c7 : (E (sAt (s.1 + 1) s)).1 = true
    · rw [if_pos c7]; exact bd_takes (hE _ (bd_at hb hp) c7)
    · rw [if_neg c7] at h1; exact absurd h1 c7
  · rw [if_neg c6] at h1; exact absurd h1 Bool.false_ne_true
theorem isOp_in {p : Nat} (hp : isOp (pk n tx p) = true) : p < n := pk_at (fun e => by rw [e] at hp; exact absurd hp (by decide))
theorem bd_loop {Tm : TS → Bool × TS} (hE : EB n Tm) : ∀ (m : Nat) (s : TS), Bd n s → (cLoop n tx Tm m s).1 = true → Bd n (cLoop n tx Tm m s).2 := by
  intro m
  induction m with
  | zero => intro s hb h1; exact hb
  | succ m ih =>
    intro s hb h1
    unfold cLoop at h1 ⊢
    by_cases c1 : isOp (pk n tx s.1) = true
    · rw [if_pos c1] at h1 ⊢
      by_cases c2 : (Tm (sAt (s.1 + 1) s)).1 = true
      · rw [if_pos c2] at h1 ⊢
        exact ih _ (bd_emit (hE _ (bd_at hb (isOp_in c1)) c2)) h1
      · rw [if_neg c2] at h1; exact absurd h1 c2
    · rw [if_neg c1]; exact hb
theorem bd_ex {Tm : TS → Bool × TS} (hE : EB n Tm) : EB n (cEx n tx Tm) := by
  intro s hb h1
  unfold cEx at h1 ⊢
  by_cases c1 : (Tm s).1 = true
  · rw [if_pos c1] at h1 ⊢; exact bd_loop hE _ _ (hE s hb c1) h1
  · rw [if_neg c1] at h1; exact absurd h1 c1
theorem bd_E : ∀ k, EB n (cE n tx k) := by
  intro k
  induction k with
  | zero => exact bd_ex (bd_term (fun s hb h1 => hb))
  | succ k ih => exact bd_ex (bd_term ih)
theorem t_term {E : TS → Bool × TS} {k dep e : Nat} (hT : TI h n tx) (hk : dep + k = 5) (hE : ¬ k = 0 → ∀ d, ES xs L (d + (e + 1)) h n (dep + 1) E) (hb : Bd n s) : Rn xs L (d + (e + 3)) 42 [.inr (some 6), .inl (nI dep)] (tH h s) (some (.inl (bI (cTerm n tx E k s).1)), tH h (cTerm n tx E k s).2) := by
  have k6 : hK h 6 = 7 := hT.1.1
  have hn : n ≤ 150 := hT.2.2.2.2.1
  have ha : s.1 < 2 ^ 30 := by have := hb.1; omega
  have hz : s.2.1 < 2 ^ 31 := by have := hb.2; omega
  rw [show d + (e + 3) = (d + (e + 2)) + 1 from rfl, i_rn]
  show X xs L (d + (e + 2)) 42 (0, [some (.inr (some 6)), some (.inl (nI dep)), none], [], _) _
  simp only [e_42_0, e_42_1, true_and, and_true, and_self, false_and, and_false, if_true, if_false, ↓reduceIte, Nat.add_eq_left, Nat.left_eq_add, Nat.add_left_cancel_iff, not_false_eq_true, not_true_eq_false, i_pc, List.cons_append, List.nil_append, List.length_cons, List.length_nil, Nat.reduceEqDiff, Nat.reduceAdd, Nat.reduceMul, Nat.reduceSub, Nat.reduceLeDiff, Nat.reduceLT, Int32.reduceLT, Int32.reduceLE, Int32.reduceAdd, Int32.reduceSub, reduceCtorEq, true_or, or_true, or_false, false_or, ne_eq, Nat.zero_le, th_K, k6]
  refine ⟨_, t_peekS hT (by omega), ?_⟩
  simp only [e_42_4, e_42_5, e_42_6, true_and, and_true, and_self, false_and, and_false, if_true, if_false, ↓reduceIte, Nat.add_eq_left, Nat.left_eq_add, Nat.add_left_cancel_iff, not_false_eq_true, not_true_eq_false, i_pc, List.cons_append, List.nil_append, List.length_cons, List.length_nil, Nat.reduceEqDiff, Nat.reduceAdd, Nat.reduceMul, Nat.reduceSub, Nat.reduceLeDiff, Nat.reduceLT, Int32.reduceLT, Int32.reduceLE, Int32.reduceAdd, Int32.reduceSub, reduceCtorEq, true_or, or_true, or_false, false_or, ne_eq, Nat.zero_le, Option.toList]
  refine ⟨_, t_isDig, ?_⟩
  unfold cTerm
  by_cases c1 : 48 ≤ pk n tx s.1 ∧ pk n tx s.1 ≤ 57
  · rw [if_pos c1]
    simp only [e_42_9, e_42_12, e_42_13, true_and, and_true, and_self, false_and, and_false, if_true, if_false, ↓reduceIte, Nat.add_eq_left, Nat.left_eq_add, Nat.add_left_cancel_iff, not_false_eq_true, not_true_eq_false, i_pc, List.cons_append, List.nil_append, List.length_cons, List.length_nil, Nat.reduceEqDiff, Nat.reduceAdd, Nat.reduceMul, Nat.reduceSub, Nat.reduceLeDiff, Nat.reduceLT, Int32.reduceLT, Int32.reduceLE, Int32.reduceAdd, Int32.reduceSub, reduceCtorEq, true_or, or_true, or_false, false_or, ne_eq, Nat.zero_le, Option.toList, th_K, k6, bI_t c1, show ((1 : Int32) = 0) = False from by decide]
    refine ⟨_, t_num (d := d + e) hT (by omega) hz, ?_⟩
    simp only [e_42_16, e_42_17, true_and, and_true, and_self, false_and, and_false, if_true, if_false, ↓reduceIte, Nat.add_eq_left, Nat.left_eq_add, Nat.add_left_cancel_iff, not_false_eq_true, not_true_eq_false, i_pc, List.cons_append, List.nil_append, List.length_cons, List.length_nil, Nat.reduceEqDiff, Nat.reduceAdd, Nat.reduceMul, Nat.reduceSub, Nat.reduceLeDiff, Nat.reduceLT, Int32.reduceLT, Int32.reduceLE, Int32.reduceAdd, Int32.reduceSub, reduceCtorEq, true_or, or_true, or_false, false_or, ne_eq, Nat.zero_le, Option.toList, bI_tt]
  rw [if_neg c1]
  simp only [e_42_9, e_42_18, e_42_19, e_42_20, e_42_23, e_42_24, e_42_25, e_42_28, e_42_29, true_and, and_true, and_self, false_and, and_false, if_true, if_false, ↓reduceIte, Nat.add_eq_left, Nat.left_eq_add, Nat.add_left_cancel_iff, not_false_eq_true, not_true_eq_false, i_pc, List.cons_append, List.nil_append, List.length_cons, List.length_nil, Nat.reduceEqDiff, Nat.reduceAdd, Nat.reduceMul, Nat.reduceSub, Nat.reduceLeDiff, Nat.reduceLT, Int32.reduceLT, Int32.reduceLE, Int32.reduceAdd, Int32.reduceSub, reduceCtorEq, true_or, or_true, or_false, false_or, ne_eq, Nat.zero_le, Option.toList, th_K, k6, bI_f c1, th_67S, tw_atS, nI_1]
  refine ⟨_, t_isVar, ?_⟩
  by_cases c2 : 97 ≤ pk n tx s.1 ∧ pk n tx s.1 < 103
  · rw [if_pos c2]
    simp only [e_42_32, e_42_35, e_42_36, e_42_37, e_42_38, e_42_40, e_42_41, true_and, and_true, and_self, false_and, and_false, if_true, if_false, ↓reduceIte, Nat.add_eq_left, Nat.left_eq_add, Nat.add_left_cancel_iff, not_false_eq_true, not_true_eq_false, i_pc, List.cons_append, List.nil_append, List.length_cons, List.length_nil, Nat.reduceEqDiff, Nat.reduceAdd, Nat.reduceMul, Nat.reduceSub, Nat.reduceLeDiff, Nat.reduceLT, Int32.reduceLT, Int32.reduceLE, Int32.reduceAdd, Int32.reduceSub, reduceCtorEq, true_or, or_true, or_false, false_or, ne_eq, Nat.zero_le, Option.toList, th_K, k6, bI_t c2, show ((1 : Int32) = 0) = False from by decide]
    refine ⟨_, t_emitS hT hz, ?_⟩
    simp only [e_42_44, e_42_45, true_and, and_true, and_self, false_and, and_false, if_true, if_false, ↓reduceIte, Nat.add_eq_left, Nat.left_eq_add, Nat.add_left_cancel_iff, not_false_eq_true, not_true_eq_false, i_pc, List.cons_append, List.nil_append, List.length_cons, List.length_nil, Nat.reduceEqDiff, Nat.reduceAdd, Nat.reduceMul, Nat.reduceSub, Nat.reduceLeDiff, Nat.reduceLT, Int32.reduceLT, Int32.reduceLE, Int32.reduceAdd, Int32.reduceSub, reduceCtorEq, true_or, or_true, or_false, false_or, ne_eq, Nat.zero_le, Option.toList, bI_tt]
  rw [if_neg c2]
  by_cases c3 : 65 ≤ pk n tx s.1 ∧ pk n tx s.1 < 69
  · rw [if_pos c3]
    have c3a : ¬ pk n tx s.1 < 65 := Int32.not_lt.mpr c3.1
    have c3b : ¬ (69 : Int32) ≤ pk n tx s.1 := Int32.not_le.mpr c3.2
    have hp : s.1 < n := pk_lo (by decide) c3.1
    by_cases c4 : k = 0
    · have h5 : (5 : Int32) ≤ nI dep := nI_le (a := 5) (by omega) (by omega)
      rw [if_pos c4]
      simp only [e_42_32, e_42_46, e_42_47, e_42_49, e_42_52, e_42_53, e_42_55, e_42_58, e_42_59, e_42_60, e_42_90, e_42_91, true_and, and_true, and_self, false_and, and_false, if_true, if_false, ↓reduceIte, Nat.add_eq_left, Nat.left_eq_add, Nat.add_left_cancel_iff, not_false_eq_true, not_true_eq_false, i_pc, List.cons_append, List.nil_append, List.length_cons, List.length_nil, Nat.reduceEqDiff, Nat.reduceAdd, Nat.reduceMul, Nat.reduceSub, Nat.reduceLeDiff, Nat.reduceLT, Int32.reduceLT, Int32.reduceLE, Int32.reduceAdd, Int32.reduceSub, reduceCtorEq, true_or, or_true, or_false, false_or, ne_eq, Nat.zero_le, Option.toList, bI_f c2, c3a, c3b, h5, bI_ff]
    rw [if_neg c4]
    have h5 : ¬ (5 : Int32) ≤ nI dep := nI_ge (b := 5) (by omega) (by decide)
    simp only [e_42_32, e_42_46, e_42_47, e_42_49, e_42_52, e_42_53, e_42_55, e_42_58, e_42_59, e_42_60, e_42_63, e_42_64, e_42_66, true_and, and_true, and_self, false_and, and_false, if_true, if_false, ↓reduceIte, Nat.add_eq_left, Nat.left_eq_add, Nat.add_left_cancel_iff, not_false_eq_true, not_true_eq_false, i_pc, List.cons_append, List.nil_append, List.length_cons, List.length_nil, Nat.reduceEqDiff, Nat.reduceAdd, Nat.reduceMul, Nat.reduceSub, Nat.reduceLeDiff, Nat.reduceLT, Int32.reduceLT, Int32.reduceLE, Int32.reduceAdd, Int32.reduceSub, reduceCtorEq, true_or, or_true, or_false, false_or, ne_eq, Nat.zero_le, Option.toList, th_K, k6, bI_f c2, c3a, c3b, h5]
    refine ⟨_, t_takesS hT (by show s.1 + 1 < 2 ^ 31; omega), ?_⟩
    have hb2 := bd_takes (n := n) (tx := tx) (c := 40) (bd_at hb hp)
    cases ht : (cTakes n tx 40 (sAt (s.1 + 1) s)).1 with
    | false =>
      simp only [e_42_69, e_42_90, e_42_91, true_and, and_true, and_self, false_and, and_false, if_true, if_false, ↓reduceIte, Nat.add_eq_left, Nat.left_eq_add, Nat.add_left_cancel_iff, not_false_eq_true, not_true_eq_false, i_pc, List.cons_append, List.nil_append, List.length_cons, List.length_nil, Nat.reduceEqDiff, Nat.reduceAdd, Nat.reduceMul, Nat.reduceSub, Nat.reduceLeDiff, Nat.reduceLT, Int32.reduceLT, Int32.reduceLE, Int32.reduceAdd, Int32.reduceSub, reduceCtorEq, true_or, or_true, or_false, false_or, ne_eq, Nat.zero_le, Option.toList, bI_ff, ht, Bool.false_eq_true]
    | true =>
      obtain ⟨f, hf, ef⟩ := fun_ix c3.1 c3.2
      have e1 : pk n tx s.1 - 65 = nI f := by rw [ef, show (65 : Int32) = nI 65 from rfl, pk_sub (by omega)]; congr 1; omega
      simp only [e_42_69, e_42_72, e_42_73, e_42_74, e_42_76, e_42_77, e_42_78, e_42_79, e_42_80, true_and, and_true, and_self, false_and, and_false, if_true, if_false, ↓reduceIte, Nat.add_eq_left, Nat.left_eq_add, Nat.add_left_cancel_iff, not_false_eq_true, not_true_eq_false, i_pc, List.cons_append, List.nil_append, List.length_cons, List.length_nil, Nat.reduceEqDiff, Nat.reduceAdd, Nat.reduceMul, Nat.reduceSub, Nat.reduceLeDiff, Nat.reduceLT, Int32.reduceLT, Int32.reduceLE, Int32.reduceAdd, Int32.reduceSub, reduceCtorEq, true_or, or_true, or_false, false_or, ne_eq, Nat.zero_le, Option.toList, th_K, k6, bI_tt, e1, nI_1, show ((1 : Int32) = 0) = False from by decide, nI_cl (show f < 2 ^ 31 by omega)]
      refine ⟨_, t_args (d := d + e) hT hf (hE c4 d) hb2, ?_⟩
      cases hg : (cArgs n tx E f (cTakes n tx 40 (sAt (s.1 + 1) s)).2).1 with
      | true => simp only [e_42_83, e_42_86, e_42_87, e_42_90, e_42_91, true_and, and_true, and_self, false_and, and_false, if_true, if_false, ↓reduceIte, Nat.add_eq_left, Nat.left_eq_add, Nat.add_left_cancel_iff, not_false_eq_true, not_true_eq_false, i_pc, List.cons_append, List.nil_append, List.length_cons, List.length_nil, Nat.reduceEqDiff, Nat.reduceAdd, Nat.reduceMul, Nat.reduceSub, Nat.reduceLeDiff, Nat.reduceLT, Int32.reduceLT, Int32.reduceLE, Int32.reduceAdd, Int32.reduceSub, reduceCtorEq, true_or, or_true, or_false, false_or, ne_eq, Nat.zero_le, Option.toList, bI_tt, show ((1 : Int32) = 0) = False from by decide]
      | false => simp only [e_42_83, e_42_86, e_42_87, e_42_90, e_42_91, true_and, and_true, and_self, false_and, and_false, if_true, if_false, ↓reduceIte, Nat.add_eq_left, Nat.left_eq_add, Nat.add_left_cancel_iff, not_false_eq_true, not_true_eq_false, i_pc, List.cons_append, List.nil_append, List.length_cons, List.length_nil, Nat.reduceEqDiff, Nat.reduceAdd, Nat.reduceMul, Nat.reduceSub, Nat.reduceLeDiff, Nat.reduceLT, Int32.reduceLT, Int32.reduceLE, Int32.reduceAdd, Int32.reduceSub, reduceCtorEq, true_or, or_true, or_false, false_or, ne_eq, Nat.zero_le, Option.toList, bI_ff]
  rw [if_neg c3]
  have c3n : X xs L (d + (e + 2)) 42 (92, [some (.inr (some 6)), some (.inl (nI dep)), some (.inl (pk n tx s.1))], [], tH h (sAt (s.1 + 1) s)) (some (.inl (bI (if pk n tx s.1 = 40 ∧ ¬ k = 0 then (if (E (sAt (s.1 + 1) s)).1 then cTakes n tx 41 (E (sAt (s.1 + 1) s)).2 else E (sAt (s.1 + 1) s)) else (false, sAt (s.1 + 1) s)).1)), tH h (if pk n tx s.1 = 40 ∧ ¬ k = 0 then (if (E (sAt (s.1 + 1) s)).1 then cTakes n tx 41 (E (sAt (s.1 + 1) s)).2 else E (sAt (s.1 + 1) s)) else (false, sAt (s.1 + 1) s)).2) := by
    by_cases c6 : pk n tx s.1 = 40
    · by_cases c4 : k = 0
      · have h5 : (5 : Int32) ≤ nI dep := nI_le (a := 5) (by omega) (by omega)
        rw [if_neg (fun e => e.2 c4)]
        simp only [e_42_92, e_42_93, e_42_95, e_42_98, e_42_99, e_42_100, e_42_126, e_42_127, true_and, and_true, and_self, false_and, and_false, if_true, if_false, ↓reduceIte, Nat.add_eq_left, Nat.left_eq_add, Nat.add_left_cancel_iff, not_false_eq_true, not_true_eq_false, i_pc, List.cons_append, List.nil_append, List.length_cons, List.length_nil, Nat.reduceEqDiff, Nat.reduceAdd, Nat.reduceMul, Nat.reduceSub, Nat.reduceLeDiff, Nat.reduceLT, Int32.reduceLT, Int32.reduceLE, Int32.reduceAdd, Int32.reduceSub, reduceCtorEq, true_or, or_true, or_false, false_or, ne_eq, Nat.zero_le, c6, h5, bI_ff]
      · have h5 : ¬ (5 : Int32) ≤ nI dep := nI_ge (b := 5) (by omega) (by decide)
        have hp : s.1 < n := pk_lo (c := 40) (by decide) (by rw [c6]; exact Int32.le_refl _)
        have hEE := hE c4 (d + 1)
        rw [show d + 1 + (e + 1) = d + (e + 2) by omega] at hEE
        obtain ⟨hr, hb2⟩ := hEE _ (bd_at hb hp)
        rw [if_pos ⟨c6, c4⟩]
        simp only [e_42_92, e_42_93, e_42_95, e_42_98, e_42_99, e_42_100, e_42_103, e_42_104, e_42_105, e_42_106, e_42_107, true_and, and_true, and_self, false_and, and_false, if_true, if_false, ↓reduceIte, Nat.add_eq_left, Nat.left_eq_add, Nat.add_left_cancel_iff, not_false_eq_true, not_true_eq_false, i_pc, List.cons_append, List.nil_append, List.length_cons, List.length_nil, Nat.reduceEqDiff, Nat.reduceAdd, Nat.reduceMul, Nat.reduceSub, Nat.reduceLeDiff, Nat.reduceLT, Int32.reduceLT, Int32.reduceLE, Int32.reduceAdd, Int32.reduceSub, reduceCtorEq, true_or, or_true, or_false, false_or, ne_eq, Nat.zero_le, th_K, k6, c6, h5, nI_1]
        refine ⟨_, hr, ?_⟩
        cases he : (E (sAt (s.1 + 1) s)).1 with
        | false => simp only [e_42_110, e_42_126, e_42_127, true_and, and_true, and_self, false_and, and_false, if_true, if_false, ↓reduceIte, Nat.add_eq_left, Nat.left_eq_add, Nat.add_left_cancel_iff, not_false_eq_true, not_true_eq_false, i_pc, List.cons_append, List.nil_append, List.length_cons, List.length_nil, Nat.reduceEqDiff, Nat.reduceAdd, Nat.reduceMul, Nat.reduceSub, Nat.reduceLeDiff, Nat.reduceLT, Int32.reduceLT, Int32.reduceLE, Int32.reduceAdd, Int32.reduceSub, reduceCtorEq, true_or, or_true, or_false, false_or, ne_eq, Nat.zero_le, Option.toList, bI_ff, he, Bool.false_eq_true]
        | true =>
          have hb3 := hb2 he
          simp only [e_42_110, e_42_113, e_42_114, e_42_116, true_and, and_true, and_self, false_and, and_false, if_true, if_false, ↓reduceIte, Nat.add_eq_left, Nat.left_eq_add, Nat.add_left_cancel_iff, not_false_eq_true, not_true_eq_false, i_pc, List.cons_append, List.nil_append, List.length_cons, List.length_nil, Nat.reduceEqDiff, Nat.reduceAdd, Nat.reduceMul, Nat.reduceSub, Nat.reduceLeDiff, Nat.reduceLT, Int32.reduceLT, Int32.reduceLE, Int32.reduceAdd, Int32.reduceSub, reduceCtorEq, true_or, or_true, or_false, false_or, ne_eq, Nat.zero_le, Option.toList, th_K, k6, bI_tt, show ((1 : Int32) = 0) = False from by decide]
          refine ⟨_, t_takesS hT (by have := hb3.1; omega), ?_⟩
          cases ht : (cTakes n tx 41 (E (sAt (s.1 + 1) s)).2).1 with
          | false => simp only [e_42_119, e_42_126, e_42_127, true_and, and_true, and_self, false_and, and_false, if_true, if_false, ↓reduceIte, Nat.add_eq_left, Nat.left_eq_add, Nat.add_left_cancel_iff, not_false_eq_true, not_true_eq_false, i_pc, List.cons_append, List.nil_append, List.length_cons, List.length_nil, Nat.reduceEqDiff, Nat.reduceAdd, Nat.reduceMul, Nat.reduceSub, Nat.reduceLeDiff, Nat.reduceLT, Int32.reduceLT, Int32.reduceLE, Int32.reduceAdd, Int32.reduceSub, reduceCtorEq, true_or, or_true, or_false, false_or, ne_eq, Nat.zero_le, Option.toList, bI_ff]
          | true => simp only [e_42_119, e_42_122, e_42_123, e_42_126, e_42_127, true_and, and_true, and_self, false_and, and_false, if_true, if_false, ↓reduceIte, Nat.add_eq_left, Nat.left_eq_add, Nat.add_left_cancel_iff, not_false_eq_true, not_true_eq_false, i_pc, List.cons_append, List.nil_append, List.length_cons, List.length_nil, Nat.reduceEqDiff, Nat.reduceAdd, Nat.reduceMul, Nat.reduceSub, Nat.reduceLeDiff, Nat.reduceLT, Int32.reduceLT, Int32.reduceLE, Int32.reduceAdd, Int32.reduceSub, reduceCtorEq, true_or, or_true, or_false, false_or, ne_eq, Nat.zero_le, Option.toList, bI_tt, show ((1 : Int32) = 0) = False from by decide]
    · rw [if_neg (fun e => c6 e.1)]
      simp only [e_42_92, e_42_93, e_42_95, e_42_126, e_42_127, true_and, and_true, and_self, false_and, and_false, if_true, if_false, ↓reduceIte, Nat.add_eq_left, Nat.left_eq_add, Nat.add_left_cancel_iff, not_false_eq_true, not_true_eq_false, i_pc, List.cons_append, List.nil_append, List.length_cons, List.length_nil, Nat.reduceEqDiff, Nat.reduceAdd, Nat.reduceMul, Nat.reduceSub, Nat.reduceLeDiff, Nat.reduceLT, Int32.reduceLT, Int32.reduceLE, Int32.reduceAdd, Int32.reduceSub, reduceCtorEq, true_or, or_true, or_false, false_or, ne_eq, Nat.zero_le, c6, bI_ff]
  by_cases c7 : pk n tx s.1 < 65
  · simp only [e_42_32, e_42_46, e_42_47, e_42_49, true_and, and_true, and_self, false_and, and_false, if_true, if_false, ↓reduceIte, Nat.add_eq_left, Nat.left_eq_add, Nat.add_left_cancel_iff, not_false_eq_true, not_true_eq_false, i_pc, List.cons_append, List.nil_append, List.length_cons, List.length_nil, Nat.reduceEqDiff, Nat.reduceAdd, Nat.reduceMul, Nat.reduceSub, Nat.reduceLeDiff, Nat.reduceLT, Int32.reduceLT, Int32.reduceLE, Int32.reduceAdd, Int32.reduceSub, reduceCtorEq, true_or, or_true, or_false, false_or, ne_eq, Nat.zero_le, Option.toList, bI_f c2, c7]
    exact c3n
  · have c8 : (69 : Int32) ≤ pk n tx s.1 := Int32.not_lt.mp (fun z => c3 ⟨Int32.not_lt.mp c7, z⟩)
    simp only [e_42_32, e_42_46, e_42_47, e_42_49, e_42_52, e_42_53, e_42_55, true_and, and_true, and_self, false_and, and_false, if_true, if_false, ↓reduceIte, Nat.add_eq_left, Nat.left_eq_add, Nat.add_left_cancel_iff, not_false_eq_true, not_true_eq_false, i_pc, List.cons_append, List.nil_append, List.length_cons, List.length_nil, Nat.reduceEqDiff, Nat.reduceAdd, Nat.reduceMul, Nat.reduceSub, Nat.reduceLeDiff, Nat.reduceLT, Int32.reduceLT, Int32.reduceLE, Int32.reduceAdd, Int32.reduceSub, reduceCtorEq, true_or, or_true, or_false, false_or, ne_eq, Nat.zero_le, Option.toList, bI_f c2, c7, c8]
    exact c3n
end TC

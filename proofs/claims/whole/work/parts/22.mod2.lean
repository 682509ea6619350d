-- the model's run: enter, call, readTerm, combine, finish
section MF
variable {xs : Nat → Int32} {L d : Nat} {h : Hp} {res : Res} {t q m : Nat}
theorem six (t v : Nat) : (6 : Int32) * nI t + nI v = nI (6 * t + v) := by rw [show (6 : Int32) = nI 6 from rfl, pk_mul, nI_add]
theorem m_enter_loop {k fr f : Nat} {a1 : Option AV} (ht : t < 12) (hk3 : k ≤ 3) (hfr : fr + k ≤ 216) (hf : f < 4) : ∀ (n v : Nat) (h : Hp), v + n = 6 → MO h → hI h 57 f = nI k →
    X xs L d 91 (93, [some (.inr (some 49)), a1, some (.inl (nI f)), some (.inl (nI fr)), some (.inl (nI t)), some (.inl (nI 6))], [], sA h 66 (fun j => if 6 * t + v ≤ j ∧ j < 6 * t + 6 then (if j - 6 * t < k then hI h 72 (fr + (j - 6 * t)) else 0) else hI h 66 j)) res →
    X xs L d 91 (43, [some (.inr (some 49)), a1, some (.inl (nI f)), some (.inl (nI fr)), some (.inl (nI t)), some (.inl (nI v))], [], h) res := by
  intro n
  induction n with
  | zero =>
    intro v h hv hO hk hX
    have hv6 : v = 6 := by omega
    subst hv6
    rw [sA_id (fun j => by rw [if_neg (by omega)])] at hX
    simp only [e_91_43, e_91_45, e_91_47, true_and, and_true, and_self, false_and, and_false, if_true, if_false, ↓reduceIte, Nat.add_eq_left, Nat.left_eq_add, Nat.add_left_cancel_iff, not_false_eq_true, not_true_eq_false, i_pc, List.cons_append, List.nil_append, List.length_cons, List.length_nil, Nat.reduceEqDiff, Nat.reduceAdd, Nat.reduceMul, Nat.reduceSub, Nat.reduceLeDiff, Nat.reduceLT, Int32.reduceLT, Int32.reduceLE, Int32.reduceAdd, Int32.reduceSub, reduceCtorEq, true_or, or_true, or_false, false_or, ne_eq, Nat.zero_le, show ((6 : Int32) ≤ nI 6) = True from by decide]
    exact hX
  | succ n ih =>
    intro v h hv hO hk hX
    have h1 : ¬ (6 : Int32) ≤ nI v := nI_ge (b := 6) (by omega) (by decide)
    have h2 : vp_in (nI (6 * t + v)) 72 := vin (by omega) (by decide)
    have h3 : vp_in (nI f) 4 := vin hf (by decide)
    have e1 : sA (sI h 66 (6 * t + v) (if v < k then hI h 72 (fr + v) else 0)) 66 (fun j => if 6 * t + (v + 1) ≤ j ∧ j < 6 * t + 6 then (if j - 6 * t < k then hI (sI h 66 (6 * t + v) (if v < k then hI h 72 (fr + v) else 0)) 72 (fr + (j - 6 * t)) else 0) else hI (sI h 66 (6 * t + v) (if v < k then hI h 72 (fr + v) else 0)) 66 j) = sA h 66 (fun j => if 6 * t + v ≤ j ∧ j < 6 * t + 6 then (if j - 6 * t < k then hI h 72 (fr + (j - 6 * t)) else 0) else hI h 66 j) := by
      rw [sA_sI]
      refine sA_congr (fun j => ?_)
      simp only [hI_sI, show ¬ (72 : Nat) = 66 from by decide, false_and, if_false, true_and]
      by_cases hj : j = 6 * t + v
      · subst hj
        have hA : 6 * t + v ≤ 6 * t + v ∧ 6 * t + v < 6 * t + 6 := by omega
        have hB : ¬ (6 * t + (v + 1) ≤ 6 * t + v ∧ 6 * t + v < 6 * t + 6) := by omega
        rw [if_neg hB, if_pos rfl, if_pos hA, show 6 * t + v - 6 * t = v by omega]
      · by_cases hj2 : 6 * t + v ≤ j ∧ j < 6 * t + 6
        · rw [if_pos (by omega), if_pos hj2]
        · rw [if_neg (by omega), if_neg hj, if_neg hj2]
    have hgo := ih (v + 1) (sI h 66 (6 * t + v) (if v < k then hI h 72 (fr + v) else 0)) (by omega) hO (by rw [hI_sI, if_neg (by omega)]; exact hk) (by rw [e1]; exact hX)
    rw [e_91_43]
    by_cases hvk : v < k
    · have h4 : ¬ nI k ≤ nI v := nI_ge hvk (by omega)
      have h5 : vp_in (nI (fr + v)) 216 := vin (by omega) (by decide)
      simp only [e_91_45, e_91_47, e_91_50, e_91_51, e_91_54, e_91_56, e_91_58, e_91_59, e_91_61, e_91_62, e_91_64, e_91_65, e_91_68, e_91_69, e_91_70, e_91_73, e_91_74, e_91_77, e_91_78, e_91_80, e_91_81, e_91_82, e_91_85, e_91_86, e_91_87, e_91_90, true_and, and_true, and_self, false_and, and_false, if_true, if_false, ↓reduceIte, Nat.add_eq_left, Nat.left_eq_add, Nat.add_left_cancel_iff, not_false_eq_true, not_true_eq_false, i_pc, List.cons_append, List.nil_append, List.length_cons, List.length_nil, Nat.reduceEqDiff, Nat.reduceAdd, Nat.reduceMul, Nat.reduceSub, Nat.reduceLeDiff, Nat.reduceLT, Int32.reduceLT, Int32.reduceLE, Int32.reduceAdd, Int32.reduceSub, reduceCtorEq, true_or, or_true, or_false, false_or, ne_eq, Nat.zero_le, mo_k hO, mo_r66 hO, mo_k66 hO, mo_l66 hO, mo_r57 hO, mo_k57 hO, mo_l57 hO, mo_r72 hO, mo_k72 hO, mo_l72 hO, h1, h2, h3, h4, h5, hk, six, nI_add, nI_1, nI_cl (show f < 2 ^ 31 by omega), nI_cl (show fr + v < 2 ^ 31 by omega), nI_cl (show 6 * t + v < 2 ^ 31 by omega)]
      rw [if_pos hvk] at hgo
      exact hgo
    · have h4 : nI k ≤ nI v := nI_le (by omega) (by omega)
      simp only [e_91_45, e_91_47, e_91_50, e_91_51, e_91_54, e_91_56, e_91_58, e_91_59, e_91_61, e_91_62, e_91_64, e_91_65, e_91_68, e_91_69, e_91_70, e_91_73, e_91_74, e_91_77, e_91_78, e_91_80, e_91_81, e_91_82, e_91_85, e_91_86, e_91_87, e_91_90, true_and, and_true, and_self, false_and, and_false, if_true, if_false, ↓reduceIte, Nat.add_eq_left, Nat.left_eq_add, Nat.add_left_cancel_iff, not_false_eq_true, not_true_eq_false, i_pc, List.cons_append, List.nil_append, List.length_cons, List.length_nil, Nat.reduceEqDiff, Nat.reduceAdd, Nat.reduceMul, Nat.reduceSub, Nat.reduceLeDiff, Nat.reduceLT, Int32.reduceLT, Int32.reduceLE, Int32.reduceAdd, Int32.reduceSub, reduceCtorEq, true_or, or_true, or_false, false_or, ne_eq, Nat.zero_le, mo_k hO, mo_r66 hO, mo_k66 hO, mo_l66 hO, mo_r57 hO, mo_k57 hO, mo_l57 hO, mo_r72 hO, mo_k72 hO, mo_l72 hO, h1, h2, h3, h4, hk, six, nI_add, nI_1, nI_cl (show f < 2 ^ 31 by omega), nI_cl (show 6 * t + v < 2 ^ 31 by omega)]
      rw [if_neg hvk] at hgo
      exact hgo
/-- what enter leaves: the frame q of the machine m -/
def enM (m q f b k fr : Nat) (h : Hp) : Hp := sI (sA (sI (sI (sI h 62 m (nI (q + 1))) 63 (6 * m + q) (nI f)) 64 (6 * m + q) (nI (b + 1))) 66 (fun j => if 6 * (6 * m + q) ≤ j ∧ j < 6 * (6 * m + q) + 6 then (if j - 6 * (6 * m + q) < k then hI h 72 (fr + (j - 6 * (6 * m + q))) else 0) else hI h 66 j)) 49 27 0
theorem m_enter {f b k fr : Nat} (hO : MO h) (hm : m < 2) (hd : hI h 62 m = nI q) (hq : q < 6) (hf : f < 4) (hb : hI h 56 f = nI b) (hb2 : b < 1000) (hk : hI h 57 f = nI k) (hk3 : k ≤ 3) (hfr : fr + k ≤ 216) : Rn xs L (d + 2) 91 [.inr (some 49), .inl (nI m), .inl (nI f), .inl (nI fr)] h (none, enM m q f b k fr h) := by
  rw [i_rn]
  show X xs L (d + 1) 91 (0, [some (.inr (some 49)), some (.inl (nI m)), some (.inl (nI f)), some (.inl (nI fr)), none, none], [], h) _
  have h1 : vp_in (nI m) 2 := vin hm (by decide)
  simp only [e_91_0, e_91_1, e_91_4, e_91_5, e_91_6, e_91_7, e_91_8, e_91_9, e_91_10, e_91_11, e_91_12, true_and, and_true, and_self, false_and, and_false, if_true, if_false, ↓reduceIte, Nat.add_eq_left, Nat.left_eq_add, Nat.add_left_cancel_iff, not_false_eq_true, not_true_eq_false, i_pc, List.cons_append, List.nil_append, List.length_cons, List.length_nil, Nat.reduceEqDiff, Nat.reduceAdd, Nat.reduceMul, Nat.reduceSub, Nat.reduceLeDiff, Nat.reduceLT, Int32.reduceLT, Int32.reduceLE, Int32.reduceAdd, Int32.reduceSub, reduceCtorEq, true_or, or_true, or_false, false_or, ne_eq, Nat.zero_le, hK_sI, hL_sI, hR_sI, hI_sI, hN_sI, hU_sI, hK_sR, hL_sR, hI_sR, hR_sR, hN_sR, hU_sR, hK_sA, hL_sA, hR_sA, hI_sA, hN_sA, hU_sA, mo_k hO, mo_r62 hO, mo_k62 hO, mo_l62 hO, h1, hd, nI_1, nI_cl (show m < 2 ^ 31 by omega)]
  refine ⟨_, m_top (q := q) (h := sI h 62 m (nI (q + 1))) hO hm (by rw [hI_sI, if_pos ⟨rfl, rfl⟩]) hq, ?_⟩
  have h2 : vp_in (nI (6 * m + q)) 12 := vin (by omega) (by decide)
  have h3 : vp_in (nI f) 4 := vin hf (by decide)
  simp only [e_91_15, e_91_17, e_91_18, e_91_21, e_91_23, e_91_24, e_91_25, e_91_26, e_91_29, e_91_31, e_91_32, e_91_35, e_91_36, e_91_37, e_91_38, e_91_39, e_91_40, e_91_41, true_and, and_true, and_self, false_and, and_false, if_true, if_false, ↓reduceIte, Nat.add_eq_left, Nat.left_eq_add, Nat.add_left_cancel_iff, not_false_eq_true, not_true_eq_false, i_pc, List.cons_append, List.nil_append, List.length_cons, List.length_nil, Nat.reduceEqDiff, Nat.reduceAdd, Nat.reduceMul, Nat.reduceSub, Nat.reduceLeDiff, Nat.reduceLT, Int32.reduceLT, Int32.reduceLE, Int32.reduceAdd, Int32.reduceSub, reduceCtorEq, true_or, or_true, or_false, false_or, ne_eq, Nat.zero_le, hK_sI, hL_sI, hR_sI, hI_sI, hN_sI, hU_sI, hK_sR, hL_sR, hI_sR, hR_sR, hN_sR, hU_sR, hK_sA, hL_sA, hR_sA, hI_sA, hN_sA, hU_sA, Option.toList, mo_k hO, mo_r63 hO, mo_k63 hO, mo_l63 hO, mo_r64 hO, mo_k64 hO, mo_l64 hO, mo_r56 hO, mo_k56 hO, mo_l56 hO, h2, h3, hb, nI_1, nI_cl (show f < 2 ^ 31 by omega), nI_cl (show 6 * m + q < 2 ^ 31 by omega), show (0 : Int32) = nI 0 from rfl]
  refine m_enter_loop (t := 6 * m + q) (k := k) (fr := fr) (by omega) hk3 hfr hf 6 0 _ (by omega) hO ?_ ?_
  · simp only [hI_sI]
    rw [if_neg (by omega), if_neg (by omega), if_neg (by omega)]; exact hk
  · simp only [e_91_93, e_91_94, e_91_95, e_91_98, true_and, and_true, and_self, false_and, and_false, if_true, if_false, ↓reduceIte, Nat.add_eq_left, Nat.left_eq_add, Nat.add_left_cancel_iff, not_false_eq_true, not_true_eq_false, i_pc, List.cons_append, List.nil_append, List.length_cons, List.length_nil, Nat.reduceEqDiff, Nat.reduceAdd, Nat.reduceMul, Nat.reduceSub, Nat.reduceLeDiff, Nat.reduceLT, Int32.reduceLT, Int32.reduceLE, Int32.reduceAdd, Int32.reduceSub, reduceCtorEq, true_or, or_true, or_false, false_or, ne_eq, Nat.zero_le, hK_sI, hL_sI, hR_sI, hI_sI, hN_sI, hU_sI, hK_sR, hL_sR, hI_sR, hR_sR, hN_sR, hU_sR, hK_sA, hL_sA, hR_sA, hI_sA, hN_sA, hU_sA, mo_k hO]
    unfold enM
    congr 2
theorem m_call6 {f fr : Int32} (hO : MO h) (hm : m < 2) (hd : hI h 62 m = nI 6) : Rn xs L (d + 3) 92 [.inr (some 49), .inl (nI m), .inl f, .inl fr] h (none, sI (sI h 49 27 3) 49 28 1002) := by
  rw [i_rn]
  show X xs L (d + 2) 92 (0, [some (.inr (some 49)), some (.inl (nI m)), some (.inl f), some (.inl fr)], [], h) _
  have h1 : vp_in (nI m) 2 := vin hm (by decide)
  simp only [e_92_0, e_92_1, e_92_4, e_92_5, e_92_6, e_92_8, e_92_11, e_92_12, e_92_13, e_92_16, e_92_17, e_92_20, e_92_23, e_92_26, e_92_27, e_92_28, e_92_29, e_92_30, e_92_33, true_and, and_true, and_self, false_and, and_false, if_true, if_false, ↓reduceIte, Nat.add_eq_left, Nat.left_eq_add, Nat.add_left_cancel_iff, not_false_eq_true, not_true_eq_false, i_pc, List.cons_append, List.nil_append, List.length_cons, List.length_nil, Nat.reduceEqDiff, Nat.reduceAdd, Nat.reduceMul, Nat.reduceSub, Nat.reduceLeDiff, Nat.reduceLT, Int32.reduceLT, Int32.reduceLE, Int32.reduceAdd, Int32.reduceSub, reduceCtorEq, true_or, or_true, or_false, false_or, ne_eq, Nat.zero_le, hK_sI, hL_sI, hR_sI, hI_sI, hN_sI, hU_sI, hK_sR, hL_sR, hI_sR, hR_sR, hN_sR, hU_sR, hK_sA, hL_sA, hR_sA, hI_sA, hN_sA, hU_sA, mo_k hO, mo_r62 hO, mo_k62 hO, mo_l62 hO, h1, hd, nI_cl (show m < 2 ^ 31 by omega), show (nI 6 = 6) = True from by decide]
theorem m_call {f b k fr : Nat} (hO : MO h) (hm : m < 2) (hd : hI h 62 m = nI q) (hq : q < 6) (hf : f < 4) (hb : hI h 56 f = nI b) (hb2 : b < 1000) (hk : hI h 57 f = nI k) (hk3 : k ≤ 3) (hfr : fr + k ≤ 216) : Rn xs L (d + 3) 92 [.inr (some 49), .inl (nI m), .inl (nI f), .inl (nI fr)] h (none, enM m q f b k fr h) := by
  rw [i_rn]
  show X xs L (d + 2) 92 (0, [some (.inr (some 49)), some (.inl (nI m)), some (.inl (nI f)), some (.inl (nI fr))], [], h) _
  have h1 : vp_in (nI m) 2 := vin hm (by decide)
  have h2 : ¬ nI q = 6 := fun e => by have := (nI_eq (a := q) (b := 6) (by omega) (by decide)).mp e; omega
  simp only [e_92_0, e_92_1, e_92_4, e_92_5, e_92_6, e_92_8, e_92_11, e_92_12, e_92_13, e_92_16, e_92_17, e_92_20, e_92_23, e_92_26, e_92_27, e_92_28, e_92_29, e_92_30, true_and, and_true, and_self, false_and, and_false, if_true, if_false, ↓reduceIte, Nat.add_eq_left, Nat.left_eq_add, Nat.add_left_cancel_iff, not_false_eq_true, not_true_eq_false, i_pc, List.cons_append, List.nil_append, List.length_cons, List.length_nil, Nat.reduceEqDiff, Nat.reduceAdd, Nat.reduceMul, Nat.reduceSub, Nat.reduceLeDiff, Nat.reduceLT, Int32.reduceLT, Int32.reduceLE, Int32.reduceAdd, Int32.reduceSub, reduceCtorEq, true_or, or_true, or_false, false_or, ne_eq, Nat.zero_le, hK_sI, hL_sI, hR_sI, hI_sI, hN_sI, hU_sI, hK_sR, hL_sR, hI_sR, hR_sR, hN_sR, hU_sR, hK_sA, hL_sA, hR_sA, hI_sA, hN_sA, hU_sA, mo_k hO, mo_r62 hO, mo_k62 hO, mo_l62 hO, h1, h2, hd, nI_cl (show m < 2 ^ 31 by omega)]
  refine ⟨_, m_enter hO hm hd hq hf hb hb2 hk hk3 hfr, ?_⟩
  simp only [e_92_33, true_and, and_true, and_self, false_and, and_false, if_true, if_false, ↓reduceIte, Nat.add_eq_left, Nat.left_eq_add, Nat.add_left_cancel_iff, not_false_eq_true, not_true_eq_false, i_pc, List.cons_append, List.nil_append, List.length_cons, List.length_nil, Nat.reduceEqDiff, Nat.reduceAdd, Nat.reduceMul, Nat.reduceSub, Nat.reduceLeDiff, Nat.reduceLT, Int32.reduceLT, Int32.reduceLE, Int32.reduceAdd, Int32.reduceSub, reduceCtorEq, true_or, or_true, or_false, false_or, ne_eq, Nat.zero_le, Option.toList]
/-- the number that n digits from p on spell -/
def dvI (tx : Nat → Int32) (p : Nat) : Nat → Int32
  | 0 => 0
  | n + 1 => 10 * dvI tx p n + tx (p + n) - 48
def isDg (c : Int32) : Prop := 48 ≤ c ∧ c ≤ 57
theorem bI_t {p : Prop} [Decidable p] (hp : p) : bI (decide p) = 1 := by rw [decide_eq_true hp]; rfl
theorem bI_f {p : Prop} [Decidable p] (hp : ¬ p) : bI (decide p) = 0 := by rw [decide_eq_false hp]; rfl
theorem m_dig_loop {p : Nat} {a1 a3 : Option AV} {tx : Nat → Int32} (ht : t < 12) : ∀ (n i : Nat) (h : Hp), MO h → p + i + n < 6384 → (∀ j, j < 6384 → hI h 51 j = tx j) → hI h 64 t = nI (p + i) → (∀ j, i ≤ j → j < i + n → isDg (tx (p + j))) → ¬ isDg (tx (p + (i + n))) →
    X xs L (d + 1) 95 (74, [some (.inr (some 49)), a1, some (.inl (nI t)), a3, some (.inl (dvI tx p (i + n)))], [], sI h 64 t (nI (p + (i + n)))) res → X xs L (d + 1) 95 (22, [some (.inr (some 49)), a1, some (.inl (nI t)), a3, some (.inl (dvI tx p i))], [], h) res := by
  intro n
  induction n with
  | zero =>
    intro i h hO hp htx hpc hd hnd hX
    have h1 : vp_in (nI t) 12 := vin ht (by decide)
    have h2 : vp_in (nI (p + i)) 6384 := vin (by omega) (by decide)
    rw [e_95_22]
    simp only [e_95_23, e_95_26, e_95_27, e_95_30, e_95_31, e_95_32, e_95_33, true_and, and_true, and_self, false_and, and_false, if_true, if_false, ↓reduceIte, Nat.add_eq_left, Nat.left_eq_add, Nat.add_left_cancel_iff, not_false_eq_true, not_true_eq_false, i_pc, List.cons_append, List.nil_append, List.length_cons, List.length_nil, Nat.reduceEqDiff, Nat.reduceAdd, Nat.reduceMul, Nat.reduceSub, Nat.reduceLeDiff, Nat.reduceLT, Int32.reduceLT, Int32.reduceLE, Int32.reduceAdd, Int32.reduceSub, reduceCtorEq, true_or, or_true, or_false, false_or, ne_eq, Nat.zero_le, mo_k hO, mo_r51 hO, mo_k51 hO, mo_l51 hO, mo_r64 hO, mo_k64 hO, mo_l64 hO, h1, h2, hpc, nI_cl (show t < 2 ^ 31 by omega), nI_cl (show p + i < 2 ^ 31 by omega), htx (p + i) (by omega)]
    refine ⟨_, m_isDig, ?_⟩
    have hnd : ¬ (48 ≤ tx (p + i) ∧ tx (p + i) ≤ 57) := hnd
    simp only [e_95_36, true_and, and_true, and_self, false_and, and_false, if_true, if_false, ↓reduceIte, Nat.add_eq_left, Nat.left_eq_add, Nat.add_left_cancel_iff, not_false_eq_true, not_true_eq_false, i_pc, List.cons_append, List.nil_append, List.length_cons, List.length_nil, Nat.reduceEqDiff, Nat.reduceAdd, Nat.reduceMul, Nat.reduceSub, Nat.reduceLeDiff, Nat.reduceLT, Int32.reduceLT, Int32.reduceLE, Int32.reduceAdd, Int32.reduceSub, reduceCtorEq, true_or, or_true, or_false, false_or, ne_eq, Nat.zero_le, Option.toList, bI_f hnd]
    have e : sI h 64 t (nI (p + (i + 0))) = h := by
      refine hp_ext rfl rfl (fun _ => rfl) (fun _ => rfl) (fun a b => ?_) (fun _ _ => rfl)
      rw [hI_sI]
      split
      · next e => rw [e.1, e.2, hpc]; rfl
      · rfl
    rw [e] at hX
    exact hX
  | succ n ih =>
    intro i h hO hp htx hpc hd hnd hX
    have h1 : vp_in (nI t) 12 := vin ht (by decide)
    have h2 : vp_in (nI (p + i)) 6384 := vin (by omega) (by decide)
    have hdi : isDg (tx (p + i)) := hd i (by omega) (by omega)
    rw [e_95_22]
    simp only [e_95_23, e_95_26, e_95_27, e_95_30, e_95_31, e_95_32, e_95_33, true_and, and_true, and_self, false_and, and_false, if_true, if_false, ↓reduceIte, Nat.add_eq_left, Nat.left_eq_add, Nat.add_left_cancel_iff, not_false_eq_true, not_true_eq_false, i_pc, List.cons_append, List.nil_append, List.length_cons, List.length_nil, Nat.reduceEqDiff, Nat.reduceAdd, Nat.reduceMul, Nat.reduceSub, Nat.reduceLeDiff, Nat.reduceLT, Int32.reduceLT, Int32.reduceLE, Int32.reduceAdd, Int32.reduceSub, reduceCtorEq, true_or, or_true, or_false, false_or, ne_eq, Nat.zero_le, mo_k hO, mo_r51 hO, mo_k51 hO, mo_l51 hO, mo_r64 hO, mo_k64 hO, mo_l64 hO, h1, h2, hpc, nI_cl (show t < 2 ^ 31 by omega), nI_cl (show p + i < 2 ^ 31 by omega), htx (p + i) (by omega)]
    refine ⟨_, m_isDig, ?_⟩
    have hdi2 : 48 ≤ tx (p + i) ∧ tx (p + i) ≤ 57 := hdi
    simp only [e_95_36, e_95_39, e_95_41, e_95_43, e_95_44, e_95_45, e_95_48, e_95_49, e_95_52, e_95_53, e_95_54, e_95_55, e_95_56, e_95_58, e_95_59, e_95_61, e_95_62, e_95_65, e_95_66, e_95_67, e_95_68, e_95_69, e_95_70, e_95_71, true_and, and_true, and_self, false_and, and_false, if_true, if_false, ↓reduceIte, Nat.add_eq_left, Nat.left_eq_add, Nat.add_left_cancel_iff, not_false_eq_true, not_true_eq_false, i_pc, List.cons_append, List.nil_append, List.length_cons, List.length_nil, Nat.reduceEqDiff, Nat.reduceAdd, Nat.reduceMul, Nat.reduceSub, Nat.reduceLeDiff, Nat.reduceLT, Int32.reduceLT, Int32.reduceLE, Int32.reduceAdd, Int32.reduceSub, reduceCtorEq, true_or, or_true, or_false, false_or, ne_eq, Nat.zero_le, Option.toList, bI_t hdi2, mo_k hO, mo_r51 hO, mo_k51 hO, mo_l51 hO, mo_r64 hO, mo_k64 hO, mo_l64 hO, h1, h2, hpc, nI_1, nI_cl (show t < 2 ^ 31 by omega), nI_cl (show p + i < 2 ^ 31 by omega), htx (p + i) (by omega), show ((1 : Int32) = 0) = False from by decide]
    have hgo := ih (i + 1) (sI h 64 t (nI (p + (i + 1)))) hO (by omega) (fun j hj => by rw [hI_sI, if_neg (by omega)]; exact htx j hj) (by rw [hI_sI, if_pos ⟨rfl, rfl⟩]) (fun j h7 h8 => hd j (by omega) (by omega)) (by rw [show i + 1 + n = i + (n + 1) by omega]; exact hnd)
    rw [sI_same, show i + 1 + n = i + (n + 1) by omega] at hgo
    exact hgo hX
theorem m_rt_dig {p n : Nat} {mm : Int32} {tx : Nat → Int32} (hO : MO h) (ht : t < 12) (htx : ∀ j, j < 6384 → hI h 51 j = tx j) (hp : hI h 64 t = nI p) (hn : 0 < n) (hpn : p + n < 6384) (hd : ∀ j, j < n → isDg (tx (p + j))) (hnd : ¬ isDg (tx (p + n))) : Rn xs L (d + 2) 95 [.inr (some 49), .inl mm, .inl (nI t)] h (none, sI (sI (sI h 64 t (nI (p + n))) 49 27 2) 49 28 (dvI tx p n)) := by
  have h1 : vp_in (nI t) 12 := vin ht (by decide)
  have h2 : vp_in (nI p) 6384 := vin (by omega) (by decide)
  have hd0 : 48 ≤ tx p ∧ tx p ≤ 57 := hd 0 hn
  rw [i_rn]
  show X xs L (d + 1) 95 (0, [some (.inr (some 49)), some (.inl mm), some (.inl (nI t)), none, none], [], h) _
  simp only [e_95_0, e_95_1, e_95_4, e_95_5, e_95_8, e_95_9, e_95_10, e_95_11, e_95_12, e_95_13, true_and, and_true, and_self, false_and, and_false, if_true, if_false, ↓reduceIte, Nat.add_eq_left, Nat.left_eq_add, Nat.add_left_cancel_iff, not_false_eq_true, not_true_eq_false, i_pc, List.cons_append, List.nil_append, List.length_cons, List.length_nil, Nat.reduceEqDiff, Nat.reduceAdd, Nat.reduceMul, Nat.reduceSub, Nat.reduceLeDiff, Nat.reduceLT, Int32.reduceLT, Int32.reduceLE, Int32.reduceAdd, Int32.reduceSub, reduceCtorEq, true_or, or_true, or_false, false_or, ne_eq, Nat.zero_le, mo_k hO, mo_r51 hO, mo_k51 hO, mo_l51 hO, mo_r64 hO, mo_k64 hO, mo_l64 hO, h1, h2, hp, nI_cl (show t < 2 ^ 31 by omega), nI_cl (show p < 2 ^ 31 by omega), htx p (by omega)]
  refine ⟨_, m_isDig, ?_⟩
  simp only [e_95_16, e_95_19, e_95_20, true_and, and_true, and_self, false_and, and_false, if_true, if_false, ↓reduceIte, Nat.add_eq_left, Nat.left_eq_add, Nat.add_left_cancel_iff, not_false_eq_true, not_true_eq_false, i_pc, List.cons_append, List.nil_append, List.length_cons, List.length_nil, Nat.reduceEqDiff, Nat.reduceAdd, Nat.reduceMul, Nat.reduceSub, Nat.reduceLeDiff, Nat.reduceLT, Int32.reduceLT, Int32.reduceLE, Int32.reduceAdd, Int32.reduceSub, reduceCtorEq, true_or, or_true, or_false, false_or, ne_eq, Nat.zero_le, Option.toList, bI_t hd0, show ((1 : Int32) = 0) = False from by decide]
  refine m_dig_loop (p := p) (tx := tx) ht n 0 h hO (by omega) htx hp (fun j h7 h8 => hd j (by omega)) (by rw [Nat.zero_add]; exact hnd) ?_
  simp only [Nat.zero_add, e_95_74, e_95_75, e_95_76, e_95_79, e_95_80, e_95_82, e_95_85, e_95_218, true_and, and_true, and_self, false_and, and_false, if_true, if_false, ↓reduceIte, Nat.add_eq_left, Nat.left_eq_add, Nat.add_left_cancel_iff, not_false_eq_true, not_true_eq_false, i_pc, List.cons_append, List.nil_append, List.length_cons, List.length_nil, Nat.reduceEqDiff, Nat.reduceAdd, Nat.reduceMul, Nat.reduceSub, Nat.reduceLeDiff, Nat.reduceLT, Int32.reduceLT, Int32.reduceLE, Int32.reduceAdd, Int32.reduceSub, reduceCtorEq, true_or, or_true, or_false, false_or, ne_eq, Nat.zero_le, hK_sI, hL_sI, hR_sI, hI_sI, hN_sI, hU_sI, hK_sR, hL_sR, hI_sR, hR_sR, hN_sR, hU_sR, hK_sA, hL_sA, hR_sA, hI_sA, hN_sA, hU_sA, mo_k hO]
theorem m_rt_var {p v : Nat} {mm : Int32} (hO : MO h) (ht : t < 12) (hp : hI h 64 t = nI p) (hp2 : p < 6384) (hc : hI h 51 p = nI (97 + v)) (hv : v < 6) : Rn xs L (d + 2) 95 [.inr (some 49), .inl mm, .inl (nI t)] h (none, sI (sI (sI h 64 t (nI (p + 1))) 49 27 2) 49 28 (hI h 66 (6 * t + v))) := by
  have h1 : vp_in (nI t) 12 := vin ht (by decide)
  have h2 : vp_in (nI p) 6384 := vin hp2 (by decide)
  have h3 : ¬ (48 ≤ nI (97 + v) ∧ nI (97 + v) ≤ 57) := fun z => absurd z.2 (nI_ge (a := 57) (b := 97 + v) (by omega) (by omega))
  have h4 : 97 ≤ nI (97 + v) ∧ nI (97 + v) ≤ 102 := ⟨nI_le (a := 97) (by omega) (by omega), nI_le (b := 102) (by omega) (by decide)⟩
  have h5 : vp_in (nI (6 * t + v)) 72 := vin (by omega) (by decide)
  have e1 : (6 : Int32) * nI t + nI (97 + v) - 97 = nI (6 * t + v) := by rw [six, show (97 : Int32) = nI 97 from rfl, pk_sub (by omega)]; congr 1; omega
  rw [i_rn]
  show X xs L (d + 1) 95 (0, [some (.inr (some 49)), some (.inl mm), some (.inl (nI t)), none, none], [], h) _
  simp only [e_95_0, e_95_1, e_95_4, e_95_5, e_95_8, e_95_9, e_95_10, e_95_11, e_95_12, e_95_13, true_and, and_true, and_self, false_and, and_false, if_true, if_false, ↓reduceIte, Nat.add_eq_left, Nat.left_eq_add, Nat.add_left_cancel_iff, not_false_eq_true, not_true_eq_false, i_pc, List.cons_append, List.nil_append, List.length_cons, List.length_nil, Nat.reduceEqDiff, Nat.reduceAdd, Nat.reduceMul, Nat.reduceSub, Nat.reduceLeDiff, Nat.reduceLT, Int32.reduceLT, Int32.reduceLE, Int32.reduceAdd, Int32.reduceSub, reduceCtorEq, true_or, or_true, or_false, false_or, ne_eq, Nat.zero_le, mo_k hO, mo_r51 hO, mo_k51 hO, mo_l51 hO, mo_r64 hO, mo_k64 hO, mo_l64 hO, h1, h2, hp, hc, nI_cl (show t < 2 ^ 31 by omega), nI_cl (show p < 2 ^ 31 by omega)]
  refine ⟨_, m_isDig, ?_⟩
  simp only [e_95_16, e_95_88, e_95_89, true_and, and_true, and_self, false_and, and_false, if_true, if_false, ↓reduceIte, Nat.add_eq_left, Nat.left_eq_add, Nat.add_left_cancel_iff, not_false_eq_true, not_true_eq_false, i_pc, List.cons_append, List.nil_append, List.length_cons, List.length_nil, Nat.reduceEqDiff, Nat.reduceAdd, Nat.reduceMul, Nat.reduceSub, Nat.reduceLeDiff, Nat.reduceLT, Int32.reduceLT, Int32.reduceLE, Int32.reduceAdd, Int32.reduceSub, reduceCtorEq, true_or, or_true, or_false, false_or, ne_eq, Nat.zero_le, Option.toList, bI_f h3]
  refine ⟨_, m_isVar, ?_⟩
  simp only [e_95_92, e_95_95, e_95_96, e_95_99, e_95_100, e_95_101, e_95_102, e_95_103, e_95_104, e_95_105, e_95_106, e_95_107, e_95_110, e_95_111, e_95_112, e_95_115, e_95_117, e_95_118, e_95_119, e_95_120, e_95_121, e_95_123, e_95_124, e_95_125, e_95_128, e_95_218, true_and, and_true, and_self, false_and, and_false, if_true, if_false, ↓reduceIte, Nat.add_eq_left, Nat.left_eq_add, Nat.add_left_cancel_iff, not_false_eq_true, not_true_eq_false, i_pc, List.cons_append, List.nil_append, List.length_cons, List.length_nil, Nat.reduceEqDiff, Nat.reduceAdd, Nat.reduceMul, Nat.reduceSub, Nat.reduceLeDiff, Nat.reduceLT, Int32.reduceLT, Int32.reduceLE, Int32.reduceAdd, Int32.reduceSub, reduceCtorEq, true_or, or_true, or_false, false_or, ne_eq, Nat.zero_le, hK_sI, hL_sI, hR_sI, hI_sI, hN_sI, hU_sI, hK_sR, hL_sR, hI_sR, hR_sR, hN_sR, hU_sR, hK_sA, hL_sA, hR_sA, hI_sA, hN_sA, hU_sA, Option.toList, bI_t h4, show ((1 : Int32) = 0) = False from by decide, mo_k hO, mo_r64 hO, mo_k64 hO, mo_l64 hO, mo_r66 hO, mo_k66 hO, mo_l66 hO, h1, h5, e1, hp, nI_1, nI_cl (show t < 2 ^ 31 by omega), nI_cl (show 6 * t + v < 2 ^ 31 by omega)]
theorem m_rt_open {p l : Nat} {mm : Int32} (hO : MO h) (ht : t < 12) (hp : hI h 64 t = nI p) (hp2 : p < 6384) (hc : hI h 51 p = 40) (hl : hI h 67 t = nI l - 1) (hl6 : l < 6) : Rn xs L (d + 2) 95 [.inr (some 49), .inl mm, .inl (nI t)] h (none, sI (sI (sI (sI (sI h 64 t (nI (p + 1))) 67 t (nI l)) 69 (6 * t + l) 0) 70 (6 * t + l) 1) 71 (6 * t + l) 0) := by
  have h1 : vp_in (nI t) 12 := vin ht (by decide)
  have h2 : vp_in (nI p) 6384 := vin hp2 (by decide)
  rw [i_rn]
  show X xs L (d + 1) 95 (0, [some (.inr (some 49)), some (.inl mm), some (.inl (nI t)), none, none], [], h) _
  simp only [e_95_0, e_95_1, e_95_4, e_95_5, e_95_8, e_95_9, e_95_10, e_95_11, e_95_12, e_95_13, true_and, and_true, and_self, false_and, and_false, if_true, if_false, ↓reduceIte, Nat.add_eq_left, Nat.left_eq_add, Nat.add_left_cancel_iff, not_false_eq_true, not_true_eq_false, i_pc, List.cons_append, List.nil_append, List.length_cons, List.length_nil, Nat.reduceEqDiff, Nat.reduceAdd, Nat.reduceMul, Nat.reduceSub, Nat.reduceLeDiff, Nat.reduceLT, Int32.reduceLT, Int32.reduceLE, Int32.reduceAdd, Int32.reduceSub, reduceCtorEq, true_or, or_true, or_false, false_or, ne_eq, Nat.zero_le, mo_k hO, mo_r51 hO, mo_k51 hO, mo_l51 hO, mo_r64 hO, mo_k64 hO, mo_l64 hO, h1, h2, hp, hc, nI_cl (show t < 2 ^ 31 by omega), nI_cl (show p < 2 ^ 31 by omega)]
  refine ⟨_, m_isDig, ?_⟩
  simp only [e_95_16, e_95_88, e_95_89, true_and, and_true, and_self, false_and, and_false, if_true, if_false, ↓reduceIte, Nat.add_eq_left, Nat.left_eq_add, Nat.add_left_cancel_iff, not_false_eq_true, not_true_eq_false, i_pc, List.cons_append, List.nil_append, List.length_cons, List.length_nil, Nat.reduceEqDiff, Nat.reduceAdd, Nat.reduceMul, Nat.reduceSub, Nat.reduceLeDiff, Nat.reduceLT, Int32.reduceLT, Int32.reduceLE, Int32.reduceAdd, Int32.reduceSub, reduceCtorEq, true_or, or_true, or_false, false_or, ne_eq, Nat.zero_le, Option.toList, bI_f (show ¬ ((48 : Int32) ≤ 40 ∧ (40 : Int32) ≤ 57) by decide)]
  refine ⟨_, m_isVar, ?_⟩
  simp only [e_95_92, e_95_131, e_95_132, e_95_134, e_95_137, e_95_138, e_95_141, e_95_142, e_95_143, e_95_144, e_95_145, e_95_146, e_95_147, e_95_148, e_95_149, e_95_150, true_and, and_true, and_self, false_and, and_false, if_true, if_false, ↓reduceIte, Nat.add_eq_left, Nat.left_eq_add, Nat.add_left_cancel_iff, not_false_eq_true, not_true_eq_false, i_pc, List.cons_append, List.nil_append, List.length_cons, List.length_nil, Nat.reduceEqDiff, Nat.reduceAdd, Nat.reduceMul, Nat.reduceSub, Nat.reduceLeDiff, Nat.reduceLT, Int32.reduceLT, Int32.reduceLE, Int32.reduceAdd, Int32.reduceSub, reduceCtorEq, true_or, or_true, or_false, false_or, ne_eq, Nat.zero_le, hK_sI, hL_sI, hR_sI, hI_sI, hN_sI, hU_sI, hK_sR, hL_sR, hI_sR, hR_sR, hN_sR, hU_sR, hK_sA, hL_sA, hR_sA, hI_sA, hN_sA, hU_sA, Option.toList, bI_f (show ¬ ((97 : Int32) ≤ 40 ∧ (40 : Int32) ≤ 102) by decide), mo_k hO, mo_r64 hO, mo_k64 hO, mo_l64 hO, h1, hp, nI_1, nI_cl (show t < 2 ^ 31 by omega)]
  refine ⟨_, m_open (l := l) (h := sI h 64 t (nI (p + 1))) hO ht (by rw [hI_sI, if_neg (by omega)]; exact hl) hl6, ?_⟩
  simp only [e_95_153, e_95_218, true_and, and_true, and_self, false_and, and_false, if_true, if_false, ↓reduceIte, Nat.add_eq_left, Nat.left_eq_add, Nat.add_left_cancel_iff, not_false_eq_true, not_true_eq_false, i_pc, List.cons_append, List.nil_append, List.length_cons, List.length_nil, Nat.reduceEqDiff, Nat.reduceAdd, Nat.reduceMul, Nat.reduceSub, Nat.reduceLeDiff, Nat.reduceLT, Int32.reduceLT, Int32.reduceLE, Int32.reduceAdd, Int32.reduceSub, reduceCtorEq, true_or, or_true, or_false, false_or, ne_eq, Nat.zero_le, Option.toList]
theorem m_rt_fun {p f l : Nat} {mm : Int32} (hO : MO h) (ht : t < 12) (hp : hI h 64 t = nI p) (hp2 : p + 2 < 6384) (hc : hI h 51 p = nI (65 + f)) (hf : f < 4) (hc2 : ¬ hI h 51 (p + 2) = 41) (hl : hI h 67 t = nI l - 1) (hl6 : l < 6) : Rn xs L (d + 2) 95 [.inr (some 49), .inl mm, .inl (nI t)] h (none, sI (sI (sI (sI (sI h 64 t (nI (p + 2))) 67 t (nI l)) 69 (6 * t + l) 0) 70 (6 * t + l) (nI (2 + f))) 71 (6 * t + l) 0) := by
  have h1 : vp_in (nI t) 12 := vin ht (by decide)
  have h2 : vp_in (nI p) 6384 := vin (by omega) (by decide)
  have h22 : vp_in (nI (p + 2)) 6384 := vin (by omega) (by decide)
  have h3 : ¬ (48 ≤ nI (65 + f) ∧ nI (65 + f) ≤ 57) := fun z => absurd z.2 (nI_ge (a := 57) (b := 65 + f) (by omega) (by omega))
  have h4 : ¬ (97 ≤ nI (65 + f) ∧ nI (65 + f) ≤ 102) := fun z => absurd z.1 (nI_ge (b := 97) (a := 65 + f) (by omega) (by decide))
  have h5 : ¬ nI (65 + f) = 40 := fun e => by have := (nI_eq (a := 65 + f) (b := 40) (by omega) (by decide)).mp e; omega
  have e1 : (2 : Int32) + nI (65 + f) - 65 = nI (2 + f) := by rw [show (2 : Int32) = nI 2 from rfl, nI_add, show (65 : Int32) = nI 65 from rfl, pk_sub (by omega)]; congr 1; omega
  have e2 : nI p + 2 = nI (p + 2) := by rw [show (2 : Int32) = nI 2 from rfl, nI_add]
  rw [i_rn]
  show X xs L (d + 1) 95 (0, [some (.inr (some 49)), some (.inl mm), some (.inl (nI t)), none, none], [], h) _
  simp only [e_95_0, e_95_1, e_95_4, e_95_5, e_95_8, e_95_9, e_95_10, e_95_11, e_95_12, e_95_13, true_and, and_true, and_self, false_and, and_false, if_true, if_false, ↓reduceIte, Nat.add_eq_left, Nat.left_eq_add, Nat.add_left_cancel_iff, not_false_eq_true, not_true_eq_false, i_pc, List.cons_append, List.nil_append, List.length_cons, List.length_nil, Nat.reduceEqDiff, Nat.reduceAdd, Nat.reduceMul, Nat.reduceSub, Nat.reduceLeDiff, Nat.reduceLT, Int32.reduceLT, Int32.reduceLE, Int32.reduceAdd, Int32.reduceSub, reduceCtorEq, true_or, or_true, or_false, false_or, ne_eq, Nat.zero_le, mo_k hO, mo_r51 hO, mo_k51 hO, mo_l51 hO, mo_r64 hO, mo_k64 hO, mo_l64 hO, h1, h2, hp, hc, nI_cl (show t < 2 ^ 31 by omega), nI_cl (show p < 2 ^ 31 by omega)]
  refine ⟨_, m_isDig, ?_⟩
  simp only [e_95_16, e_95_88, e_95_89, true_and, and_true, and_self, false_and, and_false, if_true, if_false, ↓reduceIte, Nat.add_eq_left, Nat.left_eq_add, Nat.add_left_cancel_iff, not_false_eq_true, not_true_eq_false, i_pc, List.cons_append, List.nil_append, List.length_cons, List.length_nil, Nat.reduceEqDiff, Nat.reduceAdd, Nat.reduceMul, Nat.reduceSub, Nat.reduceLeDiff, Nat.reduceLT, Int32.reduceLT, Int32.reduceLE, Int32.reduceAdd, Int32.reduceSub, reduceCtorEq, true_or, or_true, or_false, false_or, ne_eq, Nat.zero_le, Option.toList, bI_f h3]
  refine ⟨_, m_isVar, ?_⟩
  simp only [e_95_92, e_95_131, e_95_132, e_95_134, e_95_156, e_95_157, e_95_160, e_95_161, e_95_164, e_95_165, e_95_166, e_95_167, e_95_168, e_95_169, e_95_171, e_95_197, e_95_198, e_95_201, e_95_202, e_95_203, e_95_204, e_95_205, e_95_206, e_95_207, e_95_208, e_95_209, e_95_210, e_95_211, e_95_212, e_95_214, e_95_215, true_and, and_true, and_self, false_and, and_false, if_true, if_false, ↓reduceIte, Nat.add_eq_left, Nat.left_eq_add, Nat.add_left_cancel_iff, not_false_eq_true, not_true_eq_false, i_pc, List.cons_append, List.nil_append, List.length_cons, List.length_nil, Nat.reduceEqDiff, Nat.reduceAdd, Nat.reduceMul, Nat.reduceSub, Nat.reduceLeDiff, Nat.reduceLT, Int32.reduceLT, Int32.reduceLE, Int32.reduceAdd, Int32.reduceSub, reduceCtorEq, true_or, or_true, or_false, false_or, ne_eq, Nat.zero_le, hK_sI, hL_sI, hR_sI, hI_sI, hN_sI, hU_sI, hK_sR, hL_sR, hI_sR, hR_sR, hN_sR, hU_sR, hK_sA, hL_sA, hR_sA, hI_sA, hN_sA, hU_sA, Option.toList, bI_f h4, h5, mo_k hO, mo_r51 hO, mo_k51 hO, mo_l51 hO, mo_r64 hO, mo_k64 hO, mo_l64 hO, h1, h22, hp, e2, hc2, e1, nI_cl (show t < 2 ^ 31 by omega), nI_cl (show p + 2 < 2 ^ 31 by omega)]
  refine ⟨_, m_open (l := l) (h := sI h 64 t (nI (p + 2))) hO ht (by rw [hI_sI, if_neg (by omega)]; exact hl) hl6, ?_⟩
  simp only [e_95_218, true_and, and_true, and_self, false_and, and_false, if_true, if_false, ↓reduceIte, Nat.add_eq_left, Nat.left_eq_add, Nat.add_left_cancel_iff, not_false_eq_true, not_true_eq_false, i_pc, List.cons_append, List.nil_append, List.length_cons, List.length_nil, Nat.reduceEqDiff, Nat.reduceAdd, Nat.reduceMul, Nat.reduceSub, Nat.reduceLeDiff, Nat.reduceLT, Int32.reduceLT, Int32.reduceLE, Int32.reduceAdd, Int32.reduceSub, reduceCtorEq, true_or, or_true, or_false, false_or, ne_eq, Nat.zero_le, Option.toList]
theorem m_rt_call {p f : Nat} {h2 : Hp} (hO : MO h) (ht : t < 12) (hp : hI h 64 t = nI p) (hp2 : p + 2 < 6384) (hc : hI h 51 p = nI (65 + f)) (hf : f < 4) (hc2 : hI h 51 (p + 2) = 41) (hr : Rn xs L (d + 3) 92 [.inr (some 49), .inl (nI m), .inl (nI f), .inl (nI 0)] (sI h 64 t (nI (p + 3))) (none, h2)) : Rn xs L (d + 4) 95 [.inr (some 49), .inl (nI m), .inl (nI t)] h (none, h2) := by
  have h1 : vp_in (nI t) 12 := vin ht (by decide)
  have h2' : vp_in (nI p) 6384 := vin (by omega) (by decide)
  have h22 : vp_in (nI (p + 2)) 6384 := vin (by omega) (by decide)
  have h3 : ¬ (48 ≤ nI (65 + f) ∧ nI (65 + f) ≤ 57) := fun z => absurd z.2 (nI_ge (a := 57) (b := 65 + f) (by omega) (by omega))
  have h4 : ¬ (97 ≤ nI (65 + f) ∧ nI (65 + f) ≤ 102) := fun z => absurd z.1 (nI_ge (b := 97) (a := 65 + f) (by omega) (by decide))
  have h5 : ¬ nI (65 + f) = 40 := fun e => by have := (nI_eq (a := 65 + f) (b := 40) (by omega) (by decide)).mp e; omega
  have e1 : nI (65 + f) - 65 = nI f := by rw [show (65 : Int32) = nI 65 from rfl, pk_sub (by omega)]; congr 1; omega
  have e2 : nI p + 2 = nI (p + 2) := by rw [show (2 : Int32) = nI 2 from rfl, nI_add]
  have e3 : nI p + 3 = nI (p + 3) := by rw [show (3 : Int32) = nI 3 from rfl, nI_add]
  rw [i_rn]
  show X xs L (d + 3) 95 (0, [some (.inr (some 49)), some (.inl (nI m)), some (.inl (nI t)), none, none], [], h) _
  simp only [e_95_0, e_95_1, e_95_4, e_95_5, e_95_8, e_95_9, e_95_10, e_95_11, e_95_12, e_95_13, true_and, and_true, and_self, false_and, and_false, if_true, if_false, ↓reduceIte, Nat.add_eq_left, Nat.left_eq_add, Nat.add_left_cancel_iff, not_false_eq_true, not_true_eq_false, i_pc, List.cons_append, List.nil_append, List.length_cons, List.length_nil, Nat.reduceEqDiff, Nat.reduceAdd, Nat.reduceMul, Nat.reduceSub, Nat.reduceLeDiff, Nat.reduceLT, Int32.reduceLT, Int32.reduceLE, Int32.reduceAdd, Int32.reduceSub, reduceCtorEq, true_or, or_true, or_false, false_or, ne_eq, Nat.zero_le, mo_k hO, mo_r51 hO, mo_k51 hO, mo_l51 hO, mo_r64 hO, mo_k64 hO, mo_l64 hO, h1, h2', hp, hc, nI_cl (show t < 2 ^ 31 by omega), nI_cl (show p < 2 ^ 31 by omega)]
  refine ⟨_, m_isDig, ?_⟩
  simp only [e_95_16, e_95_88, e_95_89, true_and, and_true, and_self, false_and, and_false, if_true, if_false, ↓reduceIte, Nat.add_eq_left, Nat.left_eq_add, Nat.add_left_cancel_iff, not_false_eq_true, not_true_eq_false, i_pc, List.cons_append, List.nil_append, List.length_cons, List.length_nil, Nat.reduceEqDiff, Nat.reduceAdd, Nat.reduceMul, Nat.reduceSub, Nat.reduceLeDiff, Nat.reduceLT, Int32.reduceLT, Int32.reduceLE, Int32.reduceAdd, Int32.reduceSub, reduceCtorEq, true_or, or_true, or_false, false_or, ne_eq, Nat.zero_le, Option.toList, bI_f h3]
  refine ⟨_, m_isVar, ?_⟩
  simp only [e_95_92, e_95_131, e_95_132, e_95_134, e_95_156, e_95_157, e_95_160, e_95_161, e_95_164, e_95_165, e_95_166, e_95_167, e_95_168, e_95_169, e_95_171, e_95_174, e_95_175, e_95_178, e_95_179, e_95_180, e_95_181, e_95_182, e_95_183, e_95_184, e_95_185, e_95_186, e_95_187, e_95_189, e_95_190, e_95_191, true_and, and_true, and_self, false_and, and_false, if_true, if_false, ↓reduceIte, Nat.add_eq_left, Nat.left_eq_add, Nat.add_left_cancel_iff, not_false_eq_true, not_true_eq_false, i_pc, List.cons_append, List.nil_append, List.length_cons, List.length_nil, Nat.reduceEqDiff, Nat.reduceAdd, Nat.reduceMul, Nat.reduceSub, Nat.reduceLeDiff, Nat.reduceLT, Int32.reduceLT, Int32.reduceLE, Int32.reduceAdd, Int32.reduceSub, reduceCtorEq, true_or, or_true, or_false, false_or, ne_eq, Nat.zero_le, hK_sI, hL_sI, hR_sI, hI_sI, hN_sI, hU_sI, hK_sR, hL_sR, hI_sR, hR_sR, hN_sR, hU_sR, hK_sA, hL_sA, hR_sA, hI_sA, hN_sA, hU_sA, Option.toList, bI_f h4, h5, mo_k hO, mo_r51 hO, mo_k51 hO, mo_l51 hO, mo_r64 hO, mo_k64 hO, mo_l64 hO, h1, h22, hp, e2, e3, hc2, e1, nI_cl (show t < 2 ^ 31 by omega), nI_cl (show p + 2 < 2 ^ 31 by omega)]
  refine ⟨_, hr, ?_⟩
  simp only [e_95_194, e_95_218, true_and, and_true, and_self, false_and, and_false, if_true, if_false, ↓reduceIte, Nat.add_eq_left, Nat.left_eq_add, Nat.add_left_cancel_iff, not_false_eq_true, not_true_eq_false, i_pc, List.cons_append, List.nil_append, List.length_cons, List.length_nil, Nat.reduceEqDiff, Nat.reduceAdd, Nat.reduceMul, Nat.reduceSub, Nat.reduceLeDiff, Nat.reduceLT, Int32.reduceLT, Int32.reduceLE, Int32.reduceAdd, Int32.reduceSub, reduceCtorEq, true_or, or_true, or_false, false_or, ne_eq, Nat.zero_le, Option.toList]
end MF

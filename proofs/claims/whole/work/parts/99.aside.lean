-- THE RUN: an expression aside
def asH (row t : Nat) (h : Hp) : Hp := sI (sI (sI (sI (sI (sI (sA (sI h 62 1 1) 66 (fun j => if 36 ≤ j ∧ j < 42 then hI h 66 (6 * t + (j - 36)) else hI h 66 j)) 64 6 (nI (152 * row))) 67 6 (nI 0)) 69 36 0) 70 36 0) 71 36 0) 49 27 1
section RT
variable {xs : Nat → Int32} {L d : Nat} {g : CTX} {h hc hm hc2 hm2 hcV : Hp} {q b M N : Nat} {u : Nat} {v w : Int32} {res : Res} {row t : Nat}
theorem m_as_loop (ht : t < 6) {a1 a4 : Option AV} : ∀ (m i : Nat) (h : Hp), i + m = 6 → MO h → X xs L d 105 (41, [some (.inr (some 49)), a1, some (.inl (nI t)), some (.inl (nI 6)), a4], [], sA h 66 (fun j => if 36 + i ≤ j ∧ j < 42 then hI h 66 (6 * t + (j - 36)) else hI h 66 j)) res → X xs L d 105 (9, [some (.inr (some 49)), a1, some (.inl (nI t)), some (.inl (nI i)), a4], [], h) res := by
  intro m
  induction m with
  | zero =>
    intro i h hi hO hX
    have : i = 6 := by omega
    subst this
    rw [sA_id (fun j => if_neg (by omega))] at hX
    simp only [e_105_9, e_105_10, e_105_12, true_and, and_true, and_self, false_and, and_false, if_true, if_false, ↓reduceIte, Nat.add_eq_left, Nat.left_eq_add, Nat.add_left_cancel_iff, not_false_eq_true, not_true_eq_false, i_pc, List.cons_append, List.nil_append, List.length_cons, List.length_nil, Nat.reduceEqDiff, Nat.reduceAdd, Nat.reduceMul, Nat.reduceSub, Nat.reduceLeDiff, Nat.reduceLT, Int32.reduceLT, Int32.reduceLE, Int32.reduceAdd, Int32.reduceSub, reduceCtorEq, true_or, or_true, or_false, false_or, ne_eq, Nat.zero_le, show ((6 : Int32) ≤ nI 6) = True from by decide]
    exact hX
  | succ m ih =>
    intro i h hi hO hX
    have c1 : ¬ (6 : Int32) ≤ nI i := nI_ge (b := 6) (by omega) (by decide)
    have e1 : (36 : Int32) + nI i = nI (36 + i) := by rw [show (36 : Int32) = nI 36 from rfl, nI_add]
    have c2 : vp_in (nI (36 + i)) 72 := vin (by omega) (by decide)
    have c3 : vp_in (nI (6 * t + i)) 72 := vin (by omega) (by decide)
    rw [e_105_9]
    simp only [e_105_10, e_105_12, e_105_15, e_105_16, e_105_19, e_105_21, e_105_22, e_105_23, e_105_24, e_105_27, e_105_29, e_105_30, e_105_31, e_105_32, e_105_33, e_105_34, e_105_35, e_105_38, true_and, and_true, and_self, false_and, and_false, if_true, if_false, ↓reduceIte, Nat.add_eq_left, Nat.left_eq_add, Nat.add_left_cancel_iff, not_false_eq_true, not_true_eq_false, i_pc, List.cons_append, List.nil_append, List.length_cons, List.length_nil, Nat.reduceEqDiff, Nat.reduceAdd, Nat.reduceMul, Nat.reduceSub, Nat.reduceLeDiff, Nat.reduceLT, Int32.reduceLT, Int32.reduceLE, Int32.reduceAdd, Int32.reduceSub, reduceCtorEq, true_or, or_true, or_false, false_or, ne_eq, Nat.zero_le, mo_k hO, mo_r66 hO, mo_k66 hO, mo_l66 hO, c1, c2, c3, e1, six, nI_1, nI_cl (show 36 + i < 2 ^ 31 by omega), nI_cl (show 6 * t + i < 2 ^ 31 by omega)]
    refine ih (i + 1) _ (by omega) hO ?_
    have e : sA (sI h 66 (36 + i) (hI h 66 (6 * t + i))) 66 (fun j => if 36 + (i + 1) ≤ j ∧ j < 42 then hI (sI h 66 (36 + i) (hI h 66 (6 * t + i))) 66 (6 * t + (j - 36)) else hI (sI h 66 (36 + i) (hI h 66 (6 * t + i))) 66 j) = sA h 66 (fun j => if 36 + i ≤ j ∧ j < 42 then hI h 66 (6 * t + (j - 36)) else hI h 66 j) := by
      rw [sA_sI]
      refine sA_congr (fun j => ?_)
      by_cases c : j = 36 + i
      · subst c
        rw [if_neg (by omega), if_pos (by omega), hI_is, show 36 + i - 36 = i by omega]
      · by_cases c4 : 36 + (i + 1) ≤ j ∧ j < 42
        · rw [if_pos c4, if_pos (show 36 + i ≤ j ∧ j < 42 by omega), hI_ne (by omega)]
        · rw [if_neg c4, if_neg (show ¬ (36 + i ≤ j ∧ j < 42) by omega), hI_ne (by omega)]
    rw [e]
    exact hX
theorem m_as_pre (hO : MO h) (ht : t < 6) (hrow : row < 42) (hX : X xs L (d + 1) 105 (73, [some (.inr (some 49)), some (.inl (nI row)), some (.inl (nI t)), some (.inl (nI 6)), none], [], asH row t h) res) : Rn xs L (d + 2) 105 [.inr (some 49), .inl (nI row), .inl (nI t)] h res := by
  have v1 : vp_in (1 : Int32) 2 := vin (n := 1) (by decide) (by decide)
  have v6 : vp_in (6 : Int32) 12 := vin (n := 6) (by decide) (by decide)
  have e1 : (152 : Int32) * nI row = nI (152 * row) := by rw [show (152 : Int32) = nI 152 from rfl, pk_mul]
  rw [i_rn]
  show X xs L (d + 1) 105 (0, [some (.inr (some 49)), some (.inl (nI row)), some (.inl (nI t)), none, none], [], h) _
  simp only [e_105_0, e_105_1, e_105_4, e_105_5, e_105_6, e_105_7, e_105_8, true_and, and_true, and_self, false_and, and_false, if_true, if_false, ↓reduceIte, Nat.add_eq_left, Nat.left_eq_add, Nat.add_left_cancel_iff, not_false_eq_true, not_true_eq_false, i_pc, List.cons_append, List.nil_append, List.length_cons, List.length_nil, Nat.reduceEqDiff, Nat.reduceAdd, Nat.reduceMul, Nat.reduceSub, Nat.reduceLeDiff, Nat.reduceLT, Int32.reduceLT, Int32.reduceLE, Int32.reduceAdd, Int32.reduceSub, reduceCtorEq, true_or, or_true, or_false, false_or, ne_eq, Nat.zero_le, mo_k hO, mo_r62 hO, mo_k62 hO, mo_l62 hO, v1, show (1 : Int32).toNatClampNeg = 1 from by decide]
  refine m_as_loop ht 6 0 (sI h 62 1 1) (by omega) hO ?_
  simp only [e_105_41, e_105_42, e_105_45, e_105_47, e_105_50, e_105_51, e_105_52, e_105_53, e_105_54, e_105_57, e_105_59, e_105_60, e_105_61, e_105_62, e_105_64, e_105_65, true_and, and_true, and_self, false_and, and_false, if_true, if_false, ↓reduceIte, Nat.add_eq_left, Nat.left_eq_add, Nat.add_left_cancel_iff, not_false_eq_true, not_true_eq_false, i_pc, List.cons_append, List.nil_append, List.length_cons, List.length_nil, Nat.reduceEqDiff, Nat.reduceAdd, Nat.reduceMul, Nat.reduceSub, Nat.reduceLeDiff, Nat.reduceLT, Int32.reduceLT, Int32.reduceLE, Int32.reduceAdd, Int32.reduceSub, reduceCtorEq, true_or, or_true, or_false, false_or, ne_eq, Nat.zero_le, hK_sI, hL_sI, hR_sI, hK_sA, hL_sA, hR_sA, mo_k hO, mo_r64 hO, mo_k64 hO, mo_l64 hO, mo_r67 hO, mo_k67 hO, mo_l67 hO, v6, e1, show (6 : Int32).toNatClampNeg = 6 from by decide]
  refine ⟨_, m_open (l := 0) (t := 6) (by_ := 0) (h := sI (sI (sA (sI h 62 1 1) 66 _) 64 6 (nI (152 * row))) 67 6 (-1)) hO (by decide) (by rw [hI_is]; decide) (by decide), ?_⟩
  simp only [e_105_68, e_105_69, e_105_70, true_and, and_true, and_self, false_and, and_false, if_true, if_false, ↓reduceIte, Nat.add_eq_left, Nat.left_eq_add, Nat.add_left_cancel_iff, not_false_eq_true, not_true_eq_false, i_pc, List.cons_append, List.nil_append, List.length_cons, List.length_nil, Nat.reduceEqDiff, Nat.reduceAdd, Nat.reduceMul, Nat.reduceSub, Nat.reduceLeDiff, Nat.reduceLT, Int32.reduceLT, Int32.reduceLE, Int32.reduceAdd, Int32.reduceSub, reduceCtorEq, true_or, or_true, or_false, false_or, ne_eq, Nat.zero_le, hK_sI, hK_sA, Option.toList, mo_k hO]
  have e2 : (fun j => if 36 + 0 ≤ j ∧ j < 42 then hI (sI h 62 1 1) 66 (6 * t + (j - 36)) else hI (sI h 62 1 1) 66 j) = fun j => if 36 ≤ j ∧ j < 42 then hI h 66 (6 * t + (j - 36)) else hI h 66 j := funext (fun j => by rw [hI_ne (by omega), hI_ne (by omega)])
  rw [e2, sI_same]
  exact hX
/-- the expression that is worked out is good -/
def EXA (g : CTX) : Prop := ∃ J, sm g.ar g.TA 0 true (0, 0, 0) [] = some (g.nA, J) ∧ At g.IA 0 J ∧ g.IA J.length = iw 0 0 ∧ J.length < g.zA
theorem s_aside (hP : PU g) (hm1 : g.m = 1) (hX : EXA g) (hS : SCh g hc) (hSM : SMh g hm) (hE : ESt g u hc hm) (hu : u + 2500 < 2 ^ 31) (h6 : hI hc g.u 6 = nI 1) (h7 : hI hc g.u 7 = nI 0) (hcd : hR hc (g.u + 2) 1 = some g.cA) (hn : hI hc (g.u + 2) 2 = nI 0) (hbA : g.bA = 152 * row) (hv : ∀ v, v < 6 → hI hc (g.u + 3) v = hI hm 66 (6 * t + v)) : DNE xs L d g u hc (asH row t hm) 18000 ∧ UM 1 0 hm (asH row t hm) := by
  have hfl : fl g 0 = true := decide_eq_true ⟨hm1, rfl⟩
  obtain ⟨J, j1, j2, j3, j4⟩ := hX
  have u2 : UM 1 0 hm (asH row t hm) := by
    unfold asH
    refine um_sI (um_sI (um_sI (um_sI (um_sI (um_sI (um_sA (um_sI um_rfl (by unfold OwM; omega)) (fun k2 => ?_)) (by unfold OwM; omega)) (by unfold OwM; omega)) (by unfold OwM; omega)) (by unfold OwM; omega)) (by unfold OwM; omega)) (by unfold OwM; omega)
    by_cases c : 36 ≤ k2 ∧ k2 < 42
    · exact Or.inr (by unfold OwM; omega)
    · rw [if_neg c, hI_ne (by omega)]
      exact Or.inl rfl
  refine ⟨?_, u2⟩
  have hTXA := hP.2.2.1 hm1
  have hB : StB g u hc (asH row t hm) 0 0 0 (0, 0, 0) [] 0 g.nA J 0 := by
    refine ⟨⟨hS, sm_um u2 hSM, by decide, h6, ?_, ⟨rfl, rfl⟩, ⟨?_, fun v hv' => ?_, fun z => by rw [hfl] at z; cases z⟩, fun z => by rw [hfl] at z; cases z⟩, es_same hE rfl (fun _ => rfl) rfl ?_ (fun k => ?_) ?_, ⟨?_, ?_, Nat.zero_le _, Nat.zero_le _, ⟨Or.inl rfl, Or.inl ⟨rfl, rfl, rfl⟩⟩, ⟨?_, ?_, ?_, fun a ha => absurd ha (Nat.not_lt_zero _), fun z => absurd rfl z, trivial⟩, ?_, ?_, hn, fun z => by rw [hfl] at z; cases z⟩, Or.inl ⟨hfl, by rw [Nat.zero_add]; exact j3, by omega, hTXA.2.2 g.nA (Nat.le_refl _) (by have := hTXA.1; omega)⟩, h7, ?_⟩
    · unfold asH
      rw [hm1, hI_ne (by omega), hI_ne (by omega), hI_ne (by omega), hI_ne (by omega), hI_ne (by omega), hI_ne (by omega), hI_sA, if_neg (by omega), hI_is]; rfl
    · rw [hfl]; exact hcd
    · unfold asH
      rw [hm1, hI_ne (by omega), hI_ne (by omega), hI_ne (by omega), hI_ne (by omega), hI_ne (by omega), hI_ne (by omega), hI_sA, if_pos rfl, if_pos (by omega), show 6 * t + (6 * (6 * 1 + 0) + v - 36) = 6 * t + v by omega]
      exact hv v hv'
    · unfold asH
      rw [hI_ne (by omega), hI_ne (by omega), hI_ne (by omega), hI_ne (by omega), hI_ne (by omega), hI_ne (by omega), hI_sA, if_neg (by omega), hI_ne (by omega)]
    · unfold asH
      rw [hI_ne (by omega), hI_ne (by omega), hI_ne (by omega), hI_ne (by omega), hI_ne (by omega), hI_ne (by omega), hI_sA, if_neg (by omega), hI_ne (by omega)]
    · unfold asH
      rw [hI_ne (by omega), hI_ne (by omega), hI_ne (by omega), hI_ne (by omega), hI_ne (by omega), hI_ne (by omega), hI_sA, if_neg (by omega), hI_ne (by omega)]
    · rw [hfl]; exact j1
    · rw [hfl]; exact j2
    · unfold asH
      rw [hm1, List.length_nil, hI_ne (by omega), hI_ne (by omega), hI_is]; rfl
    · unfold asH
      rw [hm1, List.length_nil, hI_ne (by omega), hI_is]; rfl
    · unfold asH
      rw [hm1, List.length_nil, hI_ne (by omega), hI_ne (by omega), hI_ne (by omega), hI_is]
    · unfold asH
      rw [hm1, hfl, hI_ne (by omega), hI_ne (by omega), hI_ne (by omega), hI_ne (by omega), hI_ne (by omega), hI_is]
      show nI (152 * row) = nI (g.bA + 0)
      rw [hbA]; rfl
    · unfold asH
      rw [hm1, hI_ne (by omega), hI_ne (by omega), hI_ne (by omega), hI_ne (by omega), hI_is]; rfl
    · unfold asH
      rw [hI_is]
  exact dne_le ((sim_all (xs := xs) (L := L) (d := d) hP 400).2.1 _ _ _ _ _ _ _ _ _ _ _ _ hB (by omega) (by omega)) (by omega)
end RT

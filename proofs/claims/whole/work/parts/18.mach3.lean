-- enter: a frame more; throwOut: frames go
section MC
variable {xs : Nat → Int32} {L d : Nat} {h : Hp} {res : Res} {μ n : Nat} {v : Int32}
theorem sA_id {o : Nat} {f : Nat → Int32} (hf : ∀ j, f j = hI h o j) : sA h o f = h := by
  refine hp_ext rfl rfl (fun _ => rfl) (fun _ => rfl) (fun a b => ?_) (fun _ _ => rfl)
  rw [hI_sA]
  split
  · next e => rw [e]; exact hf b
  · rfl
theorem sA_sI {o k : Nat} {f : Nat → Int32} {w : Int32} : sA (sI h o k w) o f = sA h o f := by
  refine hp_ext rfl rfl (fun _ => rfl) (fun _ => rfl) (fun a b => ?_) (fun _ _ => rfl)
  rw [hI_sA, hI_sA, hI_sI]
  by_cases e : a = o
  · rw [if_pos e, if_pos e]
  · rw [if_neg e, if_neg e, if_neg (fun z => e z.1)]
theorem sA_sA {o : Nat} {f g : Nat → Int32} : sA (sA h o f) o g = sA h o g := by
  refine hp_ext rfl rfl (fun _ => rfl) (fun _ => rfl) (fun a b => ?_) (fun _ _ => rfl)
  rw [hI_sA, hI_sA, hI_sA]
  by_cases e : a = o
  · rw [if_pos e, if_pos e]
  · rw [if_neg e, if_neg e, if_neg e]
theorem sA_congr {o : Nat} {f g : Nat → Int32} (hf : ∀ j, f j = g j) : sA h o f = sA h o g := by rw [funext hf]
/-- Arrays.fill -/
theorem r_fill_loop {o : Nat} : ∀ (k i : Nat) (h : Hp), i + k = n → n < 2 ^ 31 → hK h o = 20 → hL h o = n → X xs L d 127 (5, [some (.inr (some o)), some (.inl v), some (.inl (nI i)), some (.inl (nI n))], [], h) (none, sA h o (fun j => if i ≤ j ∧ j < n then v else hI h o j)) := by
  intro k
  induction k with
  | zero =>
    intro i h hi hn hk hl
    have h1 : nI n ≤ nI i := nI_le (by omega) (by omega)
    simp only [e_127_5, e_127_6, e_127_7, e_127_10, e_127_11, e_127_12, e_127_13, e_127_14, e_127_17, e_127_20, true_and, and_true, and_self, false_and, and_false, if_true, if_false, ↓reduceIte, Nat.add_eq_left, Nat.left_eq_add, Nat.add_left_cancel_iff, not_false_eq_true, not_true_eq_false, i_pc, List.cons_append, List.nil_append, List.length_cons, List.length_nil, Nat.reduceEqDiff, Nat.reduceAdd, Nat.reduceMul, Nat.reduceSub, Nat.reduceLeDiff, Nat.reduceLT, Int32.reduceLT, Int32.reduceLE, Int32.reduceAdd, Int32.reduceSub, reduceCtorEq, true_or, or_true, or_false, false_or, ne_eq, Nat.zero_le, h1]
    rw [sA_id]
    intro j
    rw [if_neg (by omega)]
  | succ k ih =>
    intro i h hi hn hk hl
    have h1 : ¬ nI n ≤ nI i := nI_ge (by omega) hn
    have h2 : vp_in (nI i) n := vp_in_nI (by omega) hn
    rw [e_127_5]
    simp only [e_127_6, e_127_7, e_127_10, e_127_11, e_127_12, e_127_13, e_127_14, e_127_17, true_and, and_true, and_self, false_and, and_false, if_true, if_false, ↓reduceIte, Nat.add_eq_left, Nat.left_eq_add, Nat.add_left_cancel_iff, not_false_eq_true, not_true_eq_false, i_pc, List.cons_append, List.nil_append, List.length_cons, List.length_nil, Nat.reduceEqDiff, Nat.reduceAdd, Nat.reduceMul, Nat.reduceSub, Nat.reduceLeDiff, Nat.reduceLT, Int32.reduceLT, Int32.reduceLE, Int32.reduceAdd, Int32.reduceSub, reduceCtorEq, true_or, or_true, or_false, false_or, ne_eq, Nat.zero_le, h1, hk, hl, h2, nI_1, nI_cl (show i < 2 ^ 31 by omega)]
    have := ih (i + 1) (sI h o i v) (by omega) hn hk hl
    rw [sA_sI] at this
    rw [sA_congr (g := fun j => if i + 1 ≤ j ∧ j < n then v else hI (sI h o i v) o j)]
    · exact this
    · intro j
      rw [hI_sI]
      by_cases e : j = i
      · subst e
        rw [if_pos (by omega), if_neg (by omega), if_pos ⟨rfl, rfl⟩]
      · by_cases e2 : i ≤ j ∧ j < n
        · rw [if_pos e2, if_pos (by omega)]
        · rw [if_neg e2, if_neg (by omega), if_neg (fun z => e z.2)]
theorem r_fill {o : Nat} (hk : hK h o = 20) (hl : hL h o = n) (hn : n < 2 ^ 31) : Rn xs L (d + 1) 127 [.inr (some o), .inl v] h (none, sA h o (fun j => if j < n then v else hI h o j)) := by
  rw [i_rn]
  show X xs L d 127 (0, [some (.inr (some o)), some (.inl v), none, none], [], h) _
  simp only [e_127_0, e_127_1, e_127_2, e_127_3, e_127_4, true_and, and_true, and_self, false_and, and_false, if_true, if_false, ↓reduceIte, Nat.add_eq_left, Nat.left_eq_add, Nat.add_left_cancel_iff, not_false_eq_true, not_true_eq_false, i_pc, List.cons_append, List.nil_append, List.length_cons, List.length_nil, Nat.reduceEqDiff, Nat.reduceAdd, Nat.reduceMul, Nat.reduceSub, Nat.reduceLeDiff, Nat.reduceLT, Int32.reduceLT, Int32.reduceLE, Int32.reduceAdd, Int32.reduceSub, reduceCtorEq, true_or, or_true, or_false, false_or, ne_eq, Nat.zero_le, hk, hl]
  have := r_fill_loop (xs := xs) (L := L) (d := d) (v := v) (o := o) n 0 h (by omega) hn hk hl
  rw [sA_congr (g := fun j => if 0 ≤ j ∧ j < n then v else hI h o j)]
  · exact this
  · intro j
    simp
/-- a program's object: its code, where its functions begin, how many parameters they have -/
def PG (pg c st pa : Nat) (h : Hp) : Prop := hK h pg = 4 ∧ hR h pg 0 = some c ∧ hR h pg 1 = some st ∧ hR h pg 2 = some pa ∧ hK h st = 20 ∧ hL h st = 4 ∧ hK h pa = 20 ∧ hL h pa = 4
/-- what enter leaves: f the function, k its parameters, t the frames before, n the values before -/
def entH (μ t f n k c : Nat) (s : Int32) (h : Hp) : Hp := sI (sI (sI (sI (sR (sI (sA h (μ + (3 + 2 * t)) (fun j => if j < k then hI h (μ + 14) (n - k + j) else if j < 6 then 0 else hI h (μ + (3 + 2 * t)) j)) μ 7 (nI (n - k))) (μ + (2 + 2 * t)) 1 (some c)) (μ + (2 + 2 * t)) 2 s) (μ + (2 + 2 * t)) 3 (nI (n - k))) (μ + (2 + 2 * t)) 4 (nI f)) μ 6 (nI (t + 1))
theorem r_enter_loop {t : Nat} {a1 : Option AV} : ∀ (k n : Nat) (h : Hp), MI μ h → t < 6 → k ≤ 6 → k ≤ n → n ≤ 120 → hI h μ 7 = nI n →
    (X xs L (d + 1) 15 (50, [some (.inr (some μ)), a1, some (.inr (some (μ + (2 + 2 * t)))), some (.inl (-1))], [], sI (sA h (μ + (3 + 2 * t)) (fun j => if j < k then hI h (μ + 14) (n - k + j) else hI h (μ + (3 + 2 * t)) j)) μ 7 (nI (n - k))) res) →
    X xs L (d + 1) 15 (30, [some (.inr (some μ)), a1, some (.inr (some (μ + (2 + 2 * t)))), some (.inl (nI k - 1))], [], h) res := by
  intro k
  induction k with
  | zero =>
    intro n h hM h6 hk hkn hn hh hX
    have e1 : nI 0 - 1 = -1 := by decide
    rw [e1]
    simp only [e_15_30, e_15_31, true_and, and_true, and_self, false_and, and_false, if_true, if_false, ↓reduceIte, Nat.add_eq_left, Nat.left_eq_add, Nat.add_left_cancel_iff, not_false_eq_true, not_true_eq_false, i_pc, List.cons_append, List.nil_append, List.length_cons, List.length_nil, Nat.reduceEqDiff, Nat.reduceAdd, Nat.reduceMul, Nat.reduceSub, Nat.reduceLeDiff, Nat.reduceLT, Int32.reduceLT, Int32.reduceLE, Int32.reduceAdd, Int32.reduceSub, reduceCtorEq, true_or, or_true, or_false, false_or, ne_eq, Nat.zero_le, show ((-1 : Int32) < 0) = True from by decide]
    have e2 : sI (sA h (μ + (3 + 2 * t)) (fun j => if j < 0 then hI h (μ + 14) (n - 0 + j) else hI h (μ + (3 + 2 * t)) j)) μ 7 (nI (n - 0)) = h := by
      rw [sA_id (fun j => by simp)]
      refine hp_ext rfl rfl (fun _ => rfl) (fun _ => rfl) (fun a b => ?_) (fun _ _ => rfl)
      rw [hI_sI]
      split
      · next e => rw [e.1, e.2, hh]; rfl
      · rfl
    rw [e2] at hX
    exact hX
  | succ k ih =>
    intro n h hM h6 hk hkn hn hh hX
    obtain ⟨q, rfl⟩ : ∃ q, n = q + 1 := ⟨n - 1, by omega⟩
    obtain ⟨m0, m1, m2, m3, m4, m5, m6, m7, m8, m9, m10, m11, mf⟩ := id hM
    obtain ⟨f1, f2, f3, f4, f5⟩ := mf t h6
    have e1 : nI (k + 1) - 1 = nI k := nI_pred k
    rw [e1]
    have h1 : ¬ nI k < 0 := nI_pos (by omega)
    have h2 : vp_in (nI k) 6 := vp_in_nI (by omega) (by decide)
    simp only [e_15_30, e_15_31, e_15_34, e_15_35, e_15_38, e_15_39, e_15_40, true_and, and_true, and_self, false_and, and_false, if_true, if_false, ↓reduceIte, Nat.add_eq_left, Nat.left_eq_add, Nat.add_left_cancel_iff, not_false_eq_true, not_true_eq_false, i_pc, List.cons_append, List.nil_append, List.length_cons, List.length_nil, Nat.reduceEqDiff, Nat.reduceAdd, Nat.reduceMul, Nat.reduceSub, Nat.reduceLeDiff, Nat.reduceLT, Int32.reduceLT, Int32.reduceLE, Int32.reduceAdd, Int32.reduceSub, reduceCtorEq, true_or, or_true, or_false, false_or, ne_eq, Nat.zero_le, h1, f2, f3, m0]
    refine ⟨_, r_pop hM hh (by omega), ?_⟩
    simp only [e_15_43, e_15_44, e_15_47, true_and, and_true, and_self, false_and, and_false, if_true, if_false, ↓reduceIte, Nat.add_eq_left, Nat.left_eq_add, Nat.add_left_cancel_iff, not_false_eq_true, not_true_eq_false, i_pc, List.cons_append, List.nil_append, List.length_cons, List.length_nil, Nat.reduceEqDiff, Nat.reduceAdd, Nat.reduceMul, Nat.reduceSub, Nat.reduceLeDiff, Nat.reduceLT, Int32.reduceLT, Int32.reduceLE, Int32.reduceAdd, Int32.reduceSub, reduceCtorEq, true_or, or_true, or_false, false_or, ne_eq, Nat.zero_le, Option.toList, hK_sI, hL_sI, f4, f5, h2, nI_cl (show k < 2 ^ 31 by omega)]
    rw [show nI k + -1 = nI k - 1 from by rw [Int32.sub_eq_add_neg]]
    refine ih q (sI (sI h μ 7 (nI q)) (μ + (3 + 2 * t)) k (hI h (μ + 14) q)) hM h6 (by omega) (by omega) (by omega) ?_ ?_
    · rw [hI_sI, if_neg (by omega), hI_sI, if_pos ⟨rfl, rfl⟩]
    · have e3 : sI (sA (sI (sI h μ 7 (nI q)) (μ + (3 + 2 * t)) k (hI h (μ + 14) q)) (μ + (3 + 2 * t)) (fun j => if j < k then hI (sI (sI h μ 7 (nI q)) (μ + (3 + 2 * t)) k (hI h (μ + 14) q)) (μ + 14) (q - k + j) else hI (sI (sI h μ 7 (nI q)) (μ + (3 + 2 * t)) k (hI h (μ + 14) q)) (μ + (3 + 2 * t)) j)) μ 7 (nI (q - k)) = sI (sA h (μ + (3 + 2 * t)) (fun j => if j < k + 1 then hI h (μ + 14) (q + 1 - (k + 1) + j) else hI h (μ + (3 + 2 * t)) j)) μ 7 (nI (q + 1 - (k + 1))) := by
        refine hp_ext rfl rfl (fun _ => rfl) (fun _ => rfl) (fun a b => ?_) (fun _ _ => rfl)
        have e4 : q + 1 - (k + 1) = q - k := by omega
        simp only [hI_sI, hI_sA, e4]
        by_cases a1 : a = μ
        · subst a1
          by_cases b1 : b = 7
          · simp [b1]
          · simp [b1]
        · by_cases a2 : a = μ + (3 + 2 * t)
          · subst a2
            have z1 : ¬ μ + 14 = μ + (3 + 2 * t) := by omega
            have z2 : ¬ μ + 14 = μ := by omega
            have z3 : ¬ μ + (3 + 2 * t) = μ := by omega
            simp only [z1, z2, z3, false_and, if_false, if_true, true_and]
            by_cases b1 : b < k
            · rw [if_pos b1, if_pos (by omega)]
            · by_cases b2 : b = k
              · subst b2
                rw [if_neg b1, if_pos rfl, if_pos (by omega)]
                congr 1
                omega
              · rw [if_neg b1, if_neg b2, if_neg (by omega)]
          · simp [a1, a2]
      rw [e3]
      exact hX
theorem r_enter {pg c st pa t f k : Nat} (hM : MI μ h) (hp : hR h μ 3 = some pg) (hP : PG pg c st pa h) (hd : hI h μ 6 = nI t) (h6 : t < 6) (hh : hI h μ 7 = nI n) (hn : n ≤ 120) (hf : f < 4) (hk : hI h pa f = nI k) (hk3 : k ≤ 3) (hkn : k ≤ n) (hpa : pa ≠ μ + (3 + 2 * t) ∧ pa ≠ μ) (hst : st ≠ μ + (3 + 2 * t) ∧ st ≠ μ ∧ st ≠ μ + (2 + 2 * t)) (hpg : pg ≠ μ + (2 + 2 * t)) : Rn xs L (d + 2) 15 [.inr (some μ), .inl (nI f)] h (none, entH μ t f n k c (hI h st f) h) := by
  obtain ⟨m0, m1, m2, m3, m4, m5, m6, m7, m8, m9, m10, m11, mf⟩ := id hM
  obtain ⟨f1, f2, f3, f4, f5⟩ := mf t h6
  obtain ⟨p1, p2, p3, p4, p5, p6, p7, p8⟩ := hP
  have h1 : vp_in (nI t) 6 := vp_in_nI h6 (by decide)
  have h2 : vp_in (nI f) 4 := vp_in_nI hf (by decide)
  rw [i_rn]
  show X xs L (d + 1) 15 (0, [some (.inr (some μ)), some (.inl (nI f)), none, none], [], h) _
  simp only [e_15_0, e_15_1, e_15_4, e_15_5, e_15_8, e_15_9, e_15_10, e_15_11, e_15_14, e_15_15, true_and, and_true, and_self, false_and, and_false, if_true, if_false, ↓reduceIte, Nat.add_eq_left, Nat.left_eq_add, Nat.add_left_cancel_iff, not_false_eq_true, not_true_eq_false, i_pc, List.cons_append, List.nil_append, List.length_cons, List.length_nil, Nat.reduceEqDiff, Nat.reduceAdd, Nat.reduceMul, Nat.reduceSub, Nat.reduceLeDiff, Nat.reduceLT, Int32.reduceLT, Int32.reduceLE, Int32.reduceAdd, Int32.reduceSub, reduceCtorEq, true_or, or_true, or_false, false_or, ne_eq, Nat.zero_le, m0, m1, m4, m5, hd, h1, f1, f2, f3, nI_cl (show t < 2 ^ 31 by omega)]
  refine ⟨_, r_fill f4 f5 (by decide), ?_⟩
  simp only [e_15_18, e_15_19, e_15_22, e_15_25, e_15_26, e_15_27, e_15_28, e_15_29, true_and, and_true, and_self, false_and, and_false, if_true, if_false, ↓reduceIte, Nat.add_eq_left, Nat.left_eq_add, Nat.add_left_cancel_iff, not_false_eq_true, not_true_eq_false, i_pc, List.cons_append, List.nil_append, List.length_cons, List.length_nil, Nat.reduceEqDiff, Nat.reduceAdd, Nat.reduceMul, Nat.reduceSub, Nat.reduceLeDiff, Nat.reduceLT, Int32.reduceLT, Int32.reduceLE, Int32.reduceAdd, Int32.reduceSub, reduceCtorEq, true_or, or_true, or_false, false_or, ne_eq, Nat.zero_le, Option.toList, hK_sA, hL_sA, hR_sA, hI_sA, m0, hp, p1, p4, p7, p8, h2, nI_cl (show f < 2 ^ 31 by omega), hpa.1, hk]
  refine r_enter_loop k n (sA h (μ + (3 + 2 * t)) (fun j => if j < 6 then 0 else hI h (μ + (3 + 2 * t)) j)) hM h6 (by omega) hkn hn ?_ ?_
  · rw [hI_sA, if_neg (by omega)]; exact hh
  · simp only [e_15_50, e_15_51, e_15_52, e_15_55, e_15_58, e_15_61, e_15_62, e_15_63, e_15_66, e_15_69, e_15_70, e_15_71, e_15_74, e_15_75, e_15_76, e_15_79, e_15_82, e_15_83, e_15_84, e_15_87, e_15_88, e_15_89, e_15_92, e_15_93, e_15_94, e_15_97, true_and, and_true, and_self, false_and, and_false, if_true, if_false, ↓reduceIte, Nat.add_eq_left, Nat.left_eq_add, Nat.add_left_cancel_iff, not_false_eq_true, not_true_eq_false, i_pc, List.cons_append, List.nil_append, List.length_cons, List.length_nil, Nat.reduceEqDiff, Nat.reduceAdd, Nat.reduceMul, Nat.reduceSub, Nat.reduceLeDiff, Nat.reduceLT, Int32.reduceLT, Int32.reduceLE, Int32.reduceAdd, Int32.reduceSub, reduceCtorEq, true_or, or_true, or_false, false_or, ne_eq, Nat.zero_le, hK_sA, hL_sA, hR_sA, hK_sI, hL_sI, hR_sI, hK_sR, hL_sR, hR_sR, hI_sR, hI_sI, hI_sA, m0, hp, p1, p2, p3, p5, p6, f2, h2, nI_cl (show f < 2 ^ 31 by omega), hst.1, hst.2.1, hpg, hst.2.2, hd, show ¬ (μ : Nat) = μ + (2 + 2 * t) from by omega, show ¬ (μ : Nat) = μ + (3 + 2 * t) from by omega, show ¬ μ + (2 + 2 * t) = (μ : Nat) from by omega, show ¬ pg = μ + (2 + 2 * t) from hpg, show ¬ 14 = 3 + 2 * t from by omega, nI_1]
    rw [sA_sA]
    unfold entH
    rfl
/-- where what a frame throws is caught: the handler of the instruction before next; -1: nowhere -/
def cHd (μ i ha p : Nat) (h : Hp) : Int32 := hI h ha p
/-- a code's object: instructions, handlers, how many -/
def CO (c ia ha sz : Nat) (h : Hp) : Prop := hK h c = 1 ∧ hR h c 0 = some ia ∧ hR h c 1 = some ha ∧ hI h c 2 = nI sz ∧ hK h ia = 20 ∧ hL h ia = sz ∧ hK h ha = 20 ∧ hL h ha = sz ∧ sz < 2 ^ 31
/-- frame i of the machine μ stands behind its instruction p of the code c -/
def FA (μ i c ia ha sz p : Nat) (h : Hp) : Prop := hR h (μ + (2 + 2 * i)) 1 = some c ∧ CO c ia ha sz h ∧ hI h (μ + (2 + 2 * i)) 2 = nI (p + 1) ∧ p < sz
/-- caught by frame j: the frames above go -/
def cauH (μ j : Nat) (what hd : Int32) (h : Hp) : Hp := sI (sI (sI (sI h μ 6 (nI (j + 1))) μ 7 (hI h (μ + (2 + 2 * j)) 3)) (μ + (3 + 2 * j)) 4 what) (μ + (2 + 2 * j)) 2 hd
/-- caught nowhere -/
def deaH (μ : Nat) (what : Int32) (h : Hp) : Hp := sI (sI (sI h μ 6 0) μ 4 3) μ 5 what
theorem r_throw_loop {what : Int32} {a3 a4 a5 : Option AV} (cf iaf haf szf pf : Nat → Nat) : ∀ (k : Nat) (a3 a4 a5 : Option AV) (h : Hp), MI μ h → k ≤ 6 → (∀ i, i < k → FA μ i (cf i) (iaf i) (haf i) (szf i) (pf i) h) →
    ((∃ j, j < k ∧ hI h (haf j) (pf j) ≠ -1 ∧ (∀ i, j < i → i < k → hI h (haf i) (pf i) = -1) ∧ res = (some (.inl 1), cauH μ j what (hI h (haf j) (pf j)) h)) ∨ ((∀ i, i < k → hI h (haf i) (pf i) = -1) ∧ res = (some (.inl 0), deaH μ what h))) →
    X xs L d 17 (12, [some (.inr (some μ)), some (.inl what), some (.inl (nI k - 1)), a3, a4, a5], [], h) res := by
  intro k
  induction k with
  | zero =>
    intro a3 a4 a5 h hM h6 hF hres
    have m0 := hM.1
    have e1 : nI 0 - 1 = -1 := by decide
    rcases hres with ⟨j, hj, -⟩ | ⟨-, rfl⟩
    · omega
    · rw [e1]
      simp only [e_17_12, e_17_13, e_17_106, e_17_107, e_17_108, e_17_111, e_17_112, e_17_113, e_17_116, e_17_117, e_17_118, e_17_121, e_17_122, true_and, and_true, and_self, false_and, and_false, if_true, if_false, ↓reduceIte, Nat.add_eq_left, Nat.left_eq_add, Nat.add_left_cancel_iff, not_false_eq_true, not_true_eq_false, i_pc, List.cons_append, List.nil_append, List.length_cons, List.length_nil, Nat.reduceEqDiff, Nat.reduceAdd, Nat.reduceMul, Nat.reduceSub, Nat.reduceLeDiff, Nat.reduceLT, Int32.reduceLT, Int32.reduceLE, Int32.reduceAdd, Int32.reduceSub, reduceCtorEq, true_or, or_true, or_false, false_or, ne_eq, Nat.zero_le, show ((-1 : Int32) < 0) = True from by decide, m0, hK_sI]
      rfl
  | succ k ih =>
    intro a3 a4 a5 h hM h6 hF hres
    obtain ⟨m0, m1, m2, m3, m4, m5, m6, m7, m8, m9, m10, m11, mf⟩ := id hM
    obtain ⟨f1, f2, f3, f4, f5⟩ := mf k (by omega)
    obtain ⟨g1, ⟨c1, c2, c3, c4, c5, c6, c7, c8, c9⟩, g2, g3⟩ := hF k (by omega)
    have e1 : nI (k + 1) - 1 = nI k := nI_pred k
    have h1 : ¬ nI k < 0 := nI_pos (by omega)
    have h2 : vp_in (nI k) 6 := vp_in_nI (by omega) (by decide)
    have e2 : nI (pf k + 1) - 1 = nI (pf k) := nI_pred _
    have h3 : ¬ nI (pf k) < 0 := nI_pos (by omega)
    have h4 : ¬ nI (szf k) ≤ nI (pf k) := nI_ge g3 c9
    have h5 : vp_in (nI (pf k)) (szf k) := vp_in_nI g3 c9
    rw [e1, e_17_12]
    simp only [e_17_13, e_17_16, e_17_17, e_17_20, e_17_21, e_17_22, e_17_23, e_17_24, e_17_27, e_17_28, e_17_29, e_17_31, e_17_33, e_17_36, e_17_38, e_17_39, e_17_42, e_17_45, e_17_48, e_17_49, e_17_52, e_17_55, e_17_57, e_17_58, e_17_61, e_17_62, e_17_64, e_17_66, e_17_67, true_and, and_true, and_self, false_and, and_false, if_true, if_false, ↓reduceIte, Nat.add_eq_left, Nat.left_eq_add, Nat.add_left_cancel_iff, not_false_eq_true, not_true_eq_false, i_pc, List.cons_append, List.nil_append, List.length_cons, List.length_nil, Nat.reduceEqDiff, Nat.reduceAdd, Nat.reduceMul, Nat.reduceSub, Nat.reduceLeDiff, Nat.reduceLT, Int32.reduceLT, Int32.reduceLE, Int32.reduceAdd, Int32.reduceSub, reduceCtorEq, true_or, or_true, or_false, false_or, ne_eq, Nat.zero_le, h1, m0, m1, m4, m5, h2, f1, f2, g1, g2, e2, h3, c1, c3, c4, c7, c8, h4, h5, nI_cl (show k < 2 ^ 31 by omega), nI_cl (show pf k < 2 ^ 31 by omega)]
    by_cases hh : hI h (haf k) (pf k) = -1
    · rw [if_pos hh]
      simp only [e_17_100, e_17_103, true_and, and_true, and_self, false_and, and_false, if_true, if_false, ↓reduceIte, Nat.add_eq_left, Nat.left_eq_add, Nat.add_left_cancel_iff, not_false_eq_true, not_true_eq_false, i_pc, List.cons_append, List.nil_append, List.length_cons, List.length_nil, Nat.reduceEqDiff, Nat.reduceAdd, Nat.reduceMul, Nat.reduceSub, Nat.reduceLeDiff, Nat.reduceLT, Int32.reduceLT, Int32.reduceLE, Int32.reduceAdd, Int32.reduceSub, reduceCtorEq, true_or, or_true, or_false, false_or, ne_eq, Nat.zero_le]
      rw [show nI k + -1 = nI k - 1 from by rw [Int32.sub_eq_add_neg]]
      refine ih _ _ _ h hM (by omega) (fun i hi => hF i (by omega)) ?_
      rcases hres with ⟨j, hj, hj1, hj2, hj3⟩ | ⟨hq, hr⟩
      · have hjk : j ≠ k := fun e => hj1 (by rw [e]; exact hh)
        exact Or.inl ⟨j, by omega, hj1, fun i h7 h8 => hj2 i h7 (by omega), hj3⟩
      · exact Or.inr ⟨fun i hi => hq i (by omega), hr⟩
    · rw [if_neg hh]
      rcases hres with ⟨j, hj, hj1, hj2, rfl⟩ | ⟨hq, hr⟩
      · have hjk : j = k := by
          rcases Nat.lt_or_ge j k with h7 | h7
          · exact absurd (hj2 k h7 (by omega)) hh
          · omega
        subst hjk
        simp only [e_17_70, e_17_71, e_17_72, e_17_73, e_17_74, e_17_77, e_17_78, e_17_79, e_17_82, e_17_85, e_17_86, e_17_89, e_17_90, e_17_91, e_17_92, e_17_93, e_17_95, e_17_98, e_17_99, true_and, and_true, and_self, false_and, and_false, if_true, if_false, ↓reduceIte, Nat.add_eq_left, Nat.left_eq_add, Nat.add_left_cancel_iff, not_false_eq_true, not_true_eq_false, i_pc, List.cons_append, List.nil_append, List.length_cons, List.length_nil, Nat.reduceEqDiff, Nat.reduceAdd, Nat.reduceMul, Nat.reduceSub, Nat.reduceLeDiff, Nat.reduceLT, Int32.reduceLT, Int32.reduceLE, Int32.reduceAdd, Int32.reduceSub, reduceCtorEq, true_or, or_true, or_false, false_or, ne_eq, Nat.zero_le, hK_sI, hL_sI, hR_sI, hI_sI, hN_sI, hU_sI, hK_sR, hL_sR, hI_sR, hR_sR, hN_sR, hU_sR, hK_sA, hL_sA, hR_sA, hI_sA, hN_sA, hU_sA, m0, f2, f3, f4, f5, show vp_in (4 : Int32) 6 from vp_in_nI (n := 4) (by decide) (by decide), show (4 : Int32).toNatClampNeg = 4 from by decide, nI_1, show ¬ μ + (2 + 2 * j) = μ from by omega]
        rfl
      · exact absurd (hq k (by omega)) hh
theorem r_throw {what : Int32} {t : Nat} (cf iaf haf szf pf : Nat → Nat) (hM : MI μ h) (hd : hI h μ 6 = nI (t + 1)) (h6 : t < 6) (hF : ∀ i, i < t + 1 → FA μ i (cf i) (iaf i) (haf i) (szf i) (pf i) h) (hne : ∀ i, i < t + 1 → haf i ≠ μ)
    (hres : (∃ j, j < t + 1 ∧ hI h (haf j) (pf j) ≠ -1 ∧ (∀ i, j < i → i < t + 1 → hI h (haf i) (pf i) = -1) ∧ res = (some (.inl 1), cauH μ j what (hI h (haf j) (pf j)) (sI h μ 9 1))) ∨ ((∀ i, i < t + 1 → hI h (haf i) (pf i) = -1) ∧ res = (some (.inl 0), deaH μ what (sI h μ 9 1)))) : Rn xs L (d + 1) 17 [.inr (some μ), .inl what] h res := by
  have m0 := hM.1
  rw [i_rn]
  show X xs L d 17 (0, [some (.inr (some μ)), some (.inl what), none, none, none, none], [], h) _
  simp only [e_17_0, e_17_1, e_17_2, e_17_5, e_17_6, e_17_9, e_17_10, e_17_11, true_and, and_true, and_self, false_and, and_false, if_true, if_false, ↓reduceIte, Nat.add_eq_left, Nat.left_eq_add, Nat.add_left_cancel_iff, not_false_eq_true, not_true_eq_false, i_pc, List.cons_append, List.nil_append, List.length_cons, List.length_nil, Nat.reduceEqDiff, Nat.reduceAdd, Nat.reduceMul, Nat.reduceSub, Nat.reduceLeDiff, Nat.reduceLT, Int32.reduceLT, Int32.reduceLE, Int32.reduceAdd, Int32.reduceSub, reduceCtorEq, true_or, or_true, or_false, false_or, ne_eq, Nat.zero_le, hK_sI, hL_sI, hR_sI, hI_sI, hN_sI, hU_sI, hK_sR, hL_sR, hI_sR, hR_sR, hN_sR, hU_sR, hK_sA, hL_sA, hR_sA, hI_sA, hN_sA, hU_sA, m0, hd]
  have hha : ∀ i, i < t + 1 → hI (sI h μ 9 1) (haf i) (pf i) = hI h (haf i) (pf i) := fun i hi => by rw [hI_sI, if_neg (fun z => hne i hi z.1)]
  refine r_throw_loop (a3 := none) (a4 := none) (a5 := none) cf iaf haf szf pf (t + 1) none none none (sI h μ 9 1) hM (by omega) (fun i hi => ?_) ?_
  · obtain ⟨g1, ⟨c1, c2, c3, c4, c5⟩, g2, g3⟩ := hF i hi
    have hcμ : cf i ≠ μ := fun e => by rw [e, m0] at c1; cases c1
    exact ⟨g1, ⟨c1, c2, c3, by rw [hI_sI, if_neg (fun z => hcμ z.1)]; exact c4, c5⟩, by rw [hI_sI, if_neg (by omega)]; exact g2, g3⟩
  · rcases hres with ⟨j, h1, h2, h3, h4⟩ | ⟨h1, h2⟩
    · exact Or.inl ⟨j, h1, by rw [hha j h1]; exact h2, fun i h7 h8 => by rw [hha i h8]; exact h3 i h7 h8, by rw [hha j h1]; exact h4⟩
    · exact Or.inr ⟨fun i hi => by rw [hha i hi]; exact h1 i hi, h2⟩
end MC

-- the translator: new Code, new Program, readProgram, readAside
section TI2
variable {xs : Nat → Int32} {L d : Nat} {h g : Hp} {res : Res} {n : Nat} {tx : Nat → Int32} {s : TS}
def cdH (g : Hp) (c m : Nat) (f1 f2 : Nat → Int32) : Hp := sI (sR (sA (nw (sR (sA (nw g 20 m m) (hN g) f1) c 0 (some (hN g))) 20 m m) (hN g + 1) f2) c 1 (some (hN g + 1))) c 2 (nI m)
theorem t_code {c i j m : Nat} (kc : hK g c = 1) (hc : c < hN g) (ki : hK g i = 20) (kj : hK g j = 20) (li : m ≤ hL g i) (lj : m ≤ hL g j) (li2 : hL g i ≤ 100000) (lj2 : hL g j ≤ 100000) (hi : i < hN g) (hj : j < hN g) : ∃ f1 f2 : Nat → Int32, (∀ k, k < m → f1 k = hI g i k) ∧ (∀ k, k < m → f2 k = hI g j k) ∧ Rn xs L (d + 3) 1 [.inr (some c), .inr (some i), .inr (some j), .inl (nI m)] g (none, cdH g c m f1 f2) := by
  have nc : ¬ c = hN g := by omega
  have ni : ¬ i = hN g := by omega
  have nj : ¬ j = hN g := by omega
  obtain ⟨f1, e1, hr1⟩ := t_copy (xs := xs) (L := L) (d := d) (h := g) (o := i) (m := m) ki li li2 hi
  obtain ⟨f2, e2, hr2⟩ := t_copy (xs := xs) (L := L) (d := d) (h := sR (sA (nw g 20 m m) (hN g) f1) c 0 (some (hN g))) (o := j) (m := m) (by rw [hK_sR, hK_sA, hK_nw, if_neg nj]; exact kj) (by rw [hL_sR, hL_sA, hL_nw, if_neg nj]; exact lj) (by rw [hL_sR, hL_sA, hL_nw, if_neg nj]; exact lj2) (by rw [hN_sR, hN_sA, hN_nw]; omega)
  refine ⟨f1, f2, e1, fun k hk => ?_, ?_⟩
  · rw [e2 k hk, hI_sR, hI_sA, if_neg nj, hI_nw, if_neg nj]
  · rw [i_rn]
    show X xs L (d + 2) 1 (0, [some (.inr (some c)), some (.inr (some i)), some (.inr (some j)), some (.inl (nI m))], [], g) _
    simp only [e_1_0, e_1_1, e_1_4, e_1_5, e_1_6, e_1_7, true_and, and_true, and_self, false_and, and_false, if_true, if_false, ↓reduceIte, Nat.add_eq_left, Nat.left_eq_add, Nat.add_left_cancel_iff, not_false_eq_true, not_true_eq_false, i_pc, List.cons_append, List.nil_append, List.length_cons, List.length_nil, Nat.reduceEqDiff, Nat.reduceAdd, Nat.reduceMul, Nat.reduceSub, Nat.reduceLeDiff, Nat.reduceLT, Int32.reduceLT, Int32.reduceLE, Int32.reduceAdd, Int32.reduceSub, reduceCtorEq, true_or, or_true, or_false, false_or, ne_eq, Nat.zero_le]
    refine ⟨_, hr1, ?_⟩
    simp only [e_1_10, e_1_13, e_1_14, e_1_15, e_1_16, true_and, and_true, and_self, false_and, and_false, if_true, if_false, ↓reduceIte, Nat.add_eq_left, Nat.left_eq_add, Nat.add_left_cancel_iff, not_false_eq_true, not_true_eq_false, i_pc, List.cons_append, List.nil_append, List.length_cons, List.length_nil, Nat.reduceEqDiff, Nat.reduceAdd, Nat.reduceMul, Nat.reduceSub, Nat.reduceLeDiff, Nat.reduceLT, Int32.reduceLT, Int32.reduceLE, Int32.reduceAdd, Int32.reduceSub, reduceCtorEq, true_or, or_true, or_false, false_or, ne_eq, Nat.zero_le, Option.toList, hK_sA, hK_nw, nc, kc]
    refine ⟨_, hr2, ?_⟩
    have nc2 : ¬ c = hN g + 1 := by omega
    simp only [e_1_19, e_1_22, e_1_23, e_1_24, e_1_27, true_and, and_true, and_self, false_and, and_false, if_true, if_false, ↓reduceIte, Nat.add_eq_left, Nat.left_eq_add, Nat.add_left_cancel_iff, not_false_eq_true, not_true_eq_false, i_pc, List.cons_append, List.nil_append, List.length_cons, List.length_nil, Nat.reduceEqDiff, Nat.reduceAdd, Nat.reduceMul, Nat.reduceSub, Nat.reduceLeDiff, Nat.reduceLT, Int32.reduceLT, Int32.reduceLE, Int32.reduceAdd, Int32.reduceSub, reduceCtorEq, true_or, or_true, or_false, false_or, ne_eq, Nat.zero_le, Option.toList, hK_sA, hK_nw, hK_sR, hN_sR, hN_sA, hN_nw, nc, nc2, kc, cdH]
def pgH (g : Hp) (p c : Nat) (v : Int32) (f1 f2 : Nat → Int32) : Hp := sI (sR (sA (nw (sR (sA (nw (sR g p 0 (some c)) 20 4 4) (hN g) f1) p 1 (some (hN g))) 20 4 4) (hN g + 1) f2) p 2 (some (hN g + 1))) p 3 v
theorem t_prog {p c i j : Nat} {v : Int32} (kp : hK g p = 4) (hp : p < hN g) (ki : hK g i = 20) (kj : hK g j = 20) (li : hL g i = 4) (lj : hL g j = 4) (hi : i < hN g) (hj : j < hN g) : ∃ f1 f2 : Nat → Int32, (∀ k, k < 4 → f1 k = hI g i k) ∧ (∀ k, k < 4 → f2 k = hI g j k) ∧ Rn xs L (d + 3) 20 [.inr (some p), .inr (some c), .inr (some i), .inr (some j), .inl v] g (none, pgH g p c v f1 f2) := by
  have nc : ¬ p = hN g := by omega
  have ni : ¬ i = hN g := by omega
  have nj : ¬ j = hN g := by omega
  obtain ⟨f1, e1, hr1⟩ := t_copy (xs := xs) (L := L) (d := d) (h := sR g p 0 (some c)) (o := i) (m := 4) (by rw [hK_sR]; exact ki) (by rw [hL_sR, li]; exact Nat.le_refl 4) (by rw [hL_sR, li]; decide) (by rw [hN_sR]; exact hi)
  rw [show hN (sR g p 0 (some c)) = hN g from rfl] at hr1
  obtain ⟨f2, e2, hr2⟩ := t_copy (xs := xs) (L := L) (d := d) (h := sR (sA (nw (sR g p 0 (some c)) 20 4 4) (hN g) f1) p 1 (some (hN g))) (o := j) (m := 4) (by rw [hK_sR, hK_sA, hK_nw, hN_sR, if_neg nj, hK_sR]; exact kj) (by rw [hL_sR, hL_sA, hL_nw, hN_sR, if_neg nj, hL_sR, lj]; exact Nat.le_refl 4) (by rw [hL_sR, hL_sA, hL_nw, hN_sR, if_neg nj, hL_sR, lj]; decide) (by rw [hN_sR, hN_sA, hN_nw, hN_sR]; omega)
  refine ⟨f1, f2, fun k hk => by rw [e1 k hk, hI_sR], fun k hk => ?_, ?_⟩
  · rw [e2 k hk, hI_sR, hI_sA, if_neg nj, hI_nw, hN_sR, if_neg nj, hI_sR]
  · rw [i_rn]
    show X xs L (d + 2) 20 (0, [some (.inr (some p)), some (.inr (some c)), some (.inr (some i)), some (.inr (some j)), some (.inl v)], [], g) _
    simp only [e_20_0, e_20_1, e_20_4, e_20_5, e_20_6, e_20_9, e_20_10, e_20_11, e_20_12, true_and, and_true, and_self, false_and, and_false, if_true, if_false, ↓reduceIte, Nat.add_eq_left, Nat.left_eq_add, Nat.add_left_cancel_iff, not_false_eq_true, not_true_eq_false, i_pc, List.cons_append, List.nil_append, List.length_cons, List.length_nil, Nat.reduceEqDiff, Nat.reduceAdd, Nat.reduceMul, Nat.reduceSub, Nat.reduceLeDiff, Nat.reduceLT, Int32.reduceLT, Int32.reduceLE, Int32.reduceAdd, Int32.reduceSub, reduceCtorEq, true_or, or_true, or_false, false_or, ne_eq, Nat.zero_le, kp]
    refine ⟨_, hr1, ?_⟩
    simp only [e_20_15, e_20_18, e_20_19, e_20_20, e_20_21, true_and, and_true, and_self, false_and, and_false, if_true, if_false, ↓reduceIte, Nat.add_eq_left, Nat.left_eq_add, Nat.add_left_cancel_iff, not_false_eq_true, not_true_eq_false, i_pc, List.cons_append, List.nil_append, List.length_cons, List.length_nil, Nat.reduceEqDiff, Nat.reduceAdd, Nat.reduceMul, Nat.reduceSub, Nat.reduceLeDiff, Nat.reduceLT, Int32.reduceLT, Int32.reduceLE, Int32.reduceAdd, Int32.reduceSub, reduceCtorEq, true_or, or_true, or_false, false_or, ne_eq, Nat.zero_le, Option.toList, hK_sA, hK_nw, hK_sR, hN_sR, nc, kp]
    refine ⟨_, hr2, ?_⟩
    have nc2 : ¬ p = hN g + 1 := by omega
    simp only [e_20_24, e_20_27, e_20_28, e_20_30, e_20_33, true_and, and_true, and_self, false_and, and_false, if_true, if_false, ↓reduceIte, Nat.add_eq_left, Nat.left_eq_add, Nat.add_left_cancel_iff, not_false_eq_true, not_true_eq_false, i_pc, List.cons_append, List.nil_append, List.length_cons, List.length_nil, Nat.reduceEqDiff, Nat.reduceAdd, Nat.reduceMul, Nat.reduceSub, Nat.reduceLeDiff, Nat.reduceLT, Int32.reduceLT, Int32.reduceLE, Int32.reduceAdd, Int32.reduceSub, reduceCtorEq, true_or, or_true, or_false, false_or, ne_eq, Nat.zero_le, Option.toList, hK_sA, hK_nw, hK_sR, hN_sR, hN_sA, hN_nw, nc, nc2, kp, pgH]
/-- objects below N are as they were -/
def Sm (N : Nat) (h g : Hp) : Prop := ∀ o, o < N → hK g o = hK h o ∧ hL g o = hL h o ∧ (∀ k, hI g o k = hI h o k) ∧ ∀ k, hR g o k = hR h o k
theorem sm_rfl {N : Nat} : Sm N h h := fun _ _ => ⟨rfl, rfl, fun _ => rfl, fun _ => rfl⟩
theorem sm_sI {N o k : Nat} {v : Int32} (ho : N ≤ o) (hs : Sm N h g) : Sm N h (sI g o k v) := fun x hx => by
  obtain ⟨h1, h2, h3, h4⟩ := hs x hx
  exact ⟨h1, h2, fun y => by rw [hI_sI, if_neg (by omega)]; exact h3 y, h4⟩
theorem sm_sR {N o k : Nat} {v : Option Nat} (ho : N ≤ o) (hs : Sm N h g) : Sm N h (sR g o k v) := fun x hx => by
  obtain ⟨h1, h2, h3, h4⟩ := hs x hx
  exact ⟨h1, h2, h3, fun y => by rw [hR_sR, if_neg (by omega)]; exact h4 y⟩
theorem sm_sA {N o : Nat} {f : Nat → Int32} (ho : N ≤ o) (hs : Sm N h g) : Sm N h (sA g o f) := fun x hx => by
  obtain ⟨h1, h2, h3, h4⟩ := hs x hx
  exact ⟨h1, h2, fun y => by rw [hI_sA, if_neg (by omega)]; exact h3 y, h4⟩
theorem sm_nw {N a b c : Nat} (ho : N ≤ hN g) (hs : Sm N h g) : Sm N h (nw g a b c) := fun x hx => by
  obtain ⟨h1, h2, h3, h4⟩ := hs x hx
  have e : ¬ x = hN g := by omega
  exact ⟨by rw [hK_nw, if_neg e]; exact h1, by rw [hL_nw, if_neg e]; exact h2, fun y => by rw [hI_nw, if_neg e]; exact h3 y, fun y => by rw [hR_nw, if_neg e]; exact h4 y⟩
theorem sm_cd {N c m : Nat} {f1 f2 : Nat → Int32} (hc : N ≤ c) (hn : N ≤ hN g) (hs : Sm N h g) : Sm N h (cdH g c m f1 f2) := by
  unfold cdH
  refine sm_sI hc (sm_sR hc (sm_sA (by omega) (sm_nw (by rw [hN_sR, hN_sA, hN_nw]; omega) (sm_sR hc (sm_sA hn (sm_nw hn hs))))))
theorem sm_pg {N p c : Nat} {v : Int32} {f1 f2 : Nat → Int32} (hc : N ≤ p) (hn : N ≤ hN g) (hs : Sm N h g) : Sm N h (pgH g p c v f1 f2) := by
  unfold pgH
  refine sm_sI hc (sm_sR hc (sm_sA (by omega) (sm_nw (by rw [hN_sR, hN_sA, hN_nw, hN_sR]; omega) (sm_sR hc (sm_sA hn (sm_nw (by rw [hN_sR]; exact hn) (sm_sR hc hs)))))))
end TI2

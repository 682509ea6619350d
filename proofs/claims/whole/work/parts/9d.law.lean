-- THE LAW: its loop
section LW1
variable {xs : Nat → Int32} {L d i : Nat} {h h2 : Hp} {a : Option AV} {as : List AV} {mi : Nat}
theorem ex_int {C : Nat → List AV → Hp → Res → Prop} (hr : am_ret mi = some .int ∨ am_ret mi = some .boolean) : ∀ (f : Nat) (st : St) (res : Res), Ex xs L C mi f st res → ∃ v, res.1 = some (.inl v) := by
  intro f
  induction f with
  | zero => exact fun _ _ h => h.elim
  | succ f ih =>
    intro st res h
    unfold Ex at h
    cases hs : am_step xs L mi st with
    | none => rw [hs] at h; exact h.elim
    | some q =>
      rw [hs] at h
      match q, h with
      | .inl st', h => exact ih _ _ h
      | .inr (.inl q), ⟨r, a1, a2⟩ => exact ih _ _ a2
      | .inr (.inr r), h =>
        have h : res = r := h
        subst h
        unfold am_step at hs
        cases hc : am_cd mi st.1 with
        | none => rw [hc] at hs; cases hs
        | some e =>
          rw [hc] at hs
          rcases am_do_ret hs with ⟨-, z⟩ | ⟨-, z⟩ | ⟨-, z⟩
          · unfold a_iret at z
            split at z
            · cases z; exact ⟨_, rfl⟩
            · split at z
              · cases z; exact ⟨_, rfl⟩
              · cases z
            · split at z
              · cases z; exact ⟨_, rfl⟩
              · cases z
            · cases z
          · unfold a_aret at z
            split at z
            · next hq => rcases hr with e | e <;> (rw [e] at hq; cases hq)
            · next hq => rcases hr with e | e <;> (rw [e] at hq; cases hq)
            · cases z
          · unfold a_vret at z
            split at z
            · next hq => rcases hr with e | e <;> (rw [e] at hq; cases hq)
            · cases z
theorem rn_int (hr : am_ret mi = some .int ∨ am_ret mi = some .boolean) (h1 : Rn xs L d mi as h (a, h2)) : ∃ v, a = some (.inl v) := by
  cases d with
  | zero => exact h1.elim
  | succ d =>
    obtain ⟨f, hf⟩ := h1
    exact ex_int hr f _ _ hf
theorem a_iret_v {sk : List AV} : a_iret none sk h = none := by
  unfold a_iret
  split <;> first | rfl | contradiction
theorem a_aret_v {sk : List AV} : a_aret none sk h = none := by
  unfold a_aret
  split <;> first | rfl | contradiction
theorem ex_void {C : Nat → List AV → Hp → Res → Prop} (hr : am_ret mi = none) : ∀ (f : Nat) (st : St) (res : Res), Ex xs L C mi f st res → res.1 = none := by
  intro f
  induction f with
  | zero => exact fun _ _ h => h.elim
  | succ f ih =>
    intro st res h
    unfold Ex at h
    cases hs : am_step xs L mi st with
    | none => rw [hs] at h; exact h.elim
    | some q =>
      rw [hs] at h
      match q, h with
      | .inl st', h => exact ih _ _ h
      | .inr (.inl q), ⟨r, a1, a2⟩ => exact ih _ _ a2
      | .inr (.inr r), h =>
        have h : res = r := h
        subst h
        unfold am_step at hs
        cases hc : am_cd mi st.1 with
        | none => rw [hc] at hs; cases hs
        | some e =>
          rw [hc] at hs
          rcases am_do_ret hs with ⟨-, z⟩ | ⟨-, z⟩ | ⟨-, z⟩
          · rw [hr, a_iret_v] at z; cases z
          · rw [hr, a_aret_v] at z; cases z
          · unfold a_vret at z
            split at z
            · cases z; rfl
            · cases z
theorem rn_void (hr : am_ret mi = none) (h1 : Rn xs L d mi as h (a, h2)) : a = none := by
  cases d with
  | zero => exact h1.elim
  | succ d =>
    obtain ⟨f, hf⟩ := h1
    exact ex_void hr f _ _ hf
theorem lw_add {n : Nat} (k : Nat) : nI n + nI k = nI (n + k) := by
  induction k with
  | zero => exact Int32.add_zero _
  | succ k ih =>
    show nI n + nI (k + 1) = nI (n + k + 1)
    rw [← nI_1, ← nI_1, ← Int32.add_assoc, ih]
theorem lw_go {n : Nat} (h : n + 4 ≤ L) (hL : L < 2 ^ 31) : ¬ nI L - 4 < nI n := by
  have e : nI L - 4 = nI (L - 4) := by
    have := lw_add (n := L - 4) 4
    rw [show L - 4 + 4 = L by omega] at this
    rw [← this]
    exact Int32.add_sub_cancel _ _
  rw [e]
  exact Int32.not_lt.mpr (nI_le (by omega) (by omega))
theorem lw_end {j : Nat} (h : 4 * j ≤ L) (h2 : L < 4 * j + 4) (hL : L < 2 ^ 31) : nI L - 4 < nI (4 * j) := by
  by_cases c : 4 ≤ L
  · have e : nI L - 4 = nI (L - 4) := by
      have := lw_add (n := L - 4) 4
      rw [show L - 4 + 4 = L by omega] at this
      rw [← this]
      exact Int32.add_sub_cancel _ _
    rw [e]
    exact Int32.not_le.mp (nI_ge (by omega) (by omega))
  · have hn : j = 0 := by omega
    subst hn
    have : L = 0 ∨ L = 1 ∨ L = 2 ∨ L = 3 := by omega
    rcases this with e | e | e | e <;> subst e <;> decide
def lwS (j : Nat) : Lo := [some (.inr (some 0)), some (.inr (some 3)), some (.inr (some 49)), some (.inl (nI (4 * j)))]
/-- from call j on: m calls are left -/
theorem law_loop (hL : L < 2 ^ 31) : ∀ (m j : Nat) (h : Hp), 4 * (j + m) ≤ L → L < 4 * (j + m) + 4 → j + m ≤ 512 → INV j h h → ∃ hf, X xs L (d + 60) 130 (18, lwS j, [], h) (some (.inl 1), hf) ∧ hN hf ≤ 80 + 10 * (j + m) ∧ hU hf ≤ 20000 + 1000 * (j + m) := by
  intro m
  induction m with
  | zero =>
    intro j h h1 h2 h3 hI
    refine ⟨h, ?_, hI.1.2.2.2.2.2.1, hI.1.2.2.2.2.2.2.1⟩
    have c1 : nI L - 4 < nI (4 * j) := lw_end (by omega) (by omega) hL
    unfold lwS
    simp only [e_130_18, e_130_19, e_130_20, e_130_21, e_130_22, e_130_23, e_130_616, e_130_617, true_and, and_true, and_self, false_and, and_false, if_true, if_false, ↓reduceIte, Nat.add_eq_left, Nat.left_eq_add, Nat.add_left_cancel_iff, not_false_eq_true, not_true_eq_false, i_pc, List.cons_append, List.nil_append, List.length_cons, List.length_nil, Nat.reduceEqDiff, Nat.reduceAdd, Nat.reduceMul, Nat.reduceSub, Nat.reduceLeDiff, Nat.reduceLT, Int32.reduceLT, Int32.reduceLE, Int32.reduceAdd, Int32.reduceSub, reduceCtorEq, true_or, or_true, or_false, false_or, ne_eq, Nat.zero_le, c1]
  | succ m ih =>
    intro j h h1 h2 h3 hI
    have c1 : ¬ nI L - 4 < nI (4 * j) := lw_go (by omega) hL
    have z0 : vp_in (nI (4 * j)) L := vin (by omega) hL
    have q1 : nI (4 * j) + 1 = nI (4 * j + 1) := nI_1 _
    have q2 : nI (4 * j) + 2 = nI (4 * j + 2) := lw_add 2
    have q3 : nI (4 * j) + 3 = nI (4 * j + 3) := lw_add 3
    have q4 : nI (4 * j) + 4 = nI (4 * (j + 1)) := lw_add 4
    have z1 : vp_in (nI (4 * j) + 1) L := by rw [q1]; exact vin (by omega) hL
    have z2 : vp_in (nI (4 * j) + 2) L := by rw [q2]; exact vin (by omega) hL
    have z3 : vp_in (nI (4 * j) + 3) L := by rw [q3]; exact vin (by omega) hL
    have k3 : hK h 3 = 8 := hI.1.1.1
    have k9 : ∀ g, AgM h g → hK g 49 = 9 := fun g hg => ((hg 49 (by decide) (by decide)).1).trans (mo_k hI.1.2.2.2.2.2.2.2)
    have nx : ∀ g, INV (j + 1) g g → ∃ hf, X xs L (d + 60) 130 (610, lwS j, [], g) (some (.inl 1), hf) ∧ hN hf ≤ 80 + 10 * (j + (m + 1)) ∧ hU hf ≤ 20000 + 1000 * (j + (m + 1)) := fun g hg => by
      obtain ⟨hf, e1, e2, e3⟩ := ih (j + 1) g (by omega) (by omega) (by omega) hg
      refine ⟨hf, ?_, by omega, by omega⟩
      unfold lwS
      simp only [e_130_610, e_130_613, true_and, and_true, and_self, false_and, and_false, if_true, if_false, ↓reduceIte, Nat.add_eq_left, Nat.left_eq_add, Nat.add_left_cancel_iff, not_false_eq_true, not_true_eq_false, i_pc, List.cons_append, List.nil_append, List.length_cons, List.length_nil, Nat.reduceEqDiff, Nat.reduceAdd, Nat.reduceMul, Nat.reduceSub, Nat.reduceLeDiff, Nat.reduceLT, Int32.reduceLT, Int32.reduceLE, Int32.reduceAdd, Int32.reduceSub, reduceCtorEq, true_or, or_true, or_false, false_or, ne_eq, Nat.zero_le, q4]
      exact e1
    have pre : ∀ res, X xs L (d + 60) 130 (a_tgt (xs (nI (4 * j)).toNatClampNeg &&& 31) [(0, 128), (1, 153), (2, 166), (3, 179), (4, 192), (5, 205), (6, 264), (7, 287), (8, 310), (9, 347), (10, 380), (11, 393), (12, 406), (13, 429), (14, 452), (15, 485), (16, 528), (17, 551), (18, 564), (19, 587)] 610, lwS j, [], h) res → X xs L (d + 60) 130 (18, lwS j, [], h) res := fun res hX => by
      unfold lwS at hX ⊢
      simp only [e_130_18, e_130_19, e_130_20, e_130_21, e_130_22, e_130_23, e_130_26, e_130_27, e_130_28, e_130_29, e_130_31, e_130_32, true_and, and_true, and_self, false_and, and_false, if_true, if_false, ↓reduceIte, Nat.add_eq_left, Nat.left_eq_add, Nat.add_left_cancel_iff, not_false_eq_true, not_true_eq_false, i_pc, List.cons_append, List.nil_append, List.length_cons, List.length_nil, Nat.reduceEqDiff, Nat.reduceAdd, Nat.reduceMul, Nat.reduceSub, Nat.reduceLeDiff, Nat.reduceLT, Int32.reduceLT, Int32.reduceLE, Int32.reduceAdd, Int32.reduceSub, reduceCtorEq, true_or, or_true, or_false, false_or, ne_eq, Nat.zero_le, c1, z0]
      exact hX
    suffices H : ∃ hf, X xs L (d + 60) 130 (a_tgt (xs (nI (4 * j)).toNatClampNeg &&& 31) [(0, 128), (1, 153), (2, 166), (3, 179), (4, 192), (5, 205), (6, 264), (7, 287), (8, 310), (9, 347), (10, 380), (11, 393), (12, 406), (13, 429), (14, 452), (15, 485), (16, 528), (17, 551), (18, 564), (19, 587)] 610, lwS j, [], h) (some (.inl 1), hf) ∧ hN hf ≤ 80 + 10 * (j + (m + 1)) ∧ hU hf ≤ 20000 + 1000 * (j + (m + 1)) by
      obtain ⟨hf, e1, e2, e3⟩ := H
      exact ⟨hf, pre _ e1, e2, e3⟩
    generalize xs (nI (4 * j)).toNatClampNeg &&& 31 = y
    by_cases c_0 : y = 0
    · rw [show a_tgt y [(0, 128), (1, 153), (2, 166), (3, 179), (4, 192), (5, 205), (6, 264), (7, 287), (8, 310), (9, 347), (10, 380), (11, 393), (12, 406), (13, 429), (14, 452), (15, 485), (16, 528), (17, 551), (18, 564), (19, 587)] 610 = 128 from by rw [c_0]; decide]
      obtain ⟨a, g1, g2, r1, r2, i2, ag, -⟩ := cal_one (h := h) (k_write (xs := xs) (L := L) (d := d) (i := j) (c := ((xs (nI (4 * j) + 1).toNatClampNeg).toUInt32 % 65536).toInt32)) hI
      obtain ⟨v, rfl⟩ := rn_int (by decide) r1
      obtain ⟨hf, e1, e2⟩ := nx g2 i2
      refine ⟨hf, ?_, e2⟩
      unfold lwS at e1 ⊢
      simp only [e_130_128, e_130_129, e_130_130, e_130_131, e_130_132, e_130_133, e_130_134, e_130_135, true_and, and_true, and_self, false_and, and_false, if_true, if_false, ↓reduceIte, Nat.add_eq_left, Nat.left_eq_add, Nat.add_left_cancel_iff, not_false_eq_true, not_true_eq_false, i_pc, List.cons_append, List.nil_append, List.length_cons, List.length_nil, Nat.reduceEqDiff, Nat.reduceAdd, Nat.reduceMul, Nat.reduceSub, Nat.reduceLeDiff, Nat.reduceLT, Int32.reduceLT, Int32.reduceLE, Int32.reduceAdd, Int32.reduceSub, reduceCtorEq, true_or, or_true, or_false, false_or, ne_eq, Nat.zero_le, k3, z1]
      refine ⟨_, r1, ?_⟩
      simp only [e_130_138, e_130_139, e_130_140, e_130_141, e_130_142, e_130_143, e_130_144, e_130_145, true_and, and_true, and_self, false_and, and_false, if_true, if_false, ↓reduceIte, Nat.add_eq_left, Nat.left_eq_add, Nat.add_left_cancel_iff, not_false_eq_true, not_true_eq_false, i_pc, List.cons_append, List.nil_append, List.length_cons, List.length_nil, Nat.reduceEqDiff, Nat.reduceAdd, Nat.reduceMul, Nat.reduceSub, Nat.reduceLeDiff, Nat.reduceLT, Int32.reduceLT, Int32.reduceLE, Int32.reduceAdd, Int32.reduceSub, reduceCtorEq, true_or, or_true, or_false, false_or, ne_eq, Nat.zero_le, Option.toList, List.cons_append, List.nil_append, k9 g1 ag, z1]
      refine ⟨_, r2, ?_⟩
      simp only [e_130_148, true_and, and_true, and_self, false_and, and_false, if_true, if_false, ↓reduceIte, Nat.add_eq_left, Nat.left_eq_add, Nat.add_left_cancel_iff, not_false_eq_true, not_true_eq_false, i_pc, List.cons_append, List.nil_append, List.length_cons, List.length_nil, Nat.reduceEqDiff, Nat.reduceAdd, Nat.reduceMul, Nat.reduceSub, Nat.reduceLeDiff, Nat.reduceLT, Int32.reduceLT, Int32.reduceLE, Int32.reduceAdd, Int32.reduceSub, reduceCtorEq, true_or, or_true, or_false, false_or, ne_eq, Nat.zero_le, Option.toList, List.cons_append, List.nil_append]
      exact e1
    by_cases c_1 : y = 1
    · rw [show a_tgt y [(0, 128), (1, 153), (2, 166), (3, 179), (4, 192), (5, 205), (6, 264), (7, 287), (8, 310), (9, 347), (10, 380), (11, 393), (12, 406), (13, 429), (14, 452), (15, 485), (16, 528), (17, 551), (18, 564), (19, 587)] 610 = 153 from by rw [c_1]; decide]
      obtain ⟨a, g1, g2, r1, r2, i2, ag, -⟩ := cal_one (h := h) (k_load (xs := xs) (L := L) (d := d) (i := j)) hI
      obtain ⟨v, rfl⟩ := rn_int (by decide) r1
      obtain ⟨hf, e1, e2⟩ := nx g2 i2
      refine ⟨hf, ?_, e2⟩
      unfold lwS at e1 ⊢
      simp only [e_130_153, e_130_154, true_and, and_true, and_self, false_and, and_false, if_true, if_false, ↓reduceIte, Nat.add_eq_left, Nat.left_eq_add, Nat.add_left_cancel_iff, not_false_eq_true, not_true_eq_false, i_pc, List.cons_append, List.nil_append, List.length_cons, List.length_nil, Nat.reduceEqDiff, Nat.reduceAdd, Nat.reduceMul, Nat.reduceSub, Nat.reduceLeDiff, Nat.reduceLT, Int32.reduceLT, Int32.reduceLE, Int32.reduceAdd, Int32.reduceSub, reduceCtorEq, true_or, or_true, or_false, false_or, ne_eq, Nat.zero_le, k3]
      refine ⟨_, r1, ?_⟩
      simp only [e_130_157, e_130_158, true_and, and_true, and_self, false_and, and_false, if_true, if_false, ↓reduceIte, Nat.add_eq_left, Nat.left_eq_add, Nat.add_left_cancel_iff, not_false_eq_true, not_true_eq_false, i_pc, List.cons_append, List.nil_append, List.length_cons, List.length_nil, Nat.reduceEqDiff, Nat.reduceAdd, Nat.reduceMul, Nat.reduceSub, Nat.reduceLeDiff, Nat.reduceLT, Int32.reduceLT, Int32.reduceLE, Int32.reduceAdd, Int32.reduceSub, reduceCtorEq, true_or, or_true, or_false, false_or, ne_eq, Nat.zero_le, Option.toList, List.cons_append, List.nil_append, k9 g1 ag]
      refine ⟨_, r2, ?_⟩
      simp only [e_130_161, true_and, and_true, and_self, false_and, and_false, if_true, if_false, ↓reduceIte, Nat.add_eq_left, Nat.left_eq_add, Nat.add_left_cancel_iff, not_false_eq_true, not_true_eq_false, i_pc, List.cons_append, List.nil_append, List.length_cons, List.length_nil, Nat.reduceEqDiff, Nat.reduceAdd, Nat.reduceMul, Nat.reduceSub, Nat.reduceLeDiff, Nat.reduceLT, Int32.reduceLT, Int32.reduceLE, Int32.reduceAdd, Int32.reduceSub, reduceCtorEq, true_or, or_true, or_false, false_or, ne_eq, Nat.zero_le, Option.toList, List.cons_append, List.nil_append]
      exact e1
    by_cases c_2 : y = 2
    · rw [show a_tgt y [(0, 128), (1, 153), (2, 166), (3, 179), (4, 192), (5, 205), (6, 264), (7, 287), (8, 310), (9, 347), (10, 380), (11, 393), (12, 406), (13, 429), (14, 452), (15, 485), (16, 528), (17, 551), (18, 564), (19, 587)] 610 = 166 from by rw [c_2]; decide]
      obtain ⟨a, g1, g2, r1, r2, i2, ag, -⟩ := cal_one (h := h) (k_start (xs := xs) (L := L) (d := d) (i := j)) hI
      obtain ⟨v, rfl⟩ := rn_int (by decide) r1
      obtain ⟨hf, e1, e2⟩ := nx g2 i2
      refine ⟨hf, ?_, e2⟩
      unfold lwS at e1 ⊢
      simp only [e_130_166, e_130_167, true_and, and_true, and_self, false_and, and_false, if_true, if_false, ↓reduceIte, Nat.add_eq_left, Nat.left_eq_add, Nat.add_left_cancel_iff, not_false_eq_true, not_true_eq_false, i_pc, List.cons_append, List.nil_append, List.length_cons, List.length_nil, Nat.reduceEqDiff, Nat.reduceAdd, Nat.reduceMul, Nat.reduceSub, Nat.reduceLeDiff, Nat.reduceLT, Int32.reduceLT, Int32.reduceLE, Int32.reduceAdd, Int32.reduceSub, reduceCtorEq, true_or, or_true, or_false, false_or, ne_eq, Nat.zero_le, k3]
      refine ⟨_, r1, ?_⟩
      simp only [e_130_170, e_130_171, true_and, and_true, and_self, false_and, and_false, if_true, if_false, ↓reduceIte, Nat.add_eq_left, Nat.left_eq_add, Nat.add_left_cancel_iff, not_false_eq_true, not_true_eq_false, i_pc, List.cons_append, List.nil_append, List.length_cons, List.length_nil, Nat.reduceEqDiff, Nat.reduceAdd, Nat.reduceMul, Nat.reduceSub, Nat.reduceLeDiff, Nat.reduceLT, Int32.reduceLT, Int32.reduceLE, Int32.reduceAdd, Int32.reduceSub, reduceCtorEq, true_or, or_true, or_false, false_or, ne_eq, Nat.zero_le, Option.toList, List.cons_append, List.nil_append, k9 g1 ag]
      refine ⟨_, r2, ?_⟩
      simp only [e_130_174, true_and, and_true, and_self, false_and, and_false, if_true, if_false, ↓reduceIte, Nat.add_eq_left, Nat.left_eq_add, Nat.add_left_cancel_iff, not_false_eq_true, not_true_eq_false, i_pc, List.cons_append, List.nil_append, List.length_cons, List.length_nil, Nat.reduceEqDiff, Nat.reduceAdd, Nat.reduceMul, Nat.reduceSub, Nat.reduceLeDiff, Nat.reduceLT, Int32.reduceLT, Int32.reduceLE, Int32.reduceAdd, Int32.reduceSub, reduceCtorEq, true_or, or_true, or_false, false_or, ne_eq, Nat.zero_le, Option.toList, List.cons_append, List.nil_append]
      exact e1
    by_cases c_3 : y = 3
    · rw [show a_tgt y [(0, 128), (1, 153), (2, 166), (3, 179), (4, 192), (5, 205), (6, 264), (7, 287), (8, 310), (9, 347), (10, 380), (11, 393), (12, 406), (13, 429), (14, 452), (15, 485), (16, 528), (17, 551), (18, 564), (19, 587)] 610 = 179 from by rw [c_3]; decide]
      obtain ⟨a, g1, g2, r1, r2, i2, ag, -⟩ := cal_one (h := h) (k_state (xs := xs) (L := L) (d := d) (i := j)) hI
      obtain ⟨v, rfl⟩ := rn_int (by decide) r1
      obtain ⟨hf, e1, e2⟩ := nx g2 i2
      refine ⟨hf, ?_, e2⟩
      unfold lwS at e1 ⊢
      simp only [e_130_179, e_130_180, true_and, and_true, and_self, false_and, and_false, if_true, if_false, ↓reduceIte, Nat.add_eq_left, Nat.left_eq_add, Nat.add_left_cancel_iff, not_false_eq_true, not_true_eq_false, i_pc, List.cons_append, List.nil_append, List.length_cons, List.length_nil, Nat.reduceEqDiff, Nat.reduceAdd, Nat.reduceMul, Nat.reduceSub, Nat.reduceLeDiff, Nat.reduceLT, Int32.reduceLT, Int32.reduceLE, Int32.reduceAdd, Int32.reduceSub, reduceCtorEq, true_or, or_true, or_false, false_or, ne_eq, Nat.zero_le, k3]
      refine ⟨_, r1, ?_⟩
      simp only [e_130_183, e_130_184, true_and, and_true, and_self, false_and, and_false, if_true, if_false, ↓reduceIte, Nat.add_eq_left, Nat.left_eq_add, Nat.add_left_cancel_iff, not_false_eq_true, not_true_eq_false, i_pc, List.cons_append, List.nil_append, List.length_cons, List.length_nil, Nat.reduceEqDiff, Nat.reduceAdd, Nat.reduceMul, Nat.reduceSub, Nat.reduceLeDiff, Nat.reduceLT, Int32.reduceLT, Int32.reduceLE, Int32.reduceAdd, Int32.reduceSub, reduceCtorEq, true_or, or_true, or_false, false_or, ne_eq, Nat.zero_le, Option.toList, List.cons_append, List.nil_append, k9 g1 ag]
      refine ⟨_, r2, ?_⟩
      simp only [e_130_187, true_and, and_true, and_self, false_and, and_false, if_true, if_false, ↓reduceIte, Nat.add_eq_left, Nat.left_eq_add, Nat.add_left_cancel_iff, not_false_eq_true, not_true_eq_false, i_pc, List.cons_append, List.nil_append, List.length_cons, List.length_nil, Nat.reduceEqDiff, Nat.reduceAdd, Nat.reduceMul, Nat.reduceSub, Nat.reduceLeDiff, Nat.reduceLT, Int32.reduceLT, Int32.reduceLE, Int32.reduceAdd, Int32.reduceSub, reduceCtorEq, true_or, or_true, or_false, false_or, ne_eq, Nat.zero_le, Option.toList, List.cons_append, List.nil_append]
      exact e1
    by_cases c_4 : y = 4
    · rw [show a_tgt y [(0, 128), (1, 153), (2, 166), (3, 179), (4, 192), (5, 205), (6, 264), (7, 287), (8, 310), (9, 347), (10, 380), (11, 393), (12, 406), (13, 429), (14, 452), (15, 485), (16, 528), (17, 551), (18, 564), (19, 587)] 610 = 192 from by rw [c_4]; decide]
      obtain ⟨a, g1, g2, r1, r2, i2, ag, -⟩ := cal_one (h := h) (k_result (xs := xs) (L := L) (d := d) (i := j)) hI
      obtain ⟨v, rfl⟩ := rn_int (by decide) r1
      obtain ⟨hf, e1, e2⟩ := nx g2 i2
      refine ⟨hf, ?_, e2⟩
      unfold lwS at e1 ⊢
      simp only [e_130_192, e_130_193, true_and, and_true, and_self, false_and, and_false, if_true, if_false, ↓reduceIte, Nat.add_eq_left, Nat.left_eq_add, Nat.add_left_cancel_iff, not_false_eq_true, not_true_eq_false, i_pc, List.cons_append, List.nil_append, List.length_cons, List.length_nil, Nat.reduceEqDiff, Nat.reduceAdd, Nat.reduceMul, Nat.reduceSub, Nat.reduceLeDiff, Nat.reduceLT, Int32.reduceLT, Int32.reduceLE, Int32.reduceAdd, Int32.reduceSub, reduceCtorEq, true_or, or_true, or_false, false_or, ne_eq, Nat.zero_le, k3]
      refine ⟨_, r1, ?_⟩
      simp only [e_130_196, e_130_197, true_and, and_true, and_self, false_and, and_false, if_true, if_false, ↓reduceIte, Nat.add_eq_left, Nat.left_eq_add, Nat.add_left_cancel_iff, not_false_eq_true, not_true_eq_false, i_pc, List.cons_append, List.nil_append, List.length_cons, List.length_nil, Nat.reduceEqDiff, Nat.reduceAdd, Nat.reduceMul, Nat.reduceSub, Nat.reduceLeDiff, Nat.reduceLT, Int32.reduceLT, Int32.reduceLE, Int32.reduceAdd, Int32.reduceSub, reduceCtorEq, true_or, or_true, or_false, false_or, ne_eq, Nat.zero_le, Option.toList, List.cons_append, List.nil_append, k9 g1 ag]
      refine ⟨_, r2, ?_⟩
      simp only [e_130_200, true_and, and_true, and_self, false_and, and_false, if_true, if_false, ↓reduceIte, Nat.add_eq_left, Nat.left_eq_add, Nat.add_left_cancel_iff, not_false_eq_true, not_true_eq_false, i_pc, List.cons_append, List.nil_append, List.length_cons, List.length_nil, Nat.reduceEqDiff, Nat.reduceAdd, Nat.reduceMul, Nat.reduceSub, Nat.reduceLeDiff, Nat.reduceLT, Int32.reduceLT, Int32.reduceLE, Int32.reduceAdd, Int32.reduceSub, reduceCtorEq, true_or, or_true, or_false, false_or, ne_eq, Nat.zero_le, Option.toList, List.cons_append, List.nil_append]
      exact e1
    by_cases c_5 : y = 5
    · rw [show a_tgt y [(0, 128), (1, 153), (2, 166), (3, 179), (4, 192), (5, 205), (6, 264), (7, 287), (8, 310), (9, 347), (10, 380), (11, 393), (12, 406), (13, 429), (14, 452), (15, 485), (16, 528), (17, 551), (18, 564), (19, 587)] 610 = 205 from by rw [c_5]; decide]
      by_cases b0 : xs (nI (4 * j) + 3).toNatClampNeg = 0
      · obtain ⟨a, g1, g2, r1, r2, i2, ag, -⟩ := cal_one (h := h) (k_stop (xs := xs) (L := L) (d := d) (i := j) (ln := xs (nI (4 * j) + 1).toNatClampNeg) (ig := xs (nI (4 * j) + 2).toNatClampNeg) (lg := 0) (Or.inl rfl)) hI
        obtain ⟨v, rfl⟩ := rn_int (by decide) r1
        obtain ⟨hf, e1, e2⟩ := nx g2 i2
        refine ⟨hf, ?_, e2⟩
        unfold lwS at e1 ⊢
        simp only [e_130_205, e_130_206, e_130_207, e_130_208, e_130_209, e_130_210, e_130_211, e_130_212, e_130_213, e_130_214, e_130_215, e_130_216, e_130_217, e_130_218, e_130_219, e_130_220, e_130_221, e_130_228, e_130_229, true_and, and_true, and_self, false_and, and_false, if_true, if_false, ↓reduceIte, Nat.add_eq_left, Nat.left_eq_add, Nat.add_left_cancel_iff, not_false_eq_true, not_true_eq_false, i_pc, List.cons_append, List.nil_append, List.length_cons, List.length_nil, Nat.reduceEqDiff, Nat.reduceAdd, Nat.reduceMul, Nat.reduceSub, Nat.reduceLeDiff, Nat.reduceLT, Int32.reduceLT, Int32.reduceLE, Int32.reduceAdd, Int32.reduceSub, reduceCtorEq, true_or, or_true, or_false, false_or, ne_eq, Nat.zero_le, k3, z1, z2, z3, b0]
        refine ⟨_, r1, ?_⟩
        simp only [e_130_232, e_130_233, e_130_234, e_130_235, e_130_236, e_130_237, e_130_238, e_130_239, e_130_240, e_130_241, e_130_242, e_130_243, e_130_244, e_130_245, e_130_246, e_130_247, e_130_248, e_130_255, e_130_256, true_and, and_true, and_self, false_and, and_false, if_true, if_false, ↓reduceIte, Nat.add_eq_left, Nat.left_eq_add, Nat.add_left_cancel_iff, not_false_eq_true, not_true_eq_false, i_pc, List.cons_append, List.nil_append, List.length_cons, List.length_nil, Nat.reduceEqDiff, Nat.reduceAdd, Nat.reduceMul, Nat.reduceSub, Nat.reduceLeDiff, Nat.reduceLT, Int32.reduceLT, Int32.reduceLE, Int32.reduceAdd, Int32.reduceSub, reduceCtorEq, true_or, or_true, or_false, false_or, ne_eq, Nat.zero_le, Option.toList, List.cons_append, List.nil_append, k9 g1 ag, z1, z2, z3, b0]
        refine ⟨_, r2, ?_⟩
        simp only [e_130_259, true_and, and_true, and_self, false_and, and_false, if_true, if_false, ↓reduceIte, Nat.add_eq_left, Nat.left_eq_add, Nat.add_left_cancel_iff, not_false_eq_true, not_true_eq_false, i_pc, List.cons_append, List.nil_append, List.length_cons, List.length_nil, Nat.reduceEqDiff, Nat.reduceAdd, Nat.reduceMul, Nat.reduceSub, Nat.reduceLeDiff, Nat.reduceLT, Int32.reduceLT, Int32.reduceLE, Int32.reduceAdd, Int32.reduceSub, reduceCtorEq, true_or, or_true, or_false, false_or, ne_eq, Nat.zero_le, Option.toList, List.cons_append, List.nil_append]
        exact e1
      · obtain ⟨a, g1, g2, r1, r2, i2, ag, -⟩ := cal_one (h := h) (k_stop (xs := xs) (L := L) (d := d) (i := j) (ln := xs (nI (4 * j) + 1).toNatClampNeg) (ig := xs (nI (4 * j) + 2).toNatClampNeg) (lg := 1) (Or.inr rfl)) hI
        obtain ⟨v, rfl⟩ := rn_int (by decide) r1
        obtain ⟨hf, e1, e2⟩ := nx g2 i2
        refine ⟨hf, ?_, e2⟩
        unfold lwS at e1 ⊢
        simp only [e_130_205, e_130_206, e_130_207, e_130_208, e_130_209, e_130_210, e_130_211, e_130_212, e_130_213, e_130_214, e_130_215, e_130_216, e_130_217, e_130_218, e_130_219, e_130_220, e_130_221, e_130_224, e_130_225, e_130_229, true_and, and_true, and_self, false_and, and_false, if_true, if_false, ↓reduceIte, Nat.add_eq_left, Nat.left_eq_add, Nat.add_left_cancel_iff, not_false_eq_true, not_true_eq_false, i_pc, List.cons_append, List.nil_append, List.length_cons, List.length_nil, Nat.reduceEqDiff, Nat.reduceAdd, Nat.reduceMul, Nat.reduceSub, Nat.reduceLeDiff, Nat.reduceLT, Int32.reduceLT, Int32.reduceLE, Int32.reduceAdd, Int32.reduceSub, reduceCtorEq, true_or, or_true, or_false, false_or, ne_eq, Nat.zero_le, k3, z1, z2, z3, b0]
        refine ⟨_, r1, ?_⟩
        simp only [e_130_232, e_130_233, e_130_234, e_130_235, e_130_236, e_130_237, e_130_238, e_130_239, e_130_240, e_130_241, e_130_242, e_130_243, e_130_244, e_130_245, e_130_246, e_130_247, e_130_248, e_130_251, e_130_252, e_130_256, true_and, and_true, and_self, false_and, and_false, if_true, if_false, ↓reduceIte, Nat.add_eq_left, Nat.left_eq_add, Nat.add_left_cancel_iff, not_false_eq_true, not_true_eq_false, i_pc, List.cons_append, List.nil_append, List.length_cons, List.length_nil, Nat.reduceEqDiff, Nat.reduceAdd, Nat.reduceMul, Nat.reduceSub, Nat.reduceLeDiff, Nat.reduceLT, Int32.reduceLT, Int32.reduceLE, Int32.reduceAdd, Int32.reduceSub, reduceCtorEq, true_or, or_true, or_false, false_or, ne_eq, Nat.zero_le, Option.toList, List.cons_append, List.nil_append, k9 g1 ag, z1, z2, z3, b0]
        refine ⟨_, r2, ?_⟩
        simp only [e_130_259, true_and, and_true, and_self, false_and, and_false, if_true, if_false, ↓reduceIte, Nat.add_eq_left, Nat.left_eq_add, Nat.add_left_cancel_iff, not_false_eq_true, not_true_eq_false, i_pc, List.cons_append, List.nil_append, List.length_cons, List.length_nil, Nat.reduceEqDiff, Nat.reduceAdd, Nat.reduceMul, Nat.reduceSub, Nat.reduceLeDiff, Nat.reduceLT, Int32.reduceLT, Int32.reduceLE, Int32.reduceAdd, Int32.reduceSub, reduceCtorEq, true_or, or_true, or_false, false_or, ne_eq, Nat.zero_le, Option.toList, List.cons_append, List.nil_append]
        exact e1
    by_cases c_6 : y = 6
    · rw [show a_tgt y [(0, 128), (1, 153), (2, 166), (3, 179), (4, 192), (5, 205), (6, 264), (7, 287), (8, 310), (9, 347), (10, 380), (11, 393), (12, 406), (13, 429), (14, 452), (15, 485), (16, 528), (17, 551), (18, 564), (19, 587)] 610 = 264 from by rw [c_6]; decide]
      obtain ⟨a, g1, g2, r1, r2, i2, ag, -⟩ := cal_one (h := h) (k_unstop (xs := xs) (L := L) (d := d) (i := j) (b := xs (nI (4 * j) + 1).toNatClampNeg) (by omega)) hI
      obtain ⟨v, rfl⟩ := rn_int (by decide) r1
      obtain ⟨hf, e1, e2⟩ := nx g2 i2
      refine ⟨hf, ?_, e2⟩
      unfold lwS at e1 ⊢
      simp only [e_130_264, e_130_265, e_130_266, e_130_267, e_130_268, e_130_269, e_130_270, true_and, and_true, and_self, false_and, and_false, if_true, if_false, ↓reduceIte, Nat.add_eq_left, Nat.left_eq_add, Nat.add_left_cancel_iff, not_false_eq_true, not_true_eq_false, i_pc, List.cons_append, List.nil_append, List.length_cons, List.length_nil, Nat.reduceEqDiff, Nat.reduceAdd, Nat.reduceMul, Nat.reduceSub, Nat.reduceLeDiff, Nat.reduceLT, Int32.reduceLT, Int32.reduceLE, Int32.reduceAdd, Int32.reduceSub, reduceCtorEq, true_or, or_true, or_false, false_or, ne_eq, Nat.zero_le, k3, z1]
      refine ⟨_, r1, ?_⟩
      simp only [e_130_273, e_130_274, e_130_275, e_130_276, e_130_277, e_130_278, e_130_279, true_and, and_true, and_self, false_and, and_false, if_true, if_false, ↓reduceIte, Nat.add_eq_left, Nat.left_eq_add, Nat.add_left_cancel_iff, not_false_eq_true, not_true_eq_false, i_pc, List.cons_append, List.nil_append, List.length_cons, List.length_nil, Nat.reduceEqDiff, Nat.reduceAdd, Nat.reduceMul, Nat.reduceSub, Nat.reduceLeDiff, Nat.reduceLT, Int32.reduceLT, Int32.reduceLE, Int32.reduceAdd, Int32.reduceSub, reduceCtorEq, true_or, or_true, or_false, false_or, ne_eq, Nat.zero_le, Option.toList, List.cons_append, List.nil_append, k9 g1 ag, z1]
      refine ⟨_, r2, ?_⟩
      simp only [e_130_282, true_and, and_true, and_self, false_and, and_false, if_true, if_false, ↓reduceIte, Nat.add_eq_left, Nat.left_eq_add, Nat.add_left_cancel_iff, not_false_eq_true, not_true_eq_false, i_pc, List.cons_append, List.nil_append, List.length_cons, List.length_nil, Nat.reduceEqDiff, Nat.reduceAdd, Nat.reduceMul, Nat.reduceSub, Nat.reduceLeDiff, Nat.reduceLT, Int32.reduceLT, Int32.reduceLE, Int32.reduceAdd, Int32.reduceSub, reduceCtorEq, true_or, or_true, or_false, false_or, ne_eq, Nat.zero_le, Option.toList, List.cons_append, List.nil_append]
      exact e1
    by_cases c_7 : y = 7
    · rw [show a_tgt y [(0, 128), (1, 153), (2, 166), (3, 179), (4, 192), (5, 205), (6, 264), (7, 287), (8, 310), (9, 347), (10, 380), (11, 393), (12, 406), (13, 429), (14, 452), (15, 485), (16, 528), (17, 551), (18, 564), (19, 587)] 610 = 287 from by rw [c_7]; decide]
      obtain ⟨a, g1, g2, r1, r2, i2, ag, -⟩ := cal_one (h := h) (k_hits (xs := xs) (L := L) (d := d) (i := j) (b := xs (nI (4 * j) + 1).toNatClampNeg)) hI
      obtain ⟨v, rfl⟩ := rn_int (by decide) r1
      obtain ⟨hf, e1, e2⟩ := nx g2 i2
      refine ⟨hf, ?_, e2⟩
      unfold lwS at e1 ⊢
      simp only [e_130_287, e_130_288, e_130_289, e_130_290, e_130_291, e_130_292, e_130_293, true_and, and_true, and_self, false_and, and_false, if_true, if_false, ↓reduceIte, Nat.add_eq_left, Nat.left_eq_add, Nat.add_left_cancel_iff, not_false_eq_true, not_true_eq_false, i_pc, List.cons_append, List.nil_append, List.length_cons, List.length_nil, Nat.reduceEqDiff, Nat.reduceAdd, Nat.reduceMul, Nat.reduceSub, Nat.reduceLeDiff, Nat.reduceLT, Int32.reduceLT, Int32.reduceLE, Int32.reduceAdd, Int32.reduceSub, reduceCtorEq, true_or, or_true, or_false, false_or, ne_eq, Nat.zero_le, k3, z1]
      refine ⟨_, r1, ?_⟩
      simp only [e_130_296, e_130_297, e_130_298, e_130_299, e_130_300, e_130_301, e_130_302, true_and, and_true, and_self, false_and, and_false, if_true, if_false, ↓reduceIte, Nat.add_eq_left, Nat.left_eq_add, Nat.add_left_cancel_iff, not_false_eq_true, not_true_eq_false, i_pc, List.cons_append, List.nil_append, List.length_cons, List.length_nil, Nat.reduceEqDiff, Nat.reduceAdd, Nat.reduceMul, Nat.reduceSub, Nat.reduceLeDiff, Nat.reduceLT, Int32.reduceLT, Int32.reduceLE, Int32.reduceAdd, Int32.reduceSub, reduceCtorEq, true_or, or_true, or_false, false_or, ne_eq, Nat.zero_le, Option.toList, List.cons_append, List.nil_append, k9 g1 ag, z1]
      refine ⟨_, r2, ?_⟩
      simp only [e_130_305, true_and, and_true, and_self, false_and, and_false, if_true, if_false, ↓reduceIte, Nat.add_eq_left, Nat.left_eq_add, Nat.add_left_cancel_iff, not_false_eq_true, not_true_eq_false, i_pc, List.cons_append, List.nil_append, List.length_cons, List.length_nil, Nat.reduceEqDiff, Nat.reduceAdd, Nat.reduceMul, Nat.reduceSub, Nat.reduceLeDiff, Nat.reduceLT, Int32.reduceLT, Int32.reduceLE, Int32.reduceAdd, Int32.reduceSub, reduceCtorEq, true_or, or_true, or_false, false_or, ne_eq, Nat.zero_le, Option.toList, List.cons_append, List.nil_append]
      exact e1
    by_cases c_8 : y = 8
    · rw [show a_tgt y [(0, 128), (1, 153), (2, 166), (3, 179), (4, 192), (5, 205), (6, 264), (7, 287), (8, 310), (9, 347), (10, 380), (11, 393), (12, 406), (13, 429), (14, 452), (15, 485), (16, 528), (17, 551), (18, 564), (19, 587)] 610 = 310 from by rw [c_8]; decide]
      by_cases b0 : xs (nI (4 * j) + 1).toNatClampNeg = 0
      · obtain ⟨a, g1, g2, r1, r2, i2, ag, -⟩ := cal_one (h := h) (k_watch (xs := xs) (L := L) (d := d) (i := j) (b := 0) (Or.inl rfl)) hI
        obtain rfl := rn_void (by decide) r1
        obtain ⟨hf, e1, e2⟩ := nx g2 i2
        refine ⟨hf, ?_, e2⟩
        unfold lwS at e1 ⊢
        simp only [e_130_310, e_130_311, e_130_312, e_130_313, e_130_314, e_130_315, e_130_316, e_130_323, e_130_324, true_and, and_true, and_self, false_and, and_false, if_true, if_false, ↓reduceIte, Nat.add_eq_left, Nat.left_eq_add, Nat.add_left_cancel_iff, not_false_eq_true, not_true_eq_false, i_pc, List.cons_append, List.nil_append, List.length_cons, List.length_nil, Nat.reduceEqDiff, Nat.reduceAdd, Nat.reduceMul, Nat.reduceSub, Nat.reduceLeDiff, Nat.reduceLT, Int32.reduceLT, Int32.reduceLE, Int32.reduceAdd, Int32.reduceSub, reduceCtorEq, true_or, or_true, or_false, false_or, ne_eq, Nat.zero_le, k3, z1, b0]
        refine ⟨_, r1, ?_⟩
        simp only [e_130_327, e_130_328, e_130_329, e_130_330, e_130_331, e_130_332, e_130_333, e_130_340, e_130_341, true_and, and_true, and_self, false_and, and_false, if_true, if_false, ↓reduceIte, Nat.add_eq_left, Nat.left_eq_add, Nat.add_left_cancel_iff, not_false_eq_true, not_true_eq_false, i_pc, List.cons_append, List.nil_append, List.length_cons, List.length_nil, Nat.reduceEqDiff, Nat.reduceAdd, Nat.reduceMul, Nat.reduceSub, Nat.reduceLeDiff, Nat.reduceLT, Int32.reduceLT, Int32.reduceLE, Int32.reduceAdd, Int32.reduceSub, reduceCtorEq, true_or, or_true, or_false, false_or, ne_eq, Nat.zero_le, Option.toList, List.cons_append, List.nil_append, k9 g1 ag, z1, b0]
        refine ⟨_, r2, ?_⟩
        simp only [e_130_344, true_and, and_true, and_self, false_and, and_false, if_true, if_false, ↓reduceIte, Nat.add_eq_left, Nat.left_eq_add, Nat.add_left_cancel_iff, not_false_eq_true, not_true_eq_false, i_pc, List.cons_append, List.nil_append, List.length_cons, List.length_nil, Nat.reduceEqDiff, Nat.reduceAdd, Nat.reduceMul, Nat.reduceSub, Nat.reduceLeDiff, Nat.reduceLT, Int32.reduceLT, Int32.reduceLE, Int32.reduceAdd, Int32.reduceSub, reduceCtorEq, true_or, or_true, or_false, false_or, ne_eq, Nat.zero_le, Option.toList, List.cons_append, List.nil_append]
        exact e1
      · obtain ⟨a, g1, g2, r1, r2, i2, ag, -⟩ := cal_one (h := h) (k_watch (xs := xs) (L := L) (d := d) (i := j) (b := 1) (Or.inr rfl)) hI
        obtain rfl := rn_void (by decide) r1
        obtain ⟨hf, e1, e2⟩ := nx g2 i2
        refine ⟨hf, ?_, e2⟩
        unfold lwS at e1 ⊢
        simp only [e_130_310, e_130_311, e_130_312, e_130_313, e_130_314, e_130_315, e_130_316, e_130_319, e_130_320, e_130_324, true_and, and_true, and_self, false_and, and_false, if_true, if_false, ↓reduceIte, Nat.add_eq_left, Nat.left_eq_add, Nat.add_left_cancel_iff, not_false_eq_true, not_true_eq_false, i_pc, List.cons_append, List.nil_append, List.length_cons, List.length_nil, Nat.reduceEqDiff, Nat.reduceAdd, Nat.reduceMul, Nat.reduceSub, Nat.reduceLeDiff, Nat.reduceLT, Int32.reduceLT, Int32.reduceLE, Int32.reduceAdd, Int32.reduceSub, reduceCtorEq, true_or, or_true, or_false, false_or, ne_eq, Nat.zero_le, k3, z1, b0]
        refine ⟨_, r1, ?_⟩
        simp only [e_130_327, e_130_328, e_130_329, e_130_330, e_130_331, e_130_332, e_130_333, e_130_336, e_130_337, e_130_341, true_and, and_true, and_self, false_and, and_false, if_true, if_false, ↓reduceIte, Nat.add_eq_left, Nat.left_eq_add, Nat.add_left_cancel_iff, not_false_eq_true, not_true_eq_false, i_pc, List.cons_append, List.nil_append, List.length_cons, List.length_nil, Nat.reduceEqDiff, Nat.reduceAdd, Nat.reduceMul, Nat.reduceSub, Nat.reduceLeDiff, Nat.reduceLT, Int32.reduceLT, Int32.reduceLE, Int32.reduceAdd, Int32.reduceSub, reduceCtorEq, true_or, or_true, or_false, false_or, ne_eq, Nat.zero_le, Option.toList, List.cons_append, List.nil_append, k9 g1 ag, z1, b0]
        refine ⟨_, r2, ?_⟩
        simp only [e_130_344, true_and, and_true, and_self, false_and, and_false, if_true, if_false, ↓reduceIte, Nat.add_eq_left, Nat.left_eq_add, Nat.add_left_cancel_iff, not_false_eq_true, not_true_eq_false, i_pc, List.cons_append, List.nil_append, List.length_cons, List.length_nil, Nat.reduceEqDiff, Nat.reduceAdd, Nat.reduceMul, Nat.reduceSub, Nat.reduceLeDiff, Nat.reduceLT, Int32.reduceLT, Int32.reduceLE, Int32.reduceAdd, Int32.reduceSub, reduceCtorEq, true_or, or_true, or_false, false_or, ne_eq, Nat.zero_le, Option.toList, List.cons_append, List.nil_append]
        exact e1
    by_cases c_9 : y = 9
    · rw [show a_tgt y [(0, 128), (1, 153), (2, 166), (3, 179), (4, 192), (5, 205), (6, 264), (7, 287), (8, 310), (9, 347), (10, 380), (11, 393), (12, 406), (13, 429), (14, 452), (15, 485), (16, 528), (17, 551), (18, 564), (19, 587)] 610 = 347 from by rw [c_9]; decide]
      obtain ⟨a, g1, g2, r1, r2, i2, ag, -⟩ := cal_one (h := h) (k_go (xs := xs) (L := L) (d := d) (i := j) (k := xs (nI (4 * j) + 1).toNatClampNeg) (w := xs (nI (4 * j) + 2).toNatClampNeg) (by omega)) hI
      obtain ⟨v, rfl⟩ := rn_int (by decide) r1
      obtain ⟨hf, e1, e2⟩ := nx g2 i2
      refine ⟨hf, ?_, e2⟩
      unfold lwS at e1 ⊢
      simp only [e_130_347, e_130_348, e_130_349, e_130_350, e_130_351, e_130_352, e_130_353, e_130_354, e_130_355, e_130_356, e_130_357, e_130_358, true_and, and_true, and_self, false_and, and_false, if_true, if_false, ↓reduceIte, Nat.add_eq_left, Nat.left_eq_add, Nat.add_left_cancel_iff, not_false_eq_true, not_true_eq_false, i_pc, List.cons_append, List.nil_append, List.length_cons, List.length_nil, Nat.reduceEqDiff, Nat.reduceAdd, Nat.reduceMul, Nat.reduceSub, Nat.reduceLeDiff, Nat.reduceLT, Int32.reduceLT, Int32.reduceLE, Int32.reduceAdd, Int32.reduceSub, reduceCtorEq, true_or, or_true, or_false, false_or, ne_eq, Nat.zero_le, k3, z1, z2]
      refine ⟨_, r1, ?_⟩
      simp only [e_130_361, e_130_362, e_130_363, e_130_364, e_130_365, e_130_366, e_130_367, e_130_368, e_130_369, e_130_370, e_130_371, e_130_372, true_and, and_true, and_self, false_and, and_false, if_true, if_false, ↓reduceIte, Nat.add_eq_left, Nat.left_eq_add, Nat.add_left_cancel_iff, not_false_eq_true, not_true_eq_false, i_pc, List.cons_append, List.nil_append, List.length_cons, List.length_nil, Nat.reduceEqDiff, Nat.reduceAdd, Nat.reduceMul, Nat.reduceSub, Nat.reduceLeDiff, Nat.reduceLT, Int32.reduceLT, Int32.reduceLE, Int32.reduceAdd, Int32.reduceSub, reduceCtorEq, true_or, or_true, or_false, false_or, ne_eq, Nat.zero_le, Option.toList, List.cons_append, List.nil_append, k9 g1 ag, z1, z2]
      refine ⟨_, r2, ?_⟩
      simp only [e_130_375, true_and, and_true, and_self, false_and, and_false, if_true, if_false, ↓reduceIte, Nat.add_eq_left, Nat.left_eq_add, Nat.add_left_cancel_iff, not_false_eq_true, not_true_eq_false, i_pc, List.cons_append, List.nil_append, List.length_cons, List.length_nil, Nat.reduceEqDiff, Nat.reduceAdd, Nat.reduceMul, Nat.reduceSub, Nat.reduceLeDiff, Nat.reduceLT, Int32.reduceLT, Int32.reduceLE, Int32.reduceAdd, Int32.reduceSub, reduceCtorEq, true_or, or_true, or_false, false_or, ne_eq, Nat.zero_le, Option.toList, List.cons_append, List.nil_append]
      exact e1
    by_cases c_10 : y = 10
    · rw [show a_tgt y [(0, 128), (1, 153), (2, 166), (3, 179), (4, 192), (5, 205), (6, 264), (7, 287), (8, 310), (9, 347), (10, 380), (11, 393), (12, 406), (13, 429), (14, 452), (15, 485), (16, 528), (17, 551), (18, 564), (19, 587)] 610 = 380 from by rw [c_10]; decide]
      obtain ⟨a, g1, g2, r1, r2, i2, ag, -⟩ := cal_one (h := h) (k_points (xs := xs) (L := L) (d := d) (i := j)) hI
      obtain ⟨v, rfl⟩ := rn_int (by decide) r1
      obtain ⟨hf, e1, e2⟩ := nx g2 i2
      refine ⟨hf, ?_, e2⟩
      unfold lwS at e1 ⊢
      simp only [e_130_380, e_130_381, true_and, and_true, and_self, false_and, and_false, if_true, if_false, ↓reduceIte, Nat.add_eq_left, Nat.left_eq_add, Nat.add_left_cancel_iff, not_false_eq_true, not_true_eq_false, i_pc, List.cons_append, List.nil_append, List.length_cons, List.length_nil, Nat.reduceEqDiff, Nat.reduceAdd, Nat.reduceMul, Nat.reduceSub, Nat.reduceLeDiff, Nat.reduceLT, Int32.reduceLT, Int32.reduceLE, Int32.reduceAdd, Int32.reduceSub, reduceCtorEq, true_or, or_true, or_false, false_or, ne_eq, Nat.zero_le, k3]
      refine ⟨_, r1, ?_⟩
      simp only [e_130_384, e_130_385, true_and, and_true, and_self, false_and, and_false, if_true, if_false, ↓reduceIte, Nat.add_eq_left, Nat.left_eq_add, Nat.add_left_cancel_iff, not_false_eq_true, not_true_eq_false, i_pc, List.cons_append, List.nil_append, List.length_cons, List.length_nil, Nat.reduceEqDiff, Nat.reduceAdd, Nat.reduceMul, Nat.reduceSub, Nat.reduceLeDiff, Nat.reduceLT, Int32.reduceLT, Int32.reduceLE, Int32.reduceAdd, Int32.reduceSub, reduceCtorEq, true_or, or_true, or_false, false_or, ne_eq, Nat.zero_le, Option.toList, List.cons_append, List.nil_append, k9 g1 ag]
      refine ⟨_, r2, ?_⟩
      simp only [e_130_388, true_and, and_true, and_self, false_and, and_false, if_true, if_false, ↓reduceIte, Nat.add_eq_left, Nat.left_eq_add, Nat.add_left_cancel_iff, not_false_eq_true, not_true_eq_false, i_pc, List.cons_append, List.nil_append, List.length_cons, List.length_nil, Nat.reduceEqDiff, Nat.reduceAdd, Nat.reduceMul, Nat.reduceSub, Nat.reduceLeDiff, Nat.reduceLT, Int32.reduceLT, Int32.reduceLE, Int32.reduceAdd, Int32.reduceSub, reduceCtorEq, true_or, or_true, or_false, false_or, ne_eq, Nat.zero_le, Option.toList, List.cons_append, List.nil_append]
      exact e1
    by_cases c_11 : y = 11
    · rw [show a_tgt y [(0, 128), (1, 153), (2, 166), (3, 179), (4, 192), (5, 205), (6, 264), (7, 287), (8, 310), (9, 347), (10, 380), (11, 393), (12, 406), (13, 429), (14, 452), (15, 485), (16, 528), (17, 551), (18, 564), (19, 587)] 610 = 393 from by rw [c_11]; decide]
      obtain ⟨a, g1, g2, r1, r2, i2, ag, -⟩ := cal_one (h := h) (k_depth (xs := xs) (L := L) (d := d) (i := j)) hI
      obtain ⟨v, rfl⟩ := rn_int (by decide) r1
      obtain ⟨hf, e1, e2⟩ := nx g2 i2
      refine ⟨hf, ?_, e2⟩
      unfold lwS at e1 ⊢
      simp only [e_130_393, e_130_394, true_and, and_true, and_self, false_and, and_false, if_true, if_false, ↓reduceIte, Nat.add_eq_left, Nat.left_eq_add, Nat.add_left_cancel_iff, not_false_eq_true, not_true_eq_false, i_pc, List.cons_append, List.nil_append, List.length_cons, List.length_nil, Nat.reduceEqDiff, Nat.reduceAdd, Nat.reduceMul, Nat.reduceSub, Nat.reduceLeDiff, Nat.reduceLT, Int32.reduceLT, Int32.reduceLE, Int32.reduceAdd, Int32.reduceSub, reduceCtorEq, true_or, or_true, or_false, false_or, ne_eq, Nat.zero_le, k3]
      refine ⟨_, r1, ?_⟩
      simp only [e_130_397, e_130_398, true_and, and_true, and_self, false_and, and_false, if_true, if_false, ↓reduceIte, Nat.add_eq_left, Nat.left_eq_add, Nat.add_left_cancel_iff, not_false_eq_true, not_true_eq_false, i_pc, List.cons_append, List.nil_append, List.length_cons, List.length_nil, Nat.reduceEqDiff, Nat.reduceAdd, Nat.reduceMul, Nat.reduceSub, Nat.reduceLeDiff, Nat.reduceLT, Int32.reduceLT, Int32.reduceLE, Int32.reduceAdd, Int32.reduceSub, reduceCtorEq, true_or, or_true, or_false, false_or, ne_eq, Nat.zero_le, Option.toList, List.cons_append, List.nil_append, k9 g1 ag]
      refine ⟨_, r2, ?_⟩
      simp only [e_130_401, true_and, and_true, and_self, false_and, and_false, if_true, if_false, ↓reduceIte, Nat.add_eq_left, Nat.left_eq_add, Nat.add_left_cancel_iff, not_false_eq_true, not_true_eq_false, i_pc, List.cons_append, List.nil_append, List.length_cons, List.length_nil, Nat.reduceEqDiff, Nat.reduceAdd, Nat.reduceMul, Nat.reduceSub, Nat.reduceLeDiff, Nat.reduceLT, Int32.reduceLT, Int32.reduceLE, Int32.reduceAdd, Int32.reduceSub, reduceCtorEq, true_or, or_true, or_false, false_or, ne_eq, Nat.zero_le, Option.toList, List.cons_append, List.nil_append]
      exact e1
    by_cases c_12 : y = 12
    · rw [show a_tgt y [(0, 128), (1, 153), (2, 166), (3, 179), (4, 192), (5, 205), (6, 264), (7, 287), (8, 310), (9, 347), (10, 380), (11, 393), (12, 406), (13, 429), (14, 452), (15, 485), (16, 528), (17, 551), (18, 564), (19, 587)] 610 = 406 from by rw [c_12]; decide]
      obtain ⟨a, g1, g2, r1, r2, i2, ag, -⟩ := cal_one (h := h) (k_line (xs := xs) (L := L) (d := d) (i := j) (b := xs (nI (4 * j) + 1).toNatClampNeg)) hI
      obtain ⟨v, rfl⟩ := rn_int (by decide) r1
      obtain ⟨hf, e1, e2⟩ := nx g2 i2
      refine ⟨hf, ?_, e2⟩
      unfold lwS at e1 ⊢
      simp only [e_130_406, e_130_407, e_130_408, e_130_409, e_130_410, e_130_411, e_130_412, true_and, and_true, and_self, false_and, and_false, if_true, if_false, ↓reduceIte, Nat.add_eq_left, Nat.left_eq_add, Nat.add_left_cancel_iff, not_false_eq_true, not_true_eq_false, i_pc, List.cons_append, List.nil_append, List.length_cons, List.length_nil, Nat.reduceEqDiff, Nat.reduceAdd, Nat.reduceMul, Nat.reduceSub, Nat.reduceLeDiff, Nat.reduceLT, Int32.reduceLT, Int32.reduceLE, Int32.reduceAdd, Int32.reduceSub, reduceCtorEq, true_or, or_true, or_false, false_or, ne_eq, Nat.zero_le, k3, z1]
      refine ⟨_, r1, ?_⟩
      simp only [e_130_415, e_130_416, e_130_417, e_130_418, e_130_419, e_130_420, e_130_421, true_and, and_true, and_self, false_and, and_false, if_true, if_false, ↓reduceIte, Nat.add_eq_left, Nat.left_eq_add, Nat.add_left_cancel_iff, not_false_eq_true, not_true_eq_false, i_pc, List.cons_append, List.nil_append, List.length_cons, List.length_nil, Nat.reduceEqDiff, Nat.reduceAdd, Nat.reduceMul, Nat.reduceSub, Nat.reduceLeDiff, Nat.reduceLT, Int32.reduceLT, Int32.reduceLE, Int32.reduceAdd, Int32.reduceSub, reduceCtorEq, true_or, or_true, or_false, false_or, ne_eq, Nat.zero_le, Option.toList, List.cons_append, List.nil_append, k9 g1 ag, z1]
      refine ⟨_, r2, ?_⟩
      simp only [e_130_424, true_and, and_true, and_self, false_and, and_false, if_true, if_false, ↓reduceIte, Nat.add_eq_left, Nat.left_eq_add, Nat.add_left_cancel_iff, not_false_eq_true, not_true_eq_false, i_pc, List.cons_append, List.nil_append, List.length_cons, List.length_nil, Nat.reduceEqDiff, Nat.reduceAdd, Nat.reduceMul, Nat.reduceSub, Nat.reduceLeDiff, Nat.reduceLT, Int32.reduceLT, Int32.reduceLE, Int32.reduceAdd, Int32.reduceSub, reduceCtorEq, true_or, or_true, or_false, false_or, ne_eq, Nat.zero_le, Option.toList, List.cons_append, List.nil_append]
      exact e1
    by_cases c_13 : y = 13
    · rw [show a_tgt y [(0, 128), (1, 153), (2, 166), (3, 179), (4, 192), (5, 205), (6, 264), (7, 287), (8, 310), (9, 347), (10, 380), (11, 393), (12, 406), (13, 429), (14, 452), (15, 485), (16, 528), (17, 551), (18, 564), (19, 587)] 610 = 429 from by rw [c_13]; decide]
      obtain ⟨a, g1, g2, r1, r2, i2, ag, -⟩ := cal_one (h := h) (k_func (xs := xs) (L := L) (d := d) (i := j) (b := xs (nI (4 * j) + 1).toNatClampNeg)) hI
      obtain ⟨v, rfl⟩ := rn_int (by decide) r1
      obtain ⟨hf, e1, e2⟩ := nx g2 i2
      refine ⟨hf, ?_, e2⟩
      unfold lwS at e1 ⊢
      simp only [e_130_429, e_130_430, e_130_431, e_130_432, e_130_433, e_130_434, e_130_435, true_and, and_true, and_self, false_and, and_false, if_true, if_false, ↓reduceIte, Nat.add_eq_left, Nat.left_eq_add, Nat.add_left_cancel_iff, not_false_eq_true, not_true_eq_false, i_pc, List.cons_append, List.nil_append, List.length_cons, List.length_nil, Nat.reduceEqDiff, Nat.reduceAdd, Nat.reduceMul, Nat.reduceSub, Nat.reduceLeDiff, Nat.reduceLT, Int32.reduceLT, Int32.reduceLE, Int32.reduceAdd, Int32.reduceSub, reduceCtorEq, true_or, or_true, or_false, false_or, ne_eq, Nat.zero_le, k3, z1]
      refine ⟨_, r1, ?_⟩
      simp only [e_130_438, e_130_439, e_130_440, e_130_441, e_130_442, e_130_443, e_130_444, true_and, and_true, and_self, false_and, and_false, if_true, if_false, ↓reduceIte, Nat.add_eq_left, Nat.left_eq_add, Nat.add_left_cancel_iff, not_false_eq_true, not_true_eq_false, i_pc, List.cons_append, List.nil_append, List.length_cons, List.length_nil, Nat.reduceEqDiff, Nat.reduceAdd, Nat.reduceMul, Nat.reduceSub, Nat.reduceLeDiff, Nat.reduceLT, Int32.reduceLT, Int32.reduceLE, Int32.reduceAdd, Int32.reduceSub, reduceCtorEq, true_or, or_true, or_false, false_or, ne_eq, Nat.zero_le, Option.toList, List.cons_append, List.nil_append, k9 g1 ag, z1]
      refine ⟨_, r2, ?_⟩
      simp only [e_130_447, true_and, and_true, and_self, false_and, and_false, if_true, if_false, ↓reduceIte, Nat.add_eq_left, Nat.left_eq_add, Nat.add_left_cancel_iff, not_false_eq_true, not_true_eq_false, i_pc, List.cons_append, List.nil_append, List.length_cons, List.length_nil, Nat.reduceEqDiff, Nat.reduceAdd, Nat.reduceMul, Nat.reduceSub, Nat.reduceLeDiff, Nat.reduceLT, Int32.reduceLT, Int32.reduceLE, Int32.reduceAdd, Int32.reduceSub, reduceCtorEq, true_or, or_true, or_false, false_or, ne_eq, Nat.zero_le, Option.toList, List.cons_append, List.nil_append]
      exact e1
    by_cases c_14 : y = 14
    · rw [show a_tgt y [(0, 128), (1, 153), (2, 166), (3, 179), (4, 192), (5, 205), (6, 264), (7, 287), (8, 310), (9, 347), (10, 380), (11, 393), (12, 406), (13, 429), (14, 452), (15, 485), (16, 528), (17, 551), (18, 564), (19, 587)] 610 = 452 from by rw [c_14]; decide]
      obtain ⟨a, g1, g2, r1, r2, i2, ag, -⟩ := cal_one (h := h) (k_var (xs := xs) (L := L) (d := d) (i := j) (b := xs (nI (4 * j) + 1).toNatClampNeg) (v := xs (nI (4 * j) + 2).toNatClampNeg)) hI
      obtain ⟨v, rfl⟩ := rn_int (by decide) r1
      obtain ⟨hf, e1, e2⟩ := nx g2 i2
      refine ⟨hf, ?_, e2⟩
      unfold lwS at e1 ⊢
      simp only [e_130_452, e_130_453, e_130_454, e_130_455, e_130_456, e_130_457, e_130_458, e_130_459, e_130_460, e_130_461, e_130_462, e_130_463, true_and, and_true, and_self, false_and, and_false, if_true, if_false, ↓reduceIte, Nat.add_eq_left, Nat.left_eq_add, Nat.add_left_cancel_iff, not_false_eq_true, not_true_eq_false, i_pc, List.cons_append, List.nil_append, List.length_cons, List.length_nil, Nat.reduceEqDiff, Nat.reduceAdd, Nat.reduceMul, Nat.reduceSub, Nat.reduceLeDiff, Nat.reduceLT, Int32.reduceLT, Int32.reduceLE, Int32.reduceAdd, Int32.reduceSub, reduceCtorEq, true_or, or_true, or_false, false_or, ne_eq, Nat.zero_le, k3, z1, z2]
      refine ⟨_, r1, ?_⟩
      simp only [e_130_466, e_130_467, e_130_468, e_130_469, e_130_470, e_130_471, e_130_472, e_130_473, e_130_474, e_130_475, e_130_476, e_130_477, true_and, and_true, and_self, false_and, and_false, if_true, if_false, ↓reduceIte, Nat.add_eq_left, Nat.left_eq_add, Nat.add_left_cancel_iff, not_false_eq_true, not_true_eq_false, i_pc, List.cons_append, List.nil_append, List.length_cons, List.length_nil, Nat.reduceEqDiff, Nat.reduceAdd, Nat.reduceMul, Nat.reduceSub, Nat.reduceLeDiff, Nat.reduceLT, Int32.reduceLT, Int32.reduceLE, Int32.reduceAdd, Int32.reduceSub, reduceCtorEq, true_or, or_true, or_false, false_or, ne_eq, Nat.zero_le, Option.toList, List.cons_append, List.nil_append, k9 g1 ag, z1, z2]
      refine ⟨_, r2, ?_⟩
      simp only [e_130_480, true_and, and_true, and_self, false_and, and_false, if_true, if_false, ↓reduceIte, Nat.add_eq_left, Nat.left_eq_add, Nat.add_left_cancel_iff, not_false_eq_true, not_true_eq_false, i_pc, List.cons_append, List.nil_append, List.length_cons, List.length_nil, Nat.reduceEqDiff, Nat.reduceAdd, Nat.reduceMul, Nat.reduceSub, Nat.reduceLeDiff, Nat.reduceLT, Int32.reduceLT, Int32.reduceLE, Int32.reduceAdd, Int32.reduceSub, reduceCtorEq, true_or, or_true, or_false, false_or, ne_eq, Nat.zero_le, Option.toList, List.cons_append, List.nil_append]
      exact e1
    by_cases c_15 : y = 15
    · rw [show a_tgt y [(0, 128), (1, 153), (2, 166), (3, 179), (4, 192), (5, 205), (6, 264), (7, 287), (8, 310), (9, 347), (10, 380), (11, 393), (12, 406), (13, 429), (14, 452), (15, 485), (16, 528), (17, 551), (18, 564), (19, 587)] 610 = 485 from by rw [c_15]; decide]
      obtain ⟨a, g1, g2, r1, r2, i2, ag, -⟩ := cal_one (h := h) (k_set (xs := xs) (L := L) (d := d) (i := j) (b := xs (nI (4 * j) + 1).toNatClampNeg) (v := xs (nI (4 * j) + 2).toNatClampNeg) (w := xs (nI (4 * j) + 3).toNatClampNeg)) hI
      obtain ⟨v, rfl⟩ := rn_int (by decide) r1
      obtain ⟨hf, e1, e2⟩ := nx g2 i2
      refine ⟨hf, ?_, e2⟩
      unfold lwS at e1 ⊢
      simp only [e_130_485, e_130_486, e_130_487, e_130_488, e_130_489, e_130_490, e_130_491, e_130_492, e_130_493, e_130_494, e_130_495, e_130_496, e_130_497, e_130_498, e_130_499, e_130_500, e_130_501, true_and, and_true, and_self, false_and, and_false, if_true, if_false, ↓reduceIte, Nat.add_eq_left, Nat.left_eq_add, Nat.add_left_cancel_iff, not_false_eq_true, not_true_eq_false, i_pc, List.cons_append, List.nil_append, List.length_cons, List.length_nil, Nat.reduceEqDiff, Nat.reduceAdd, Nat.reduceMul, Nat.reduceSub, Nat.reduceLeDiff, Nat.reduceLT, Int32.reduceLT, Int32.reduceLE, Int32.reduceAdd, Int32.reduceSub, reduceCtorEq, true_or, or_true, or_false, false_or, ne_eq, Nat.zero_le, k3, z1, z2, z3]
      refine ⟨_, r1, ?_⟩
      simp only [e_130_504, e_130_505, e_130_506, e_130_507, e_130_508, e_130_509, e_130_510, e_130_511, e_130_512, e_130_513, e_130_514, e_130_515, e_130_516, e_130_517, e_130_518, e_130_519, e_130_520, true_and, and_true, and_self, false_and, and_false, if_true, if_false, ↓reduceIte, Nat.add_eq_left, Nat.left_eq_add, Nat.add_left_cancel_iff, not_false_eq_true, not_true_eq_false, i_pc, List.cons_append, List.nil_append, List.length_cons, List.length_nil, Nat.reduceEqDiff, Nat.reduceAdd, Nat.reduceMul, Nat.reduceSub, Nat.reduceLeDiff, Nat.reduceLT, Int32.reduceLT, Int32.reduceLE, Int32.reduceAdd, Int32.reduceSub, reduceCtorEq, true_or, or_true, or_false, false_or, ne_eq, Nat.zero_le, Option.toList, List.cons_append, List.nil_append, k9 g1 ag, z1, z2, z3]
      refine ⟨_, r2, ?_⟩
      simp only [e_130_523, true_and, and_true, and_self, false_and, and_false, if_true, if_false, ↓reduceIte, Nat.add_eq_left, Nat.left_eq_add, Nat.add_left_cancel_iff, not_false_eq_true, not_true_eq_false, i_pc, List.cons_append, List.nil_append, List.length_cons, List.length_nil, Nat.reduceEqDiff, Nat.reduceAdd, Nat.reduceMul, Nat.reduceSub, Nat.reduceLeDiff, Nat.reduceLT, Int32.reduceLT, Int32.reduceLE, Int32.reduceAdd, Int32.reduceSub, reduceCtorEq, true_or, or_true, or_false, false_or, ne_eq, Nat.zero_le, Option.toList, List.cons_append, List.nil_append]
      exact e1
    by_cases c_16 : y = 16
    · rw [show a_tgt y [(0, 128), (1, 153), (2, 166), (3, 179), (4, 192), (5, 205), (6, 264), (7, 287), (8, 310), (9, 347), (10, 380), (11, 393), (12, 406), (13, 429), (14, 452), (15, 485), (16, 528), (17, 551), (18, 564), (19, 587)] 610 = 528 from by rw [c_16]; decide]
      obtain ⟨a, g1, g2, r1, r2, i2, ag, -⟩ := cal_one (h := h) (k_evaluate (xs := xs) (L := L) (d := d) (i := j) (b := xs (nI (4 * j) + 1).toNatClampNeg)) hI
      obtain ⟨v, rfl⟩ := rn_int (by decide) r1
      obtain ⟨hf, e1, e2⟩ := nx g2 i2
      refine ⟨hf, ?_, e2⟩
      unfold lwS at e1 ⊢
      simp only [e_130_528, e_130_529, e_130_530, e_130_531, e_130_532, e_130_533, e_130_534, true_and, and_true, and_self, false_and, and_false, if_true, if_false, ↓reduceIte, Nat.add_eq_left, Nat.left_eq_add, Nat.add_left_cancel_iff, not_false_eq_true, not_true_eq_false, i_pc, List.cons_append, List.nil_append, List.length_cons, List.length_nil, Nat.reduceEqDiff, Nat.reduceAdd, Nat.reduceMul, Nat.reduceSub, Nat.reduceLeDiff, Nat.reduceLT, Int32.reduceLT, Int32.reduceLE, Int32.reduceAdd, Int32.reduceSub, reduceCtorEq, true_or, or_true, or_false, false_or, ne_eq, Nat.zero_le, k3, z1]
      refine ⟨_, r1, ?_⟩
      simp only [e_130_537, e_130_538, e_130_539, e_130_540, e_130_541, e_130_542, e_130_543, true_and, and_true, and_self, false_and, and_false, if_true, if_false, ↓reduceIte, Nat.add_eq_left, Nat.left_eq_add, Nat.add_left_cancel_iff, not_false_eq_true, not_true_eq_false, i_pc, List.cons_append, List.nil_append, List.length_cons, List.length_nil, Nat.reduceEqDiff, Nat.reduceAdd, Nat.reduceMul, Nat.reduceSub, Nat.reduceLeDiff, Nat.reduceLT, Int32.reduceLT, Int32.reduceLE, Int32.reduceAdd, Int32.reduceSub, reduceCtorEq, true_or, or_true, or_false, false_or, ne_eq, Nat.zero_le, Option.toList, List.cons_append, List.nil_append, k9 g1 ag, z1]
      refine ⟨_, r2, ?_⟩
      simp only [e_130_546, true_and, and_true, and_self, false_and, and_false, if_true, if_false, ↓reduceIte, Nat.add_eq_left, Nat.left_eq_add, Nat.add_left_cancel_iff, not_false_eq_true, not_true_eq_false, i_pc, List.cons_append, List.nil_append, List.length_cons, List.length_nil, Nat.reduceEqDiff, Nat.reduceAdd, Nat.reduceMul, Nat.reduceSub, Nat.reduceLeDiff, Nat.reduceLT, Int32.reduceLT, Int32.reduceLE, Int32.reduceAdd, Int32.reduceSub, reduceCtorEq, true_or, or_true, or_false, false_or, ne_eq, Nat.zero_le, Option.toList, List.cons_append, List.nil_append]
      exact e1
    by_cases c_17 : y = 17
    · rw [show a_tgt y [(0, 128), (1, 153), (2, 166), (3, 179), (4, 192), (5, 205), (6, 264), (7, 287), (8, 310), (9, 347), (10, 380), (11, 393), (12, 406), (13, 429), (14, 452), (15, 485), (16, 528), (17, 551), (18, 564), (19, 587)] 610 = 551 from by rw [c_17]; decide]
      obtain ⟨a, g1, g2, r1, r2, i2, ag, -⟩ := cal_one (h := h) (k_value (xs := xs) (L := L) (d := d) (i := j)) hI
      obtain ⟨v, rfl⟩ := rn_int (by decide) r1
      obtain ⟨hf, e1, e2⟩ := nx g2 i2
      refine ⟨hf, ?_, e2⟩
      unfold lwS at e1 ⊢
      simp only [e_130_551, e_130_552, true_and, and_true, and_self, false_and, and_false, if_true, if_false, ↓reduceIte, Nat.add_eq_left, Nat.left_eq_add, Nat.add_left_cancel_iff, not_false_eq_true, not_true_eq_false, i_pc, List.cons_append, List.nil_append, List.length_cons, List.length_nil, Nat.reduceEqDiff, Nat.reduceAdd, Nat.reduceMul, Nat.reduceSub, Nat.reduceLeDiff, Nat.reduceLT, Int32.reduceLT, Int32.reduceLE, Int32.reduceAdd, Int32.reduceSub, reduceCtorEq, true_or, or_true, or_false, false_or, ne_eq, Nat.zero_le, k3]
      refine ⟨_, r1, ?_⟩
      simp only [e_130_555, e_130_556, true_and, and_true, and_self, false_and, and_false, if_true, if_false, ↓reduceIte, Nat.add_eq_left, Nat.left_eq_add, Nat.add_left_cancel_iff, not_false_eq_true, not_true_eq_false, i_pc, List.cons_append, List.nil_append, List.length_cons, List.length_nil, Nat.reduceEqDiff, Nat.reduceAdd, Nat.reduceMul, Nat.reduceSub, Nat.reduceLeDiff, Nat.reduceLT, Int32.reduceLT, Int32.reduceLE, Int32.reduceAdd, Int32.reduceSub, reduceCtorEq, true_or, or_true, or_false, false_or, ne_eq, Nat.zero_le, Option.toList, List.cons_append, List.nil_append, k9 g1 ag]
      refine ⟨_, r2, ?_⟩
      simp only [e_130_559, true_and, and_true, and_self, false_and, and_false, if_true, if_false, ↓reduceIte, Nat.add_eq_left, Nat.left_eq_add, Nat.add_left_cancel_iff, not_false_eq_true, not_true_eq_false, i_pc, List.cons_append, List.nil_append, List.length_cons, List.length_nil, Nat.reduceEqDiff, Nat.reduceAdd, Nat.reduceMul, Nat.reduceSub, Nat.reduceLeDiff, Nat.reduceLT, Int32.reduceLT, Int32.reduceLE, Int32.reduceAdd, Int32.reduceSub, reduceCtorEq, true_or, or_true, or_false, false_or, ne_eq, Nat.zero_le, Option.toList, List.cons_append, List.nil_append]
      exact e1
    by_cases c_18 : y = 18
    · rw [show a_tgt y [(0, 128), (1, 153), (2, 166), (3, 179), (4, 192), (5, 205), (6, 264), (7, 287), (8, 310), (9, 347), (10, 380), (11, 393), (12, 406), (13, 429), (14, 452), (15, 485), (16, 528), (17, 551), (18, 564), (19, 587)] 610 = 564 from by rw [c_18]; decide]
      obtain ⟨a, g1, g2, r1, r2, i2, ag, -⟩ := cal_one (h := h) (k_output (xs := xs) (L := L) (d := d) (i := j) (v := xs (nI (4 * j) + 1).toNatClampNeg) (by omega)) hI
      obtain ⟨v, rfl⟩ := rn_int (by decide) r1
      obtain ⟨hf, e1, e2⟩ := nx g2 i2
      refine ⟨hf, ?_, e2⟩
      unfold lwS at e1 ⊢
      simp only [e_130_564, e_130_565, e_130_566, e_130_567, e_130_568, e_130_569, e_130_570, true_and, and_true, and_self, false_and, and_false, if_true, if_false, ↓reduceIte, Nat.add_eq_left, Nat.left_eq_add, Nat.add_left_cancel_iff, not_false_eq_true, not_true_eq_false, i_pc, List.cons_append, List.nil_append, List.length_cons, List.length_nil, Nat.reduceEqDiff, Nat.reduceAdd, Nat.reduceMul, Nat.reduceSub, Nat.reduceLeDiff, Nat.reduceLT, Int32.reduceLT, Int32.reduceLE, Int32.reduceAdd, Int32.reduceSub, reduceCtorEq, true_or, or_true, or_false, false_or, ne_eq, Nat.zero_le, k3, z1]
      refine ⟨_, r1, ?_⟩
      simp only [e_130_573, e_130_574, e_130_575, e_130_576, e_130_577, e_130_578, e_130_579, true_and, and_true, and_self, false_and, and_false, if_true, if_false, ↓reduceIte, Nat.add_eq_left, Nat.left_eq_add, Nat.add_left_cancel_iff, not_false_eq_true, not_true_eq_false, i_pc, List.cons_append, List.nil_append, List.length_cons, List.length_nil, Nat.reduceEqDiff, Nat.reduceAdd, Nat.reduceMul, Nat.reduceSub, Nat.reduceLeDiff, Nat.reduceLT, Int32.reduceLT, Int32.reduceLE, Int32.reduceAdd, Int32.reduceSub, reduceCtorEq, true_or, or_true, or_false, false_or, ne_eq, Nat.zero_le, Option.toList, List.cons_append, List.nil_append, k9 g1 ag, z1]
      refine ⟨_, r2, ?_⟩
      simp only [e_130_582, true_and, and_true, and_self, false_and, and_false, if_true, if_false, ↓reduceIte, Nat.add_eq_left, Nat.left_eq_add, Nat.add_left_cancel_iff, not_false_eq_true, not_true_eq_false, i_pc, List.cons_append, List.nil_append, List.length_cons, List.length_nil, Nat.reduceEqDiff, Nat.reduceAdd, Nat.reduceMul, Nat.reduceSub, Nat.reduceLeDiff, Nat.reduceLT, Int32.reduceLT, Int32.reduceLE, Int32.reduceAdd, Int32.reduceSub, reduceCtorEq, true_or, or_true, or_false, false_or, ne_eq, Nat.zero_le, Option.toList, List.cons_append, List.nil_append]
      exact e1
    by_cases c_19 : y = 19
    · rw [show a_tgt y [(0, 128), (1, 153), (2, 166), (3, 179), (4, 192), (5, 205), (6, 264), (7, 287), (8, 310), (9, 347), (10, 380), (11, 393), (12, 406), (13, 429), (14, 452), (15, 485), (16, 528), (17, 551), (18, 564), (19, 587)] 610 = 587 from by rw [c_19]; decide]
      obtain ⟨a, g1, g2, r1, r2, i2, ag, -⟩ := cal_one (h := h) (k_note (xs := xs) (L := L) (d := d) (i := j) (v := xs (nI (4 * j) + 1).toNatClampNeg) (by omega)) hI
      obtain ⟨v, rfl⟩ := rn_int (by decide) r1
      obtain ⟨hf, e1, e2⟩ := nx g2 i2
      refine ⟨hf, ?_, e2⟩
      unfold lwS at e1 ⊢
      simp only [e_130_587, e_130_588, e_130_589, e_130_590, e_130_591, e_130_592, e_130_593, true_and, and_true, and_self, false_and, and_false, if_true, if_false, ↓reduceIte, Nat.add_eq_left, Nat.left_eq_add, Nat.add_left_cancel_iff, not_false_eq_true, not_true_eq_false, i_pc, List.cons_append, List.nil_append, List.length_cons, List.length_nil, Nat.reduceEqDiff, Nat.reduceAdd, Nat.reduceMul, Nat.reduceSub, Nat.reduceLeDiff, Nat.reduceLT, Int32.reduceLT, Int32.reduceLE, Int32.reduceAdd, Int32.reduceSub, reduceCtorEq, true_or, or_true, or_false, false_or, ne_eq, Nat.zero_le, k3, z1]
      refine ⟨_, r1, ?_⟩
      simp only [e_130_596, e_130_597, e_130_598, e_130_599, e_130_600, e_130_601, e_130_602, true_and, and_true, and_self, false_and, and_false, if_true, if_false, ↓reduceIte, Nat.add_eq_left, Nat.left_eq_add, Nat.add_left_cancel_iff, not_false_eq_true, not_true_eq_false, i_pc, List.cons_append, List.nil_append, List.length_cons, List.length_nil, Nat.reduceEqDiff, Nat.reduceAdd, Nat.reduceMul, Nat.reduceSub, Nat.reduceLeDiff, Nat.reduceLT, Int32.reduceLT, Int32.reduceLE, Int32.reduceAdd, Int32.reduceSub, reduceCtorEq, true_or, or_true, or_false, false_or, ne_eq, Nat.zero_le, Option.toList, List.cons_append, List.nil_append, k9 g1 ag, z1]
      refine ⟨_, r2, ?_⟩
      simp only [e_130_605, true_and, and_true, and_self, false_and, and_false, if_true, if_false, ↓reduceIte, Nat.add_eq_left, Nat.left_eq_add, Nat.add_left_cancel_iff, not_false_eq_true, not_true_eq_false, i_pc, List.cons_append, List.nil_append, List.length_cons, List.length_nil, Nat.reduceEqDiff, Nat.reduceAdd, Nat.reduceMul, Nat.reduceSub, Nat.reduceLeDiff, Nat.reduceLT, Int32.reduceLT, Int32.reduceLE, Int32.reduceAdd, Int32.reduceSub, reduceCtorEq, true_or, or_true, or_false, false_or, ne_eq, Nat.zero_le, Option.toList, List.cons_append, List.nil_append]
      exact e1
    obtain ⟨hf, e1, e2⟩ := nx h (inv_up hI)
    refine ⟨hf, ?_, e2⟩
    simp only [a_tgt, c_0, c_1, c_2, c_3, c_4, c_5, c_6, c_7, c_8, c_9, c_10, c_11, c_12, c_13, c_14, c_15, c_16, c_17, c_18, c_19, if_false]
    exact e1
end LW1

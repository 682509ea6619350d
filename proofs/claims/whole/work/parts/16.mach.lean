-- CONTRACTS of the class's machine: stack, rows of the latest values, frames
/-- the machine whose object is μ: its frames, values, output -/
def MI (μ : Nat) (h : Hp) : Prop := hK h μ = 3 ∧ hR h μ 0 = some (μ + 1) ∧ hR h μ 1 = some (μ + 14) ∧ hR h μ 2 = some (μ + 15) ∧ hK h (μ + 1) = 23 ∧ hL h (μ + 1) = 6 ∧ hK h (μ + 14) = 20 ∧ hL h (μ + 14) = 120 ∧ hK h (μ + 15) = 5 ∧ hR h (μ + 15) 0 = some (μ + 16) ∧ hK h (μ + 16) = 20 ∧ hL h (μ + 16) = 16 ∧
  ∀ i, i < 6 → hR h (μ + 1) i = some (μ + (2 + 2 * i)) ∧ hK h (μ + (2 + 2 * i)) = 2 ∧ hR h (μ + (2 + 2 * i)) 0 = some (μ + (3 + 2 * i)) ∧ hK h (μ + (3 + 2 * i)) = 20 ∧ hL h (μ + (3 + 2 * i)) = 6
theorem MI_sI {μ o k : Nat} {v : Int32} {h : Hp} : MI μ (sI h o k v) ↔ MI μ h := Iff.rfl
theorem MI_sA {μ o : Nat} {f : Nat → Int32} {h : Hp} : MI μ (sA h o f) ↔ MI μ h := Iff.rfl
theorem nI_cl {n : Nat} (h : n < 2 ^ 31) : (nI n).toNatClampNeg = n := nI_clamp h
section MA
variable {xs : Nat → Int32} {L d : Nat} {h : Hp} {res : Res} {μ n : Nat} {v : Int32}
theorem r_push (hM : MI μ h) (hn : hI h μ 7 = nI n) (hb : n < 120) : Rn xs L (d + 1) 18 [.inr (some μ), .inl v] h (none, sI (sI h (μ + 14) n v) μ 7 (nI (n + 1))) := by
  obtain ⟨m0, -, m1, -, -, -, m2, m3, -⟩ := hM
  rw [i_rn]
  show X xs L d 18 (0, [some (.inr (some μ)), some (.inl v)], [], h) _
  have h1 : ¬ (120 : Int32) ≤ nI n := nI_ge hb (by decide)
  have h2 : vp_in (nI n) 120 := vp_in_nI hb (by decide)
  simp only [e_18_0, e_18_1, e_18_4, e_18_6, e_18_9, e_18_10, e_18_13, e_18_14, e_18_17, e_18_18, e_18_19, e_18_20, e_18_21, e_18_24, e_18_25, e_18_26, e_18_29, hK_sI, hL_sI, hR_sI, hI_sI, hN_sI, hU_sI, hK_sR, hL_sR, hI_sR, hR_sR, hN_sR, hU_sR, hK_sA, hL_sA, hR_sA, hI_sA, hN_sA, hU_sA, true_and, and_true, and_self, false_and, and_false, if_true, if_false, ↓reduceIte, Nat.add_eq_left, Nat.left_eq_add, Nat.add_left_cancel_iff, not_false_eq_true, not_true_eq_false, i_pc, List.cons_append, List.nil_append, List.length_cons, List.length_nil, Nat.reduceEqDiff, Nat.reduceAdd, Nat.reduceMul, Nat.reduceSub, Nat.reduceLeDiff, Nat.reduceLT, Int32.reduceLT, Int32.reduceLE, Int32.reduceAdd, Int32.reduceSub, reduceCtorEq, true_or, or_true, or_false, false_or, ne_eq, Nat.zero_le, m0, m1, m2, m3, hn, h1, h2, nI_cl (show n < 2 ^ 31 by omega)]
  rw [nI_1]
theorem r_pop (hM : MI μ h) (hn : hI h μ 7 = nI (n + 1)) (hb : n < 120) : Rn xs L (d + 1) 19 [.inr (some μ)] h (some (.inl (hI h (μ + 14) n)), sI h μ 7 (nI n)) := by
  obtain ⟨m0, -, m1, -, -, -, m2, m3, -⟩ := hM
  rw [i_rn]
  show X xs L d 19 (0, [some (.inr (some μ))], [], h) _
  have h1 : (0 : Int32) < nI (n + 1) := nI_lt (a := 0) (by omega) (by omega)
  have h2 : vp_in (nI n) 120 := vp_in_nI hb (by decide)
  simp only [e_19_0, e_19_1, e_19_4, e_19_7, e_19_8, e_19_9, e_19_10, e_19_11, e_19_14, e_19_15, e_19_16, e_19_19, e_19_20, e_19_23, e_19_24, e_19_27, e_19_28, hK_sI, hL_sI, hR_sI, hI_sI, hN_sI, hU_sI, hK_sR, hL_sR, hI_sR, hR_sR, hN_sR, hU_sR, hK_sA, hL_sA, hR_sA, hI_sA, hN_sA, hU_sA, true_and, and_true, and_self, false_and, and_false, if_true, if_false, ↓reduceIte, Nat.add_eq_left, Nat.left_eq_add, Nat.add_left_cancel_iff, not_false_eq_true, not_true_eq_false, i_pc, List.cons_append, List.nil_append, List.length_cons, List.length_nil, Nat.reduceEqDiff, Nat.reduceAdd, Nat.reduceMul, Nat.reduceSub, Nat.reduceLeDiff, Nat.reduceLT, Int32.reduceLT, Int32.reduceLE, Int32.reduceAdd, Int32.reduceSub, reduceCtorEq, true_or, or_true, or_false, false_or, ne_eq, Nat.zero_le, m0, m1, m2, m3, hn, h1, h2, nI_pred, nI_cl (show n < 2 ^ 31 by omega)]
/-- Tail.clear, add, before -/
theorem r_tclear {τ : Nat} (hk : hK h τ = 5) : Rn xs L (d + 1) 23 [.inr (some τ)] h (none, sI h τ 1 0) := by
  rw [i_rn]
  show X xs L d 23 (0, [some (.inr (some τ))], [], h) _
  simp only [e_23_0, e_23_1, e_23_2, e_23_5, hK_sI, hL_sI, hR_sI, hI_sI, hN_sI, hU_sI, hK_sR, hL_sR, hI_sR, hR_sR, hN_sR, hU_sR, hK_sA, hL_sA, hR_sA, hI_sA, hN_sA, hU_sA, true_and, and_true, and_self, false_and, and_false, if_true, if_false, ↓reduceIte, Nat.add_eq_left, Nat.left_eq_add, Nat.add_left_cancel_iff, not_false_eq_true, not_true_eq_false, i_pc, List.cons_append, List.nil_append, List.length_cons, List.length_nil, Nat.reduceEqDiff, Nat.reduceAdd, Nat.reduceMul, Nat.reduceSub, Nat.reduceLeDiff, Nat.reduceLT, Int32.reduceLT, Int32.reduceLE, Int32.reduceAdd, Int32.reduceSub, reduceCtorEq, true_or, or_true, or_false, false_or, ne_eq, Nat.zero_le, hk]
theorem r_tadd {τ : Nat} (hk : hK h τ = 5) (hr : hR h τ 0 = some (τ + 1)) (hk2 : hK h (τ + 1) = 20) (hl : hL h (τ + 1) = 16) (hn : hI h τ 1 = nI n) (hb : n < 2 ^ 31) : Rn xs L (d + 1) 22 [.inr (some τ), .inl v] h (none, sI (sI h (τ + 1) (n % 16) v) τ 1 (nI (n + 1))) := by
  rw [i_rn]
  show X xs L d 22 (0, [some (.inr (some τ)), some (.inl v)], [], h) _
  have h1 : nI n &&& 15 = nI (n % 16) := pk_andN (by omega) 4 (by decide)
  have h0 : n % 16 < 16 := Nat.mod_lt _ (by decide)
  have h2 : vp_in (nI (n % 16)) 16 := vp_in_nI h0 (by decide)
  simp only [e_22_0, e_22_1, e_22_4, e_22_5, e_22_8, e_22_10, e_22_11, e_22_12, e_22_13, e_22_14, e_22_15, e_22_18, e_22_19, e_22_20, e_22_23, hK_sI, hL_sI, hR_sI, hI_sI, hN_sI, hU_sI, hK_sR, hL_sR, hI_sR, hR_sR, hN_sR, hU_sR, hK_sA, hL_sA, hR_sA, hI_sA, hN_sA, hU_sA, true_and, and_true, and_self, false_and, and_false, if_true, if_false, ↓reduceIte, Nat.add_eq_left, Nat.left_eq_add, Nat.add_left_cancel_iff, not_false_eq_true, not_true_eq_false, i_pc, List.cons_append, List.nil_append, List.length_cons, List.length_nil, Nat.reduceEqDiff, Nat.reduceAdd, Nat.reduceMul, Nat.reduceSub, Nat.reduceLeDiff, Nat.reduceLT, Int32.reduceLT, Int32.reduceLE, Int32.reduceAdd, Int32.reduceSub, reduceCtorEq, true_or, or_true, or_false, false_or, ne_eq, Nat.zero_le, hk, hr, hk2, hl, hn, h1, h2, nI_cl (show n % 16 < 2 ^ 31 by omega)]
  rw [nI_1]
theorem r_tbefore {τ : Nat} (hk : hK h τ = 5) (hr : hR h τ 0 = some (τ + 1)) (hk2 : hK h (τ + 1) = 20) (hl : hL h (τ + 1) = 16) (hn : hI h τ 1 = nI n) (hb : n < 2 ^ 31) : Rn xs L (d + 1) 24 [.inr (some τ), .inl v] h (some (.inl (if v = -1 then nI n else if v < 0 then 0 else if 16 ≤ v then 0 else if v < nI n then hI h (τ + 1) ((n - 1 - v.toNatClampNeg) % 16) else 0)), h) := by
  rw [i_rn]
  show X xs L d 24 (0, [some (.inr (some τ)), some (.inl v)], [], h) _
  simp only [e_24_0, e_24_1, e_24_2, e_24_5, e_24_6, e_24_9, e_24_10, e_24_11, e_24_14, e_24_15, e_24_17, e_24_20, e_24_21, e_24_22, e_24_25, e_24_28, e_24_29, e_24_30, e_24_31, e_24_34, e_24_35, e_24_38, e_24_39, e_24_40, e_24_41, e_24_42, e_24_44, e_24_45, e_24_46, hK_sI, hL_sI, hR_sI, hI_sI, hN_sI, hU_sI, hK_sR, hL_sR, hI_sR, hR_sR, hN_sR, hU_sR, hK_sA, hL_sA, hR_sA, hI_sA, hN_sA, hU_sA, true_and, and_true, and_self, false_and, and_false, if_true, if_false, ↓reduceIte, Nat.add_eq_left, Nat.left_eq_add, Nat.add_left_cancel_iff, not_false_eq_true, not_true_eq_false, i_pc, List.cons_append, List.nil_append, List.length_cons, List.length_nil, Nat.reduceEqDiff, Nat.reduceAdd, Nat.reduceMul, Nat.reduceSub, Nat.reduceLeDiff, Nat.reduceLT, Int32.reduceLT, Int32.reduceLE, Int32.reduceAdd, Int32.reduceSub, reduceCtorEq, true_or, or_true, or_false, false_or, ne_eq, Nat.zero_le, hk, hr, hk2, hl, hn]
  split
  · rfl
  · split
    · rfl
    · split
      · rfl
      · split
        · next h1 h2 h3 h4 =>
          obtain ⟨j, hj, rfl⟩ := nI_of h2
          have h5 := (nI_ltI hj hb).mp h4
          have e1 : nI n - 1 - nI j = nI (n - 1 - j) := by
            rw [show nI n - 1 = nI (n - 1) from (pk_sub (a := n) (b := 1) (by omega)), pk_sub (by omega)]
          have e2 : nI (n - 1 - j) &&& 15 = nI ((n - 1 - j) % 16) := pk_andN (by omega) 4 (by decide)
          have h0 : (n - 1 - j) % 16 < 16 := Nat.mod_lt _ (by decide)
          rw [e1, e2, nI_cl hj, nI_cl (show (n - 1 - j) % 16 < 2 ^ 31 by omega)]
          exact ⟨vp_in_nI h0 (by decide), rfl⟩
        · rfl
/-- Frame.read, assign, fetch -/
theorem r_fread {φ : Nat} (hk : hK h φ = 2) (hr : hR h φ 0 = some (φ + 1)) (hk2 : hK h (φ + 1) = 20) (hl : hL h (φ + 1) = 6) : Rn xs L (d + 1) 4 [.inr (some φ), .inl v] h (some (.inl (if v < 0 then 0 else if 6 ≤ v then 0 else hI h (φ + 1) v.toNatClampNeg)), h) := by
  rw [i_rn]
  show X xs L d 4 (0, [some (.inr (some φ)), some (.inl v)], [], h) _
  simp only [e_4_0, e_4_1, e_4_4, e_4_5, e_4_7, e_4_10, e_4_11, e_4_14, e_4_15, e_4_16, e_4_19, e_4_20, hK_sI, hL_sI, hR_sI, hI_sI, hN_sI, hU_sI, hK_sR, hL_sR, hI_sR, hR_sR, hN_sR, hU_sR, hK_sA, hL_sA, hR_sA, hI_sA, hN_sA, hU_sA, true_and, and_true, and_self, false_and, and_false, if_true, if_false, ↓reduceIte, Nat.add_eq_left, Nat.left_eq_add, Nat.add_left_cancel_iff, not_false_eq_true, not_true_eq_false, i_pc, List.cons_append, List.nil_append, List.length_cons, List.length_nil, Nat.reduceEqDiff, Nat.reduceAdd, Nat.reduceMul, Nat.reduceSub, Nat.reduceLeDiff, Nat.reduceLT, Int32.reduceLT, Int32.reduceLE, Int32.reduceAdd, Int32.reduceSub, reduceCtorEq, true_or, or_true, or_false, false_or, ne_eq, Nat.zero_le, hk, hr, hk2, hl]
  split
  · rfl
  · next h1 =>
    by_cases h2 : (6 : Int32) ≤ v
    · simp only [h2, if_true]
    · simp only [h2, if_false]
      obtain ⟨j, hj, rfl⟩ := nI_of h1
      have h3 : j < 6 := by
        rcases Nat.lt_or_ge j 6 with h4 | h4
        · exact h4
        · exact absurd (nI_le (a := 6) h4 hj) h2
      exact ⟨vp_in_nI h3 (by decide), trivial⟩
theorem r_fassign {φ : Nat} {w : Int32} (hk : hK h φ = 2) (hr : hR h φ 0 = some (φ + 1)) (hk2 : hK h (φ + 1) = 20) (hl : hL h (φ + 1) = 6) : Rn xs L (d + 1) 5 [.inr (some φ), .inl v, .inl w] h (if v < 0 then (some (.inl 0), h) else if 6 ≤ v then (some (.inl 0), h) else (some (.inl 1), sI h (φ + 1) v.toNatClampNeg w)) := by
  rw [i_rn]
  show X xs L d 5 (0, [some (.inr (some φ)), some (.inl v), some (.inl w)], [], h) _
  by_cases h1 : v < 0
  · simp only [e_5_0, e_5_1, e_5_4, e_5_5, e_5_7, e_5_10, e_5_11, e_5_12, e_5_13, e_5_16, e_5_17, e_5_18, e_5_19, e_5_20, hK_sI, hL_sI, hR_sI, hI_sI, hN_sI, hU_sI, hK_sR, hL_sR, hI_sR, hR_sR, hN_sR, hU_sR, hK_sA, hL_sA, hR_sA, hI_sA, hN_sA, hU_sA, true_and, and_true, and_self, false_and, and_false, if_true, if_false, ↓reduceIte, Nat.add_eq_left, Nat.left_eq_add, Nat.add_left_cancel_iff, not_false_eq_true, not_true_eq_false, i_pc, List.cons_append, List.nil_append, List.length_cons, List.length_nil, Nat.reduceEqDiff, Nat.reduceAdd, Nat.reduceMul, Nat.reduceSub, Nat.reduceLeDiff, Nat.reduceLT, Int32.reduceLT, Int32.reduceLE, Int32.reduceAdd, Int32.reduceSub, reduceCtorEq, true_or, or_true, or_false, false_or, ne_eq, Nat.zero_le, hk, hr, hk2, hl, h1]
  · by_cases h2 : (6 : Int32) ≤ v
    · have h4 : ¬ v < 6 := fun q => absurd h2 (Int32.not_le.mpr q)
      simp only [e_5_0, e_5_1, e_5_4, e_5_5, e_5_7, e_5_10, e_5_11, e_5_12, e_5_13, e_5_16, e_5_17, e_5_18, e_5_19, e_5_20, hK_sI, hL_sI, hR_sI, hI_sI, hN_sI, hU_sI, hK_sR, hL_sR, hI_sR, hR_sR, hN_sR, hU_sR, hK_sA, hL_sA, hR_sA, hI_sA, hN_sA, hU_sA, true_and, and_true, and_self, false_and, and_false, if_true, if_false, ↓reduceIte, Nat.add_eq_left, Nat.left_eq_add, Nat.add_left_cancel_iff, not_false_eq_true, not_true_eq_false, i_pc, List.cons_append, List.nil_append, List.length_cons, List.length_nil, Nat.reduceEqDiff, Nat.reduceAdd, Nat.reduceMul, Nat.reduceSub, Nat.reduceLeDiff, Nat.reduceLT, Int32.reduceLT, Int32.reduceLE, Int32.reduceAdd, Int32.reduceSub, reduceCtorEq, true_or, or_true, or_false, false_or, ne_eq, Nat.zero_le, hk, hr, hk2, hl, h1, h2, h4]
    · have h4 : v < 6 := Int32.not_le.mp h2
      obtain ⟨j, hj, rfl⟩ := nI_of h1
      have h3 : vp_in (nI j) 6 := vp_in_nI ((nI_ltI hj (b := 6) (by decide)).mp h4) (by decide)
      simp only [e_5_0, e_5_1, e_5_4, e_5_5, e_5_7, e_5_10, e_5_11, e_5_12, e_5_13, e_5_16, e_5_17, e_5_18, e_5_19, e_5_20, hK_sI, hL_sI, hR_sI, hI_sI, hN_sI, hU_sI, hK_sR, hL_sR, hI_sR, hR_sR, hN_sR, hU_sR, hK_sA, hL_sA, hR_sA, hI_sA, hN_sA, hU_sA, true_and, and_true, and_self, false_and, and_false, if_true, if_false, ↓reduceIte, Nat.add_eq_left, Nat.left_eq_add, Nat.add_left_cancel_iff, not_false_eq_true, not_true_eq_false, i_pc, List.cons_append, List.nil_append, List.length_cons, List.length_nil, Nat.reduceEqDiff, Nat.reduceAdd, Nat.reduceMul, Nat.reduceSub, Nat.reduceLeDiff, Nat.reduceLT, Int32.reduceLT, Int32.reduceLE, Int32.reduceAdd, Int32.reduceSub, reduceCtorEq, true_or, or_true, or_false, false_or, ne_eq, Nat.zero_le, hk, hr, hk2, hl, h1, h2, h3, h4]
theorem r_fetch {φ c ia p sz : Nat} (hk : hK h φ = 2) (hr : hR h φ 1 = some c) (hkc : hK h c = 1) (hrc : hR h c 0 = some ia) (hki : hK h ia = 20) (hli : hL h ia = sz) (hs : hI h c 2 = nI sz) (hp : hI h φ 2 = nI p) (hb : p < sz) (hz : sz < 2 ^ 31) : Rn xs L (d + 1) 3 [.inr (some φ)] h (some (.inl (hI h ia p)), sI h φ 2 (nI (p + 1))) := by
  rw [i_rn]
  show X xs L d 3 (0, [some (.inr (some φ)), none], [], h) _
  have h1 : ¬ nI p < 0 := nI_pos (by omega)
  have h2 : ¬ nI sz ≤ nI p := nI_ge hb hz
  have h3 : vp_in (nI p) sz := vp_in_nI hb hz
  simp only [e_3_0, e_3_1, e_3_4, e_3_7, e_3_8, e_3_11, e_3_12, e_3_15, e_3_18, e_3_21, e_3_22, e_3_25, e_3_28, e_3_29, e_3_32, e_3_33, e_3_36, e_3_37, e_3_38, e_3_39, e_3_40, e_3_43, e_3_44, e_3_45, e_3_48, e_3_49, hK_sI, hL_sI, hR_sI, hI_sI, hN_sI, hU_sI, hK_sR, hL_sR, hI_sR, hR_sR, hN_sR, hU_sR, hK_sA, hL_sA, hR_sA, hI_sA, hN_sA, hU_sA, true_and, and_true, and_self, false_and, and_false, if_true, if_false, ↓reduceIte, Nat.add_eq_left, Nat.left_eq_add, Nat.add_left_cancel_iff, not_false_eq_true, not_true_eq_false, i_pc, List.cons_append, List.nil_append, List.length_cons, List.length_nil, Nat.reduceEqDiff, Nat.reduceAdd, Nat.reduceMul, Nat.reduceSub, Nat.reduceLeDiff, Nat.reduceLT, Int32.reduceLT, Int32.reduceLE, Int32.reduceAdd, Int32.reduceSub, reduceCtorEq, true_or, or_true, or_false, false_or, ne_eq, Nat.zero_le, hk, hr, hkc, hrc, hki, hli, hs, hp, h1, h2, h3, nI_cl (show p < 2 ^ 31 by omega)]
  rw [nI_1]
end MA

-- CONSTRUCTORS of the class: the whole desk
section CD
variable {xs : Nat → Int32} {L d : Nat} {h g h0 : Hp} {res : Res} {μ o : Nat}
/-- objects from 4 to N are as they were; 3 is but for its field f -/
def Kp (N f : Nat) (h g : Hp) : Prop := (∀ o, 4 ≤ o → o < N → hK g o = hK h o ∧ hL g o = hL h o ∧ ∀ k, hR g o k = hR h o k) ∧ hK g 3 = hK h 3 ∧ ∀ k, ¬ k = f → hR g 3 k = hR h 3 k
theorem kp_tsh {N : Nat} (hN12 : 12 ≤ N) (hs : ∀ o, 4 ≤ o → o < N → hK g o = hK h o ∧ hL g o = hL h o ∧ ∀ k, hR g o k = hR h o k) (hT : TSh h) : TSh g := by
  obtain ⟨⟨a1, a2, a3, a4, a5, a6⟩, ⟨b1, b2, b3, b4, b5, b6⟩, ⟨c1, c2, c3, c4, c5, c6⟩, d1, d2⟩ := hT
  have kK := fun o h1 h2 => (hs o h1 h2).1
  have kL := fun o h1 h2 => (hs o h1 h2).2.1
  have kR := fun o h1 h2 => (hs o h1 h2).2.2
  exact ⟨⟨by rw [kK _ (by omega) (by omega)]; exact a1, by rw [kR _ (by omega) (by omega)]; exact a2, by rw [kR _ (by omega) (by omega)]; exact a3, by rw [kR _ (by omega) (by omega)]; exact a4, by rw [kR _ (by omega) (by omega)]; exact a5, by rw [kR _ (by omega) (by omega)]; exact a6⟩, ⟨by rw [kK _ (by omega) (by omega)]; exact b1, by rw [kK _ (by omega) (by omega)]; exact b2, by rw [kK _ (by omega) (by omega)]; exact b3, by rw [kK _ (by omega) (by omega)]; exact b4, by rw [kK _ (by omega) (by omega)]; exact b5, by rw [kK _ (by omega) (by omega)]; exact b6⟩, ⟨by rw [kL _ (by omega) (by omega)]; exact c1, by rw [kL _ (by omega) (by omega)]; exact c2, by rw [kL _ (by omega) (by omega)]; exact c3, by rw [kL _ (by omega) (by omega)]; exact c4, by rw [kL _ (by omega) (by omega)]; exact c5, by rw [kL _ (by omega) (by omega)]; exact c6⟩, by rw [kK _ (by omega) (by omega)]; exact d1, by rw [kR _ (by omega) (by omega)]; exact d2⟩
/-- a Machine is made at N and kept in field f of the desk -/
theorem mach_stage {N f : Nat} (hN4 : 4 ≤ N) (hn : hN h = N) (hz : Zr h) : ∃ g, Rn xs L (d + 2) 6 [.inr (some N)] (nw h 3 0 10) (none, g) ∧ MI N (sR g 3 f (some N)) ∧ hN (sR g 3 f (some N)) = N + 17 ∧ hU (sR g 3 f (some N)) = hU h + 226 ∧ Zr (sR g 3 f (some N)) ∧ Kp N f h (sR g 3 f (some N)) ∧ hR (sR g 3 f (some N)) 3 f = some N ∧ hK g 3 = hK h 3 ∧ hR (sR g 3 f (some N)) N 3 = none := by
  obtain ⟨g, c1, c2, c3, c4, c5, c6, c7⟩ := c_mach (xs := xs) (L := L) (d := d) (h := nw h 3 0 10) (μ := N) (by rw [hK_nw, hn, if_pos rfl]) (by rw [hN_nw, hn]) (zr_nw hz) (by rw [hR_nw, hn, if_pos rfl])
  have hsm : ∀ o, o < N → hK g o = hK h o ∧ hL g o = hL h o ∧ ∀ k, hR g o k = hR h o k := fun o ho => by
    obtain ⟨s1, s2, s3, s4⟩ := c6 o ho
    refine ⟨by rw [s1, hK_nw, hn, if_neg (by omega)], by rw [s2, hL_nw, hn, if_neg (by omega)], fun k => by rw [s4, hR_nw, hn, if_neg (by omega)]⟩
  refine ⟨g, c1, mi_same (h := g) (fun o h1 h2 => ⟨rfl, rfl, fun k => by rw [hR_sR, if_neg (by omega)]⟩) c2, c3, by rw [hU_sR, c4, hU_nw], zr_sR c5, ⟨fun o h1 h2 => ?_, ?_, fun k hk => ?_⟩, by rw [hR_sR, if_pos ⟨rfl, rfl⟩], (hsm 3 (by omega)).1, by rw [hR_sR, if_neg (by omega)]; exact c7⟩
  · obtain ⟨s1, s2, s3⟩ := hsm o h2
    exact ⟨s1, s2, fun k => by rw [hR_sR, if_neg (by omega)]; exact s3 k⟩
  · exact (hsm 3 (by omega)).1
  · rw [hR_sR, if_neg (fun z => hk z.2)]
    exact (hsm 3 (by omega)).2.2 k
theorem c_desk (hk : hK h 3 = 8) (hn : hN h = 4) (h3 : ∀ k, hR h 3 k = none) (hz : Zr h) : ∃ g, Rn xs L (d + 3) 50 [.inr (some 3)] h (none, g) ∧ DK g ∧ MI 12 g ∧ MI 29 g ∧ TSh g ∧ hN g = 49 ∧ hU g = hU h + 986 ∧ Zr g ∧ hR g 3 6 = none ∧ hR g 12 3 = none ∧ ∀ l, hR g 48 l = none := by
  obtain ⟨a1, a2, a3, a4, a5⟩ := a_stage hk hn h3
  have aZ : Zr (hA1 h) := zr_sR (zr_sR (zr_nw (zr_nw hz)))
  obtain ⟨b1, b2, b3, b4, b5⟩ := b_stage (h := hA1 h) a1
  have bZ : Zr (hB1 (hA1 h)) := zr_sR (zr_sR (zr_nw (zr_sR (zr_nw (zr_sR (zr_nw (zr_sR (zr_nw (zr_sR (zr_nw (zr_nw aZ)))))))))))
  have bT : TSh (hB1 (hA1 h)) := by
    refine ⟨⟨?_, ?_, ?_, ?_, ?_, ?_⟩, ⟨?_, ?_, ?_, ?_, ?_, ?_⟩, ⟨?_, ?_, ?_, ?_, ?_, ?_⟩, ?_, ?_⟩ <;> first | (rw [b3]; rfl) | (rw [b4]; rfl) | (rw [b5]; rfl) | (rw [b3, a3]; rfl) | (rw [b4, a4]; rfl) | (rw [b5, a5]; rfl) | (simp [b3, a3]) | (simp [b4, a4]) | (simp [b5, a5])
  obtain ⟨g1, m1, m2, m3, m4, m5, m6, m7, m8, m9⟩ := mach_stage (xs := xs) (L := L) (d := d) (f := 2) (by decide) b1 bZ
  have T1 := kp_tsh (by decide) m6.1 bT
  obtain ⟨g2, n1, n2, n3, n4, n5, n6, n7, n8, n9⟩ := mach_stage (xs := xs) (L := L) (d := d) (f := 3) (by decide) m3 m5
  have T2 := kp_tsh (by decide) n6.1 T1
  have M12 : MI 12 (sR g2 3 3 (some 29)) := mi_same (fun o h1 h2 => n6.1 o (by omega) (by omega)) m2
  have R123 : hR (sR g2 3 3 (some 29)) 12 3 = none := ((n6.1 12 (by decide) (by decide)).2.2 3).trans m9
  -- the fields of the desk so far
  have f0 : hR (sR g2 3 3 (some 29)) 3 0 = some 4 := by rw [n6.2.2 0 (by decide), m6.2.2 0 (by decide), b5, a5]; rfl
  have f1 : hR (sR g2 3 3 (some 29)) 3 1 = some 6 := by rw [n6.2.2 1 (by decide), m6.2.2 1 (by decide), b5]; rfl
  have f2 : hR (sR g2 3 3 (some 29)) 3 2 = some 12 := by rw [n6.2.2 2 (by decide)]; exact m7
  have f6 : hR (sR g2 3 3 (some 29)) 3 6 = none := by rw [n6.2.2 6 (by decide), m6.2.2 6 (by decide), b5, a5]; exact h3 6
  have k3 : hK (sR g2 3 3 (some 29)) 3 = 8 := by rw [n6.2.1, m6.2.1, b3, a3]; exact hk
  generalize hD : sR g2 3 3 (some 29) = hd at *
  have eN : hN (nw hd 5 0 2) = 47 := by rw [hN_nw, n3]
  have eK : hK (nw hd 5 0 2) 46 = 5 := by rw [hK_nw, n3, if_pos rfl]
  generalize hE : sR (sR (nw (nw hd 5 0 2) 20 16 16) 46 0 (some 47)) 3 4 (some 46) = he at *
  have heN : hN he = 48 := by rw [← hE, hN_sR, hN_sR, hN_nw, eN]
  have heK : ∀ o, hK he o = if o = 47 then 20 else if o = 46 then 5 else hK hd o := fun o => by rw [← hE, hK_sR, hK_sR, hK_nw, eN, hK_nw, n3]
  have heL : ∀ o, hL he o = if o = 47 then 16 else if o = 46 then 0 else hL hd o := fun o => by rw [← hE, hL_sR, hL_sR, hL_nw, eN, hL_nw, n3]
  have heR : ∀ o k, hR he o k = if o = 3 ∧ k = 4 then some 46 else if o = 46 ∧ k = 0 then some 47 else if o = 47 then none else if o = 46 then none else hR hd o k := fun o k => by rw [← hE, hR_sR, hR_sR, hR_nw, eN, hR_nw, n3]
  have heZ : Zr he := by rw [← hE]; exact zr_sR (zr_sR (zr_nw (zr_nw n5)))
  have heU : hU he = hU hd + 18 := by rw [← hE, hU_sR, hU_sR, hU_nw, hU_nw]
  generalize hF : sR (nw he 24 40 40) 3 5 (some 48) = hf at *
  have hfK : ∀ o, hK hf o = if o = 48 then 24 else hK he o := fun o => by rw [← hF, hK_sR, hK_nw, heN]
  have hfL : ∀ o, hL hf o = if o = 48 then 40 else hL he o := fun o => by rw [← hF, hL_sR, hL_nw, heN]
  have hfR : ∀ o k, hR hf o k = if o = 3 ∧ k = 5 then some 48 else if o = 48 then none else hR he o k := fun o k => by rw [← hF, hR_sR, hR_nw, heN]
  have kp : Kp 46 9 hd hd := ⟨fun _ _ _ => ⟨rfl, rfl, fun _ => rfl⟩, rfl, fun _ _ => rfl⟩
  have low : ∀ o, 4 ≤ o → o < 46 → hK hf o = hK hd o ∧ hL hf o = hL hd o ∧ ∀ k, hR hf o k = hR hd o k := fun o h1 h2 => by
    refine ⟨by rw [hfK, if_neg (by omega), heK, if_neg (by omega), if_neg (by omega)], by rw [hfL, if_neg (by omega), heL, if_neg (by omega), if_neg (by omega)], fun k => by rw [hfR, if_neg (by omega), if_neg (by omega), heR, if_neg (by omega), if_neg (by omega), if_neg (by omega), if_neg (by omega)]⟩
  obtain ⟨⟨t1, t2, t3, t4, t5, t6⟩, ⟨u1, u2, u3, u4, u5, u6⟩, ⟨v1, v2, v3, v4, v5, v6⟩, w1, w2⟩ := id T2
  refine ⟨hf, ?_, ⟨?_, ?_, ?_, ?_, ?_, ?_, ?_, ?_, ?_, ?_, ?_, ?_, ?_, ?_, ?_, ?_, ?_⟩, mi_same (fun o h1 h2 => low o (by omega) (by omega)) M12, mi_same (fun o h1 h2 => low o (by omega) (by omega)) n2, ?_, ?_, ?_, ?_, ?_, ?_, fun l => ?_⟩
  · rw [i_rn]
    show X xs L (d + 2) 50 (0, [some (.inr (some 3))], [], h) _
    have q1 : hK (nw h 6 0 2) 4 = 6 := by rw [hK_nw, hn, if_pos rfl]
    have q2 : hN (nw h 6 0 2) = 4 + 1 := by rw [hN_nw, hn]
    simp only [e_50_0, e_50_1, e_50_4, e_50_5, e_50_8, e_50_9, true_and, and_true, and_self, false_and, and_false, if_true, if_false, ↓reduceIte, Nat.add_eq_left, Nat.left_eq_add, Nat.add_left_cancel_iff, not_false_eq_true, not_true_eq_false, i_pc, List.cons_append, List.nil_append, List.length_cons, List.length_nil, Nat.reduceEqDiff, Nat.reduceAdd, Nat.reduceMul, Nat.reduceSub, Nat.reduceLeDiff, Nat.reduceLT, Int32.reduceLT, Int32.reduceLE, Int32.reduceAdd, Int32.reduceSub, reduceCtorEq, true_or, or_true, or_false, false_or, ne_eq, Nat.zero_le, hn, q1]
    refine ⟨_, c_text q1 q2, ?_⟩
    have q3 : hK (sR (nw (nw h 6 0 2) 21 150 150) 4 0 (some (4 + 1))) 3 = 8 := by rw [hK_sR, hK_nw, q2, if_neg (by decide), hK_nw, hn, if_neg (by decide)]; exact hk
    have q4 : hK (nw (hA1 h) 7 0 10) 6 = 7 := by rw [hK_nw, a1, if_pos rfl]
    have q5 : hN (nw (hA1 h) 7 0 10) = 6 + 1 := by rw [hN_nw, a1]
    simp only [e_50_12, e_50_15, true_and, and_true, and_self, false_and, and_false, if_true, if_false, ↓reduceIte, Nat.add_eq_left, Nat.left_eq_add, Nat.add_left_cancel_iff, not_false_eq_true, not_true_eq_false, i_pc, List.cons_append, List.nil_append, List.length_cons, List.length_nil, Nat.reduceEqDiff, Nat.reduceAdd, Nat.reduceMul, Nat.reduceSub, Nat.reduceLeDiff, Nat.reduceLT, Int32.reduceLT, Int32.reduceLE, Int32.reduceAdd, Int32.reduceSub, reduceCtorEq, true_or, or_true, or_false, false_or, ne_eq, Nat.zero_le, Option.toList, q3]
    rw [show sR (sR (nw (nw h 6 0 2) 21 150 150) 4 0 (some (4 + 1))) 3 0 (some 4) = hA1 h from rfl]
    simp only [e_50_16, e_50_19, e_50_20, true_and, and_true, and_self, false_and, and_false, if_true, if_false, ↓reduceIte, Nat.add_eq_left, Nat.left_eq_add, Nat.add_left_cancel_iff, not_false_eq_true, not_true_eq_false, i_pc, List.cons_append, List.nil_append, List.length_cons, List.length_nil, Nat.reduceEqDiff, Nat.reduceAdd, Nat.reduceMul, Nat.reduceSub, Nat.reduceLeDiff, Nat.reduceLT, Int32.reduceLT, Int32.reduceLE, Int32.reduceAdd, Int32.reduceSub, reduceCtorEq, true_or, or_true, or_false, false_or, ne_eq, Nat.zero_le, a1, q4]
    refine ⟨_, c_trans q4 q5, ?_⟩
    have q6 : hK (sR (nw (sR (nw (sR (nw (sR (nw (sR (nw (nw (hA1 h) 7 0 10) 20 151 151) 6 0 (some (6 + 1))) 20 151 151) 6 1 (some (6 + 2))) 20 4 4) 6 2 (some (6 + 3))) 20 4 4) 6 3 (some (6 + 4))) 20 4 4) 6 4 (some (6 + 5))) 3 = 8 := by
      have := b3 3
      rw [show hK (hB1 (hA1 h)) 3 = hK (sR (nw (sR (nw (sR (nw (sR (nw (sR (nw (nw (hA1 h) 7 0 10) 20 151 151) 6 0 (some (6 + 1))) 20 151 151) 6 1 (some (6 + 2))) 20 4 4) 6 2 (some (6 + 3))) 20 4 4) 6 3 (some (6 + 4))) 20 4 4) 6 4 (some (6 + 5))) 3 from rfl] at this
      rw [this, a3]
      exact hk
    simp only [e_50_23, e_50_26, true_and, and_true, and_self, false_and, and_false, if_true, if_false, ↓reduceIte, Nat.add_eq_left, Nat.left_eq_add, Nat.add_left_cancel_iff, not_false_eq_true, not_true_eq_false, i_pc, List.cons_append, List.nil_append, List.length_cons, List.length_nil, Nat.reduceEqDiff, Nat.reduceAdd, Nat.reduceMul, Nat.reduceSub, Nat.reduceLeDiff, Nat.reduceLT, Int32.reduceLT, Int32.reduceLE, Int32.reduceAdd, Int32.reduceSub, reduceCtorEq, true_or, or_true, or_false, false_or, ne_eq, Nat.zero_le, Option.toList, q6]
    rw [show sR (sR (nw (sR (nw (sR (nw (sR (nw (sR (nw (nw (hA1 h) 7 0 10) 20 151 151) 6 0 (some (6 + 1))) 20 151 151) 6 1 (some (6 + 2))) 20 4 4) 6 2 (some (6 + 3))) 20 4 4) 6 3 (some (6 + 4))) 20 4 4) 6 4 (some (6 + 5))) 3 1 (some 6) = hB1 (hA1 h) from rfl]
    have q7 : hK (nw (hB1 (hA1 h)) 3 0 10) 12 = 3 := by rw [hK_nw, b1, if_pos rfl]
    simp only [e_50_27, e_50_30, e_50_31, true_and, and_true, and_self, false_and, and_false, if_true, if_false, ↓reduceIte, Nat.add_eq_left, Nat.left_eq_add, Nat.add_left_cancel_iff, not_false_eq_true, not_true_eq_false, i_pc, List.cons_append, List.nil_append, List.length_cons, List.length_nil, Nat.reduceEqDiff, Nat.reduceAdd, Nat.reduceMul, Nat.reduceSub, Nat.reduceLeDiff, Nat.reduceLT, Int32.reduceLT, Int32.reduceLE, Int32.reduceAdd, Int32.reduceSub, reduceCtorEq, true_or, or_true, or_false, false_or, ne_eq, Nat.zero_le, b1, q7]
    refine ⟨_, m1, ?_⟩
    have q8 : hK g1 3 = 8 := by rw [m8, b3, a3]; exact hk
    simp only [e_50_34, e_50_37, true_and, and_true, and_self, false_and, and_false, if_true, if_false, ↓reduceIte, Nat.add_eq_left, Nat.left_eq_add, Nat.add_left_cancel_iff, not_false_eq_true, not_true_eq_false, i_pc, List.cons_append, List.nil_append, List.length_cons, List.length_nil, Nat.reduceEqDiff, Nat.reduceAdd, Nat.reduceMul, Nat.reduceSub, Nat.reduceLeDiff, Nat.reduceLT, Int32.reduceLT, Int32.reduceLE, Int32.reduceAdd, Int32.reduceSub, reduceCtorEq, true_or, or_true, or_false, false_or, ne_eq, Nat.zero_le, Option.toList, q8]
    have q9 : hK (nw (sR g1 3 2 (some 12)) 3 0 10) 29 = 3 := by rw [hK_nw, m3, if_pos rfl]
    simp only [e_50_38, e_50_41, e_50_42, true_and, and_true, and_self, false_and, and_false, if_true, if_false, ↓reduceIte, Nat.add_eq_left, Nat.left_eq_add, Nat.add_left_cancel_iff, not_false_eq_true, not_true_eq_false, i_pc, List.cons_append, List.nil_append, List.length_cons, List.length_nil, Nat.reduceEqDiff, Nat.reduceAdd, Nat.reduceMul, Nat.reduceSub, Nat.reduceLeDiff, Nat.reduceLT, Int32.reduceLT, Int32.reduceLE, Int32.reduceAdd, Int32.reduceSub, reduceCtorEq, true_or, or_true, or_false, false_or, ne_eq, Nat.zero_le, m3, q9]
    refine ⟨_, n1, ?_⟩
    have q10 : hK g2 3 = 8 := by rw [n8]; exact q8
    simp only [e_50_45, e_50_48, true_and, and_true, and_self, false_and, and_false, if_true, if_false, ↓reduceIte, Nat.add_eq_left, Nat.left_eq_add, Nat.add_left_cancel_iff, not_false_eq_true, not_true_eq_false, i_pc, List.cons_append, List.nil_append, List.length_cons, List.length_nil, Nat.reduceEqDiff, Nat.reduceAdd, Nat.reduceMul, Nat.reduceSub, Nat.reduceLeDiff, Nat.reduceLT, Int32.reduceLT, Int32.reduceLE, Int32.reduceAdd, Int32.reduceSub, reduceCtorEq, true_or, or_true, or_false, false_or, ne_eq, Nat.zero_le, Option.toList, q10]
    rw [hD]
    simp only [e_50_49, e_50_52, e_50_53, true_and, and_true, and_self, false_and, and_false, if_true, if_false, ↓reduceIte, Nat.add_eq_left, Nat.left_eq_add, Nat.add_left_cancel_iff, not_false_eq_true, not_true_eq_false, i_pc, List.cons_append, List.nil_append, List.length_cons, List.length_nil, Nat.reduceEqDiff, Nat.reduceAdd, Nat.reduceMul, Nat.reduceSub, Nat.reduceLeDiff, Nat.reduceLT, Int32.reduceLT, Int32.reduceLE, Int32.reduceAdd, Int32.reduceSub, reduceCtorEq, true_or, or_true, or_false, false_or, ne_eq, Nat.zero_le, n3, eK]
    refine ⟨_, c_tail eK eN, ?_⟩
    have q11 : hK (sR (nw (nw hd 5 0 2) 20 16 16) 46 0 (some (46 + 1))) 3 = 8 := by rw [hK_sR, hK_nw, eN, if_neg (by decide), hK_nw, n3, if_neg (by decide)]; exact k3
    simp only [e_50_56, e_50_59, true_and, and_true, and_self, false_and, and_false, if_true, if_false, ↓reduceIte, Nat.add_eq_left, Nat.left_eq_add, Nat.add_left_cancel_iff, not_false_eq_true, not_true_eq_false, i_pc, List.cons_append, List.nil_append, List.length_cons, List.length_nil, Nat.reduceEqDiff, Nat.reduceAdd, Nat.reduceMul, Nat.reduceSub, Nat.reduceLeDiff, Nat.reduceLT, Int32.reduceLT, Int32.reduceLE, Int32.reduceAdd, Int32.reduceSub, reduceCtorEq, true_or, or_true, or_false, false_or, ne_eq, Nat.zero_le, Option.toList, q11]
    rw [show sR (sR (nw (nw hd 5 0 2) 20 16 16) 46 0 (some (46 + 1))) 3 4 (some 46) = he from hE]
    have q12 : hK (nw he 24 40 40) 3 = 8 := by rw [hK_nw, heN, if_neg (by decide), heK, if_neg (by decide), if_neg (by decide)]; exact k3
    simp only [e_50_60, e_50_62, e_50_65, e_50_68, true_and, and_true, and_self, false_and, and_false, if_true, if_false, ↓reduceIte, Nat.add_eq_left, Nat.left_eq_add, Nat.add_left_cancel_iff, not_false_eq_true, not_true_eq_false, i_pc, List.cons_append, List.nil_append, List.length_cons, List.length_nil, Nat.reduceEqDiff, Nat.reduceAdd, Nat.reduceMul, Nat.reduceSub, Nat.reduceLeDiff, Nat.reduceLT, Int32.reduceLT, Int32.reduceLE, Int32.reduceAdd, Int32.reduceSub, reduceCtorEq, true_or, or_true, or_false, false_or, ne_eq, Nat.zero_le, heN, q12, show (40 : Int32).toNatClampNeg = 40 from by decide, show ((40 : Int32) < 0) = False from by decide]
    rw [hF]
  · rw [hfK, if_neg (by decide), heK, if_neg (by decide), if_neg (by decide)]; exact k3
  · rw [hfR, if_neg (by decide), if_neg (by decide), heR, if_neg (by decide), if_neg (by decide), if_neg (by decide), if_neg (by decide)]; exact f0
  · rw [hfR, if_neg (by decide), if_neg (by decide), heR, if_neg (by decide), if_neg (by decide), if_neg (by decide), if_neg (by decide)]; exact f1
  · rw [hfR, if_neg (by decide), if_neg (by decide), heR, if_neg (by decide), if_neg (by decide), if_neg (by decide), if_neg (by decide)]; exact f2
  · rw [hfR, if_neg (by decide), if_neg (by decide), heR, if_neg (by decide), if_neg (by decide), if_neg (by decide), if_neg (by decide)]; exact n7
  · rw [hfR, if_neg (by decide), if_neg (by decide), heR, if_pos ⟨rfl, rfl⟩]
  · rw [hfR, if_pos ⟨rfl, rfl⟩]
  · rw [(low 4 (by decide) (by decide)).1]; exact w1
  · rw [(low 4 (by decide) (by decide)).2.2]; exact w2
  · rw [(low 5 (by decide) (by decide)).1]; exact u6
  · rw [(low 5 (by decide) (by decide)).2.1]; exact v6
  · rw [hfK, if_neg (by decide), heK, if_neg (by decide), if_pos rfl]
  · rw [hfR, if_neg (by decide), if_neg (by decide), heR, if_neg (by decide), if_pos ⟨rfl, rfl⟩]
  · rw [hfK, if_neg (by decide), heK, if_pos rfl]
  · rw [hfL, if_neg (by decide), heL, if_pos rfl]
  · rw [hfK, if_pos rfl]
  · rw [hfL, if_pos rfl]
  · exact kp_tsh (N := 46) (by decide) low T2
  · rw [← hF, hN_sR, hN_nw, heN]
  · rw [← hF, hU_sR, hU_nw, heU, n4, m4, b2, a2]
  · rw [← hF]; exact zr_sR (zr_nw heZ)
  · rw [hfR, if_neg (by decide), if_neg (by decide), heR, if_neg (by decide), if_neg (by decide), if_neg (by decide), if_neg (by decide)]; exact f6
  · rw [(low 12 (by decide) (by decide)).2.2]; exact R123
  · rw [hfR, if_neg (by omega), if_pos rfl]
end CD

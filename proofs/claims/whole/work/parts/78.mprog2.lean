-- THE MODEL's reading: program
section NB
variable {xs : Nat → Int32} {L d : Nat} {h g h2 : Hp} {res : Res} {u : TB} {Bg F G ar T : Nat → Int32} {n p : Nat} {bd : Nat → Nat}
theorem m_pl_in (hO : MO g) (hB : ∀ f, f < 4 → hI g 56 f = nI (bd f) ∧ bd f < 152) (hp : p ≤ 152) : ∀ (m f : Nat), f + m = 4 → (∀ y, f ≤ y → y < 4 → ¬ (bd y = p ∧ 0 < p)) → X xs L d 87 (83, [some (.inr (some 49)), some (.inl (nI p)), some (.inl (nI 4))], [], g) res → X xs L d 87 (48, [some (.inr (some 49)), some (.inl (nI p)), some (.inl (nI f))], [], g) res := by
  intro m
  induction m with
  | zero =>
    intro f hf hn hX
    have : f = 4 := by omega
    subst this
    simp only [e_87_48, e_87_49, e_87_50, true_and, and_true, and_self, false_and, and_false, if_true, if_false, ↓reduceIte, Nat.add_eq_left, Nat.left_eq_add, Nat.add_left_cancel_iff, not_false_eq_true, not_true_eq_false, i_pc, List.cons_append, List.nil_append, List.length_cons, List.length_nil, Nat.reduceEqDiff, Nat.reduceAdd, Nat.reduceMul, Nat.reduceSub, Nat.reduceLeDiff, Nat.reduceLT, Int32.reduceLT, Int32.reduceLE, Int32.reduceAdd, Int32.reduceSub, reduceCtorEq, true_or, or_true, or_false, false_or, ne_eq, Nat.zero_le, show ((4 : Int32) ≤ nI 4) = True from by decide]
    exact hX
  | succ m ih =>
    intro f hf hn hX
    have c1 : ¬ (4 : Int32) ≤ nI f := nI_ge (b := 4) (by omega) (by decide)
    have c2 : vp_in (nI f) 4 := vin (by omega) (by decide)
    obtain ⟨b1, b2⟩ := hB f (by omega)
    have hgo := ih (f + 1) (by omega) (fun y h1 h2 => hn y (by omega) h2) hX
    rw [e_87_48]
    by_cases c3 : bd f = p
    · have c4 : p = 0 := by have := hn f (Nat.le_refl _) (by omega); omega
      have c5 : nI p ≤ 0 := by rw [c4]; decide
      rw [c3] at b1
      simp only [e_87_49, e_87_50, e_87_53, e_87_54, e_87_57, e_87_58, e_87_59, e_87_60, e_87_63, e_87_64, e_87_77, e_87_80, true_and, and_true, and_self, false_and, and_false, if_true, if_false, ↓reduceIte, Nat.add_eq_left, Nat.left_eq_add, Nat.add_left_cancel_iff, not_false_eq_true, not_true_eq_false, i_pc, List.cons_append, List.nil_append, List.length_cons, List.length_nil, Nat.reduceEqDiff, Nat.reduceAdd, Nat.reduceMul, Nat.reduceSub, Nat.reduceLeDiff, Nat.reduceLT, Int32.reduceLT, Int32.reduceLE, Int32.reduceAdd, Int32.reduceSub, reduceCtorEq, true_or, or_true, or_false, false_or, ne_eq, Nat.zero_le, mo_k hO, mo_r56 hO, mo_k56 hO, mo_l56 hO, c1, c2, b1, c5, nI_1, nI_cl (show f < 2 ^ 31 by omega)]
      exact hgo
    · have c4 : ¬ nI (bd f) = nI p := fun e => c3 ((nI_eq (by omega) (by omega)).mp e)
      simp only [e_87_49, e_87_50, e_87_53, e_87_54, e_87_57, e_87_58, e_87_59, e_87_60, e_87_77, e_87_80, true_and, and_true, and_self, false_and, and_false, if_true, if_false, ↓reduceIte, Nat.add_eq_left, Nat.left_eq_add, Nat.add_left_cancel_iff, not_false_eq_true, not_true_eq_false, i_pc, List.cons_append, List.nil_append, List.length_cons, List.length_nil, Nat.reduceEqDiff, Nat.reduceAdd, Nat.reduceMul, Nat.reduceSub, Nat.reduceLeDiff, Nat.reduceLT, Int32.reduceLT, Int32.reduceLE, Int32.reduceAdd, Int32.reduceSub, reduceCtorEq, true_or, or_true, or_false, false_or, ne_eq, Nat.zero_le, mo_k hO, mo_r56 hO, mo_k56 hO, mo_l56 hO, c1, c2, b1, c4, nI_1, nI_cl (show f < 2 ^ 31 by omega)]
      exact hgo
theorem m_pl_skip (hO : MO g) (hB : ∀ f, f < 4 → hI g 56 f = nI (bd f) ∧ bd f < 152) (hn : hI g 49 3 = nI n) (hn2 : n ≤ 150) (hp : p < n) (hc : ∀ y, y < 4 → ¬ (bd y = p ∧ 0 < p)) (hX : ∀ a2, X xs L d 87 (38, [some (.inr (some 49)), some (.inl (nI (p + 1))), a2], [], g) res) : ∀ a2, X xs L d 87 (38, [some (.inr (some 49)), some (.inl (nI p)), a2], [], g) res := by
  intro a2
  have c1 : ¬ nI n ≤ nI p := nI_ge hp (by omega)
  rw [e_87_38]
  simp only [e_87_39, e_87_40, e_87_43, e_87_46, e_87_47, true_and, and_true, and_self, false_and, and_false, if_true, if_false, ↓reduceIte, Nat.add_eq_left, Nat.left_eq_add, Nat.add_left_cancel_iff, not_false_eq_true, not_true_eq_false, i_pc, List.cons_append, List.nil_append, List.length_cons, List.length_nil, Nat.reduceEqDiff, Nat.reduceAdd, Nat.reduceMul, Nat.reduceSub, Nat.reduceLeDiff, Nat.reduceLT, Int32.reduceLT, Int32.reduceLE, Int32.reduceAdd, Int32.reduceSub, reduceCtorEq, true_or, or_true, or_false, false_or, ne_eq, Nat.zero_le, mo_k hO, hn, c1]
  refine m_pl_in hO hB (by omega) 4 0 (by omega) (fun y _ h2 => hc y h2) ?_
  simp only [e_87_83, e_87_86, true_and, and_true, and_self, false_and, and_false, if_true, if_false, ↓reduceIte, Nat.add_eq_left, Nat.left_eq_add, Nat.add_left_cancel_iff, not_false_eq_true, not_true_eq_false, i_pc, List.cons_append, List.nil_append, List.length_cons, List.length_nil, Nat.reduceEqDiff, Nat.reduceAdd, Nat.reduceMul, Nat.reduceSub, Nat.reduceLeDiff, Nat.reduceLT, Int32.reduceLT, Int32.reduceLE, Int32.reduceAdd, Int32.reduceSub, reduceCtorEq, true_or, or_true, or_false, false_or, ne_eq, Nat.zero_le, nI_1]
  exact hX _
theorem m_pl_skips (hO : MO g) (hB : ∀ f, f < 4 → hI g 56 f = nI (bd f) ∧ bd f < 152) (hn : hI g 49 3 = nI n) (hn2 : n ≤ 150) : ∀ (m p q : Nat), p + m = q → q ≤ n → (∀ x, p ≤ x → x < q → ∀ y, y < 4 → ¬ (bd y = x ∧ 0 < x)) → (∀ a2, X xs L d 87 (38, [some (.inr (some 49)), some (.inl (nI q)), a2], [], g) res) → ∀ a2, X xs L d 87 (38, [some (.inr (some 49)), some (.inl (nI p)), a2], [], g) res := by
  intro m
  induction m with
  | zero => intro p q hq hqn hc hX; have : p = q := by omega
            subst this; exact hX
  | succ m ih =>
    intro p q hq hqn hc hX
    exact m_pl_skip hO hB hn hn2 (by omega) (fun y hy => hc p (Nat.le_refl _) (by omega) y hy) (ih (p + 1) q (by omega) hqn (fun x h1 h2 => hc x (by omega) h2) hX)
theorem m_pl_hit {f : Nat} {ok : Bool} (hO : MO g) (hB : ∀ f, f < 4 → hI g 56 f = nI (bd f) ∧ bd f < 152) (hn : hI g 49 3 = nI n) (hn2 : n ≤ 150) (hp : p < n) (hp0 : 0 < p) (hf : f < 4) (hbf : bd f = p) (hc : ∀ y, y < 4 → ¬ y = f → ¬ bd y = p) (hr : Rn xs L d 86 [.inr (some 49), .inl (nI f)] g (some (.inl (bI ok)), h2)) (hO2 : MO h2) (hB2 : ∀ f, f < 4 → hI h2 56 f = nI (bd f) ∧ bd f < 152) (hno : ok = false → res = (some (.inl 0), h2)) (hX : ok = true → ∀ a2, X xs L d 87 (38, [some (.inr (some 49)), some (.inl (nI (p + 1))), a2], [], h2) res) : ∀ a2, X xs L d 87 (38, [some (.inr (some 49)), some (.inl (nI p)), a2], [], g) res := by
  intro a2
  have c1 : ¬ nI n ≤ nI p := nI_ge hp (by omega)
  rw [e_87_38]
  simp only [e_87_39, e_87_40, e_87_43, e_87_46, e_87_47, true_and, and_true, and_self, false_and, and_false, if_true, if_false, ↓reduceIte, Nat.add_eq_left, Nat.left_eq_add, Nat.add_left_cancel_iff, not_false_eq_true, not_true_eq_false, i_pc, List.cons_append, List.nil_append, List.length_cons, List.length_nil, Nat.reduceEqDiff, Nat.reduceAdd, Nat.reduceMul, Nat.reduceSub, Nat.reduceLeDiff, Nat.reduceLT, Int32.reduceLT, Int32.reduceLE, Int32.reduceAdd, Int32.reduceSub, reduceCtorEq, true_or, or_true, or_false, false_or, ne_eq, Nat.zero_le, mo_k hO, hn, c1]
  have hin : ∀ (m y : Nat), y + m = f → X xs L d 87 (48, [some (.inr (some 49)), some (.inl (nI p)), some (.inl (nI f))], [], g) res → X xs L d 87 (48, [some (.inr (some 49)), some (.inl (nI p)), some (.inl (nI y))], [], g) res := by
    intro m
    induction m with
    | zero => intro y hy hX; have : y = f := by omega
              subst this; exact hX
    | succ m ih =>
      intro y hy hX
      have q1 : ¬ (4 : Int32) ≤ nI y := nI_ge (b := 4) (by omega) (by decide)
      have q2 : vp_in (nI y) 4 := vin (by omega) (by decide)
      obtain ⟨b1, b2⟩ := hB y (by omega)
      have q3 : ¬ nI (bd y) = nI p := fun e => hc y (by omega) (by omega) ((nI_eq (by omega) (by omega)).mp e)
      have hgo := ih (y + 1) (by omega) hX
      rw [e_87_48]
      simp only [e_87_49, e_87_50, e_87_53, e_87_54, e_87_57, e_87_58, e_87_59, e_87_60, e_87_77, e_87_80, true_and, and_true, and_self, false_and, and_false, if_true, if_false, ↓reduceIte, Nat.add_eq_left, Nat.left_eq_add, Nat.add_left_cancel_iff, not_false_eq_true, not_true_eq_false, i_pc, List.cons_append, List.nil_append, List.length_cons, List.length_nil, Nat.reduceEqDiff, Nat.reduceAdd, Nat.reduceMul, Nat.reduceSub, Nat.reduceLeDiff, Nat.reduceLT, Int32.reduceLT, Int32.reduceLE, Int32.reduceAdd, Int32.reduceSub, reduceCtorEq, true_or, or_true, or_false, false_or, ne_eq, Nat.zero_le, mo_k hO, mo_r56 hO, mo_k56 hO, mo_l56 hO, q1, q2, b1, q3, nI_1, nI_cl (show y < 2 ^ 31 by omega)]
      exact hgo
  refine hin f 0 (by omega) ?_
  have q1 : ¬ (4 : Int32) ≤ nI f := nI_ge (b := 4) (by omega) (by decide)
  have q2 : vp_in (nI f) 4 := vin (by omega) (by decide)
  obtain ⟨b1, b2⟩ := hB f hf
  have q3 : ¬ nI p ≤ 0 := nI_nle hp0 (by omega)
  rw [hbf] at b1
  rw [e_87_48]
  simp only [e_87_49, e_87_50, e_87_53, e_87_54, e_87_57, e_87_58, e_87_59, e_87_60, e_87_63, e_87_64, e_87_67, e_87_68, e_87_69, true_and, and_true, and_self, false_and, and_false, if_true, if_false, ↓reduceIte, Nat.add_eq_left, Nat.left_eq_add, Nat.add_left_cancel_iff, not_false_eq_true, not_true_eq_false, i_pc, List.cons_append, List.nil_append, List.length_cons, List.length_nil, Nat.reduceEqDiff, Nat.reduceAdd, Nat.reduceMul, Nat.reduceSub, Nat.reduceLeDiff, Nat.reduceLT, Int32.reduceLT, Int32.reduceLE, Int32.reduceAdd, Int32.reduceSub, reduceCtorEq, true_or, or_true, or_false, false_or, ne_eq, Nat.zero_le, mo_k hO, mo_r56 hO, mo_k56 hO, mo_l56 hO, q1, q2, b1, q3, nI_cl (show f < 2 ^ 31 by omega)]
  refine ⟨_, hr, ?_⟩
  cases ok with
  | false =>
    rw [hno rfl]
    simp only [e_87_72, e_87_75, e_87_76, true_and, and_true, and_self, false_and, and_false, if_true, if_false, ↓reduceIte, Nat.add_eq_left, Nat.left_eq_add, Nat.add_left_cancel_iff, not_false_eq_true, not_true_eq_false, i_pc, List.cons_append, List.nil_append, List.length_cons, List.length_nil, Nat.reduceEqDiff, Nat.reduceAdd, Nat.reduceMul, Nat.reduceSub, Nat.reduceLeDiff, Nat.reduceLT, Int32.reduceLT, Int32.reduceLE, Int32.reduceAdd, Int32.reduceSub, reduceCtorEq, true_or, or_true, or_false, false_or, ne_eq, Nat.zero_le, Option.toList, bI_ff]
  | true =>
    simp only [e_87_72, e_87_77, e_87_80, true_and, and_true, and_self, false_and, and_false, if_true, if_false, ↓reduceIte, Nat.add_eq_left, Nat.left_eq_add, Nat.add_left_cancel_iff, not_false_eq_true, not_true_eq_false, i_pc, List.cons_append, List.nil_append, List.length_cons, List.length_nil, Nat.reduceEqDiff, Nat.reduceAdd, Nat.reduceMul, Nat.reduceSub, Nat.reduceLeDiff, Nat.reduceLT, Int32.reduceLT, Int32.reduceLE, Int32.reduceAdd, Int32.reduceSub, reduceCtorEq, true_or, or_true, or_false, false_or, ne_eq, Nat.zero_le, Option.toList, bI_tt, nI_1, show ((1 : Int32) = 0) = False from by decide]
    refine m_pl_in hO2 hB2 (by omega) (3 - f) (f + 1) (by omega) (fun y h1 h2 z => hc y h2 (by omega) z.1) ?_
    simp only [e_87_83, e_87_86, true_and, and_true, and_self, false_and, and_false, if_true, if_false, ↓reduceIte, Nat.add_eq_left, Nat.left_eq_add, Nat.add_left_cancel_iff, not_false_eq_true, not_true_eq_false, i_pc, List.cons_append, List.nil_append, List.length_cons, List.length_nil, Nat.reduceEqDiff, Nat.reduceAdd, Nat.reduceMul, Nat.reduceSub, Nat.reduceLeDiff, Nat.reduceLT, Int32.reduceLT, Int32.reduceLE, Int32.reduceAdd, Int32.reduceSub, reduceCtorEq, true_or, or_true, or_false, false_or, ne_eq, Nat.zero_le, nI_1]
    exact hX rfl _
theorem m_pl (hO : MO h) (hA : AR h ar) (hTT : ∀ j, j < 152 → hI h 51 j = T j) (hT : TX T n) (hn : hI h 49 3 = nI n) {bd' : Nat → Nat} {ay' Q' : Nat → Int32} (hB : ∀ f, f < 4 → hI h 56 f = nI (bd' f) ∧ bd' f < 152) : ∀ (m p : Nat) (bd : Nat → Nat) (ay Q : Nat → Int32) (u : TB) (Bg F G : Nat → Int32), p ≤ n → zc bd = m → hds T n p bd ay Q = some (bd', ay', Q') → (∀ y, y < 4 → 0 < bd y → bd y < p) → u.2.2.2 ≤ 40 →
    ∃ (u' : TB) (Bg' F' G' : Nat → Int32), (∀ a2, X xs L (d + 5) 87 (38, [some (.inr (some 49)), some (.inl (nI p)), a2], [], kH h u Bg F G) (some (.inl (bI (pgm ar T n m p u).isSome)), kH h u' Bg' F' G')) ∧ ∀ τ, pgm ar T n m p u = some τ → u' = τ ∧ τ.2.2.2 ≤ 40 := by
  intro m
  have hn2 := hT.1
  have hO2 : ∀ (u : TB) (Bg F G : Nat → Int32), MO (kH h u Bg F G) := fun _ _ _ _ => hO
  have hB2 : ∀ (u : TB) (Bg F G : Nat → Int32) (f : Nat), f < 4 → hI (kH h u Bg F G) 56 f = nI (bd' f) ∧ bd' f < 152 := fun u Bg F G f hf => by rw [kH_56]; exact hB f hf
  have hn3 : ∀ (u : TB) (Bg F G : Nat → Int32), hI (kH h u Bg F G) 49 3 = nI n := fun u Bg F G => by rw [kH_49 (by decide)]; exact hn
  have stop : ∀ (m : Nat) (u : TB) (Bg F G : Nat → Int32), u.2.2.2 ≤ 40 → ∃ (u' : TB) (Bg' F' G' : Nat → Int32), (∀ a2, X xs L (d + 5) 87 (38, [some (.inr (some 49)), some (.inl (nI n)), a2], [], kH h u Bg F G) (some (.inl (bI (pgm ar T n m n u).isSome)), kH h u' Bg' F' G')) ∧ ∀ τ, pgm ar T n m n u = some τ → u' = τ ∧ τ.2.2.2 ≤ 40 := fun m u Bg F G hl => by
    refine ⟨u, Bg, F, G, fun a2 => ?_, fun τ hτ => ?_⟩
    · rw [pgm_end (by omega)]
      show X _ _ _ _ _ (some (.inl (bI true)), _)
      simp only [e_87_38, e_87_39, e_87_40, e_87_43, e_87_89, e_87_90, true_and, and_true, and_self, false_and, and_false, if_true, if_false, ↓reduceIte, Nat.add_eq_left, Nat.left_eq_add, Nat.add_left_cancel_iff, not_false_eq_true, not_true_eq_false, i_pc, List.cons_append, List.nil_append, List.length_cons, List.length_nil, Nat.reduceEqDiff, Nat.reduceAdd, Nat.reduceMul, Nat.reduceSub, Nat.reduceLeDiff, Nat.reduceLT, Int32.reduceLT, Int32.reduceLE, Int32.reduceAdd, Int32.reduceSub, reduceCtorEq, true_or, or_true, or_false, false_or, ne_eq, Nat.zero_le, mo_k (hO2 _ _ _ _), hn3, Int32.le_refl, bI_tt]
    · rw [pgm_end (by omega)] at hτ
      cases hτ
      exact ⟨rfl, hl⟩
  induction m with
  | zero =>
    intro p bd ay Q u Bg F G hp hz hs ho hl
    have : p = n := by
      rcases Nat.lt_or_ge p n with c | c
      · obtain ⟨f, a, q, R, hf, ha, e1, e2, e3, hp2, hbf, hq, r4, r2, hs2⟩ := hds_inv hT c hs
        exact absurd hbf (zc_0 hz hf)
      · omega
    subst this
    exact stop 0 u Bg F G hl
  | succ m ih =>
    intro p bd ay Q u Bg F G hp hz hs ho hl
    by_cases c : p < n
    · obtain ⟨f, a, q, R, hf, ha, e1, e2, e3, hp2, hbf, hq, r4, r2, hs2⟩ := hds_inv hT c hs
      obtain ⟨t1, -⟩ := hds_bd hT n q _ bd' _ R ay' Q' (by omega) r2 hs2
      have hbf' : bd' f = p + 2 := by have := (t1 f).1; rw [upN_eq] at this; exact this (by omega)
      have hoth : ∀ y, y < 4 → ¬ y = f → bd' y = 0 ∨ (0 < bd' y ∧ bd' y < p) ∨ q + 2 ≤ bd' y := fun y hy hyf => by
        obtain ⟨t2, t3⟩ := t1 y
        rw [upN_ne hyf] at t2 t3
        rcases Nat.eq_zero_or_pos (bd y) with z | z
        · rcases t3 z with w | w
          · exact Or.inl w
          · exact Or.inr (Or.inr w.1)
        · have := t2 z
          have := ho y hy z
          exact Or.inr (Or.inl (by omega))
      have hq2 : ¬ hsc T n (p + 2 + 1) [p + 2] Q = none := by rw [show p + 2 + 1 = p + 3 from rfl, hq]; intro z; cases z
      obtain ⟨u', Bg', F', G', g1, g2⟩ := m_block (xs := xs) (L := L) (d := d) (u := u) (Bg := Bg) (F := F) (G := G) hO hA hTT hT hn hf ((hB f hf).1.trans (congrArg nI hbf')) hp2 hl hq2
      have skip2 : ∀ res, (∀ a2, X xs L (d + 5) 87 (38, [some (.inr (some 49)), some (.inl (nI (p + 2))), a2], [], kH h u Bg F G) res) → ∀ a2, X xs L (d + 5) 87 (38, [some (.inr (some 49)), some (.inl (nI p)), a2], [], kH h u Bg F G) res := fun res hX => m_pl_skips (hO2 _ _ _ _) (hB2 _ _ _ _) (hn3 _ _ _ _) hn2 2 p (p + 2) rfl (by omega) (fun x h1 h2 y hy z => by
        by_cases cy : y = f
        · subst cy; omega
        · have := hoth y hy cy; omega) hX
      cases hb : bm ar T n (p + 3) [p + 2] (up u.1 (p + 2) 0, u.2) with
      | none =>
        rw [show p + 2 + 1 = p + 3 from rfl, hb] at g1
        rw [pgm_none c hb]
        refine ⟨u', Bg', F', G', skip2 _ (m_pl_hit (ok := false) (hO2 _ _ _ _) (hB2 _ _ _ _) (hn3 _ _ _ _) hn2 hp2 (by omega) hf hbf' (fun y hy cy z => by have := hoth y hy cy; omega) g1 (hO2 _ _ _ _) (hB2 _ _ _ _) (fun _ => rfl) (fun z => by cases z)), fun τ hτ => by cases hτ⟩
      | some x =>
        obtain ⟨x1, x2⟩ := x
        rw [show p + 2 + 1 = p + 3 from rfl, hb] at g1
        have hb' : bm ar T n (p + 2 + 1) [p + 2] (up u.1 (p + 2) 0, u.2) = some (x1, x2) := hb
        obtain ⟨g3, g4⟩ := g2 _ hb'
        have hxq : x1 = q := bm_hsc hT 152 (p + 3) [p + 2] (up u.1 (p + 2) 0, u.2) (fun _ => nI (p + 2)) Q (x1, x2) (q, R) (by omega) (by omega) (Or.inr (by omega)) ⟨by omega, rfl, fun _ => by rw [show ((up u.1 (p + 2) 0, u.2) : TB).1 = up u.1 (p + 2) 0 from rfl, up_eq]; decide, trivial⟩ hb hq
        subst hxq
        rw [pgm_1 c hb]
        have g3 : u' = x2 := g3
        subst g3
        obtain ⟨u2, Bg2, F2, G2, i1, i2⟩ := ih x1 (upN bd f (p + 2)) (up ay f (nI a)) R u' Bg' F' G' r2 (by have := zc_up (q := p + 2) hf hbf (by omega); omega) hs2 (fun y hy z => by
          by_cases cy : y = f
          · subst cy; rw [upN_eq]; omega
          · rw [upN_ne cy] at z ⊢; have := ho y hy z; omega) g4
        refine ⟨u2, Bg2, F2, G2, skip2 _ (m_pl_hit (ok := true) (hO2 _ _ _ _) (hB2 _ _ _ _) (hn3 _ _ _ _) hn2 hp2 (by omega) hf hbf' (fun y hy cy z => by have := hoth y hy cy; omega) g1 (hO2 _ _ _ _) (hB2 _ _ _ _) (fun z => by cases z) (fun _ => ?_)), i2⟩
        exact m_pl_skips (hO2 _ _ _ _) (hB2 _ _ _ _) (hn3 _ _ _ _) hn2 (x1 - (p + 3)) (p + 3) x1 (by omega) r2 (fun x h1 h2 y hy z => by
          by_cases cy : y = f
          · subst cy; omega
          · have := hoth y hy cy; omega) i1
    · have : p = n := by omega
      subst this
      exact stop (m + 1) u Bg F G hl
theorem m_ln_loop (hO : MO h) (hX : ∀ Z : Nat → Int32, (∀ j, Z j = if j < 152 then -1 else u.2.2.1 j) → X xs L d 87 (36, [some (.inr (some 49)), some (.inl (nI 152)), none], [], kH h (u.1, u.2.1, Z, u.2.2.2) Bg F G) res) : ∀ (m i : Nat) (Z : Nat → Int32), i + m = 152 → (∀ j, Z j = if j < i then -1 else u.2.2.1 j) → X xs L d 87 (16, [some (.inr (some 49)), some (.inl (nI i)), none], [], kH h (u.1, u.2.1, Z, u.2.2.2) Bg F G) res := by
  intro m
  have hO2 : ∀ (u : TB) (Bg F G : Nat → Int32), MO (kH h u Bg F G) := fun _ _ _ _ => hO
  induction m with
  | zero =>
    intro i Z hi hZ
    have : i = 152 := by omega
    subst this
    simp only [e_87_16, e_87_17, e_87_20, true_and, and_true, and_self, false_and, and_false, if_true, if_false, ↓reduceIte, Nat.add_eq_left, Nat.left_eq_add, Nat.add_left_cancel_iff, not_false_eq_true, not_true_eq_false, i_pc, List.cons_append, List.nil_append, List.length_cons, List.length_nil, Nat.reduceEqDiff, Nat.reduceAdd, Nat.reduceMul, Nat.reduceSub, Nat.reduceLeDiff, Nat.reduceLT, Int32.reduceLT, Int32.reduceLE, Int32.reduceAdd, Int32.reduceSub, reduceCtorEq, true_or, or_true, or_false, false_or, ne_eq, Nat.zero_le, show ((152 : Int32) ≤ nI 152) = True from by decide]
    exact hX Z hZ
  | succ m ih =>
    intro i Z hi hZ
    have c1 : ¬ (152 : Int32) ≤ nI i := nI_ge (b := 152) (by omega) (by decide)
    have c2 : vp_in (nI i) 152 := vin (by omega) (by decide)
    have hgo := ih (i + 1) (up Z i (-1)) (by omega) (fun j => by
      by_cases c : j = i
      · subst c; rw [up_eq, if_pos (by omega)]
      · rw [up_ne c, hZ j]
        by_cases c2 : j < i
        · rw [if_pos c2, if_pos (by omega)]
        · rw [if_neg c2, if_neg (by omega)])
    rw [e_87_16]
    simp only [e_87_17, e_87_20, e_87_23, e_87_24, e_87_27, e_87_28, e_87_29, e_87_30, e_87_33, true_and, and_true, and_self, false_and, and_false, if_true, if_false, ↓reduceIte, Nat.add_eq_left, Nat.left_eq_add, Nat.add_left_cancel_iff, not_false_eq_true, not_true_eq_false, i_pc, List.cons_append, List.nil_append, List.length_cons, List.length_nil, Nat.reduceEqDiff, Nat.reduceAdd, Nat.reduceMul, Nat.reduceSub, Nat.reduceLeDiff, Nat.reduceLT, Int32.reduceLT, Int32.reduceLE, Int32.reduceAdd, Int32.reduceSub, reduceCtorEq, true_or, or_true, or_false, false_or, ne_eq, Nat.zero_le, mo_k (hO2 _ _ _ _), mo_r55 (hO2 _ _ _ _), mo_k55 (hO2 _ _ _ _), mo_l55 (hO2 _ _ _ _), c1, c2, kW_55, nI_1, nI_cl (show i < 2 ^ 31 by omega)]
    exact hgo
end NB

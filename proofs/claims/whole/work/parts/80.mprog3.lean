-- THE MODEL's reading: program takes what the translator takes
def u0 (h : Hp) : TB := (hI h 53, hI h 54, (fun j => if j < 152 then -1 else hI h 55 j), 0)
def arO (bd : Nat → Nat) (ay : Nat → Int32) : Nat → Int32 := fun f => if bd f = 0 then -1 else ay f
/-- a translator's state before it reads a program -/
def St0 (s : TS) : Prop := s.1 = 0 ∧ s.2.1 = 0 ∧ s.2.2.1 = 0 ∧ ∀ f, f < 4 → aP s f = -1 ∧ aA s f = -1
def arC (r : TS) : Nat → Int32 := fun f => if f < 4 then aP r f else -1
/-- the model's tables of a program that the translator has read from s -/
def MT (h : Hp) (T tx : Nat → Int32) (n : Nat) (s : TS) (bd : Nat → Nat) : Prop := (∀ f, f < 4 → hI h 56 f = nI (bd f) ∧ bd f < 152) ∧ (∀ f, f < 4 → aP (cProgL n tx 4 s).2 f = if bd f = 0 then -1 else hI h 57 f) ∧ hI h 49 5 = nI (cProgL n tx 4 s).2.2.2.1 ∧ ∀ f, f < 4 → 0 < bd f → FB (arC (cProgL n tx 4 s).2) T n (aI (cProgL n tx 4 s).2) (aH (cProgL n tx 4 s).2) (aS (cProgL n tx 4 s).2) (hI h 53) (hI h 54) (hI h 55) (hI h 52) bd (cProgL n tx 4 s).2.2.1 (cProgL n tx 4 s).2.2.2.1 f
section NC
variable {xs : Nat → Int32} {L d : Nat} {h g h2 : Hp} {res : Res} {T tx : Nat → Int32} {n p : Nat} {s : TS}
theorem hds_hi (hT : TX T n) : ∀ (m p : Nat) (bd bd' : Nat → Nat) (ay Q ay' Q' : Nat → Int32), n - p ≤ m → hds T n p bd ay Q = some (bd', ay', Q') → ∀ g, 4 ≤ g → bd' g = bd g := by
  intro m
  induction m with
  | zero =>
    intro p bd bd' ay Q ay' Q' hm hs g hg
    rw [hds_end (by omega)] at hs
    cases hs
    rfl
  | succ m ih =>
    intro p bd bd' ay Q ay' Q' hm hs g hg
    by_cases c : p < n
    · obtain ⟨f, a, q, R, hf, ha, e1, e2, e3, hp2, hbf, hq, r4, r2, hs2⟩ := hds_inv hT c hs
      rw [ih q _ bd' _ R ay' Q' (by omega) hs2 g hg, upN_ne (by omega)]
    · rw [hds_end c] at hs
      cases hs
      rfl
theorem m_prog (hO : MO h) (hTT : ∀ j, j < 152 → hI h 51 j = T j) (hT : TX T n) (hn : hI h 49 3 = nI n) {ln : Nat} (hln : hI h 49 5 = nI ln) (hay : ∀ f, f < 4 → ∃ k, k ≤ 3 ∧ hI h 57 f = nI k) :
    ∃ (ok : Bool) (By ay Bk Q : Nat → Int32) (u : TB) (Bg F G : Nat → Int32), Rn xs L (d + 6) 87 [.inr (some 49)] h (some (.inl (bI ok)), kH (hH h By ay Bk Q) u Bg F G) ∧ (∀ f, f < 4 → ∃ k, k ≤ 3 ∧ ay f = nI k) ∧ (ok = true → ∃ bd, hds T n 0 (fun _ => 0) (hI h 57) (hI h 52) = some (bd, ay, Q) ∧ 0 < bd 0 ∧ ay 0 = 0 ∧ pgm (arO bd ay) T n 4 0 (u0 h) = some u ∧ (∀ f, f < 4 → By f = nI (bd f) ∧ bd f < 152) ∧ u.2.2.2 ≤ 40) ∧ (ok = false → ∀ bd ay Q, hds T n 0 (fun _ => 0) (hI h 57) (hI h 52) = some (bd, ay, Q) → 0 < bd 0 → ay 0 = 0 → pgm (arO bd ay) T n 4 0 (u0 h) = none) := by
  have hn2 := hT.1
  obtain ⟨ok, By, ay, Bk, Q, i1, i2, i4, i3⟩ := m_heads (xs := xs) (L := L) (d := d + 3) hO hTT hT hn
  have i4 := i4 hay
  have hO1 : MO (hH h By ay Bk Q) := hO
  cases ok with
  | false =>
    have e0 : kH (hH h By ay Bk Q) (hI (hH h By ay Bk Q) 53, hI (hH h By ay Bk Q) 54, hI (hH h By ay Bk Q) 55, ln) (hI (hH h By ay Bk Q) 59) (hI (hH h By ay Bk Q) 60) (hI (hH h By ay Bk Q) 61) = hH h By ay Bk Q := by
      rw [kH_id]
      exact sI_id (by rw [hH_49]; exact hln)
    refine ⟨false, By, ay, Bk, Q, (hI (hH h By ay Bk Q) 53, hI (hH h By ay Bk Q) 54, hI (hH h By ay Bk Q) 55, ln), hI (hH h By ay Bk Q) 59, hI (hH h By ay Bk Q) 60, hI (hH h By ay Bk Q) 61, ?_, i4, fun z => (by cases z), fun _ bd ay2 Q2 hs h1 h2 => ?_⟩
    · rw [e0, i_rn]
      show X xs L (d + 5) 87 (0, [some (.inr (some 49)), none, none], [], h) _
      simp only [e_87_0, e_87_1, true_and, and_true, and_self, false_and, and_false, if_true, if_false, ↓reduceIte, Nat.add_eq_left, Nat.left_eq_add, Nat.add_left_cancel_iff, not_false_eq_true, not_true_eq_false, i_pc, List.cons_append, List.nil_append, List.length_cons, List.length_nil, Nat.reduceEqDiff, Nat.reduceAdd, Nat.reduceMul, Nat.reduceSub, Nat.reduceLeDiff, Nat.reduceLT, Int32.reduceLT, Int32.reduceLE, Int32.reduceAdd, Int32.reduceSub, reduceCtorEq, true_or, or_true, or_false, false_or, ne_eq, Nat.zero_le, mo_k hO]
      refine ⟨_, i1, ?_⟩
      simp only [e_87_4, e_87_7, e_87_8, true_and, and_true, and_self, false_and, and_false, if_true, if_false, ↓reduceIte, Nat.add_eq_left, Nat.left_eq_add, Nat.add_left_cancel_iff, not_false_eq_true, not_true_eq_false, i_pc, List.cons_append, List.nil_append, List.length_cons, List.length_nil, Nat.reduceEqDiff, Nat.reduceAdd, Nat.reduceMul, Nat.reduceSub, Nat.reduceLeDiff, Nat.reduceLT, Int32.reduceLT, Int32.reduceLE, Int32.reduceAdd, Int32.reduceSub, reduceCtorEq, true_or, or_true, or_false, false_or, ne_eq, Nat.zero_le, Option.toList, bI_ff]
    · obtain ⟨j1, j2⟩ := i3 bd ay2 Q2 hs
      rw [decide_eq_true ⟨h1, h2⟩] at j1
      cases j1
  | true =>
    have hs : ∃ bd, hds T n 0 (fun _ => 0) (hI h 57) (hI h 52) = some (bd, ay, Q) ∧ 0 < bd 0 ∧ ay 0 = 0 ∧ ∀ f, f < 4 → By f = nI (bd f) ∧ bd f < 152 := by
      cases hq : hds T n 0 (fun _ => 0) (hI h 57) (hI h 52) with
      | none => have := i2 hq; cases this
      | some y =>
        obtain ⟨bd, ay2, Q2⟩ := y
        obtain ⟨j1, j2, j3, j4⟩ := i3 bd ay2 Q2 hq
        have j5 := of_decide_eq_true j1.symm
        subst j3
        subst j4
        exact ⟨bd, rfl, j5.1, j5.2, j2⟩
    obtain ⟨bd, hs, hb0, ha0, hB⟩ := hs
    have hAR : AR (hH h By ay Bk Q) (arO bd ay) := fun f hf => by
      obtain ⟨k, hk, e⟩ := i4 f hf
      refine ⟨bd f, k, by rw [hH_56]; exact (hB f hf).1, by have := (hB f hf).2; omega, by rw [hH_57]; exact e, hk, ?_⟩
      unfold arO
      rw [e]
    obtain ⟨u', Bg', F', G', g1, g2⟩ := m_pl (xs := xs) (L := L) (d := d) (h := hH h By ay Bk Q) (ar := arO bd ay) (bd' := bd) (ay' := ay) (Q' := Q) hO1 hAR (fun j hj => by rw [hH_51]; exact hTT j hj) hT (by rw [hH_49]; exact hn) (fun f hf => by rw [hH_56]; exact hB f hf) 4 0 (fun _ => 0) (hI h 57) (hI h 52) (u0 h) (hI h 59) (hI h 60) (hI h 61) (Nat.zero_le _) rfl hs (fun y _ z => absurd z (Nat.lt_irrefl _)) (show 0 ≤ 40 by decide)
    refine ⟨(pgm (arO bd ay) T n 4 0 (u0 h)).isSome, By, ay, Bk, Q, u', Bg', F', G', ?_, i4, fun z => ?_, fun z bd2 ay2 Q2 hs2 _ _ => ?_⟩
    · rw [i_rn]
      show X xs L (d + 5) 87 (0, [some (.inr (some 49)), none, none], [], h) _
      simp only [e_87_0, e_87_1, true_and, and_true, and_self, false_and, and_false, if_true, if_false, ↓reduceIte, Nat.add_eq_left, Nat.left_eq_add, Nat.add_left_cancel_iff, not_false_eq_true, not_true_eq_false, i_pc, List.cons_append, List.nil_append, List.length_cons, List.length_nil, Nat.reduceEqDiff, Nat.reduceAdd, Nat.reduceMul, Nat.reduceSub, Nat.reduceLeDiff, Nat.reduceLT, Int32.reduceLT, Int32.reduceLE, Int32.reduceAdd, Int32.reduceSub, reduceCtorEq, true_or, or_true, or_false, false_or, ne_eq, Nat.zero_le, mo_k hO]
      refine ⟨_, i1, ?_⟩
      simp only [e_87_4, e_87_9, e_87_10, e_87_11, e_87_14, e_87_15, true_and, and_true, and_self, false_and, and_false, if_true, if_false, ↓reduceIte, Nat.add_eq_left, Nat.left_eq_add, Nat.add_left_cancel_iff, not_false_eq_true, not_true_eq_false, i_pc, List.cons_append, List.nil_append, List.length_cons, List.length_nil, Nat.reduceEqDiff, Nat.reduceAdd, Nat.reduceMul, Nat.reduceSub, Nat.reduceLeDiff, Nat.reduceLT, Int32.reduceLT, Int32.reduceLE, Int32.reduceAdd, Int32.reduceSub, reduceCtorEq, true_or, or_true, or_false, false_or, ne_eq, Nat.zero_le, Option.toList, bI_tt, mo_k hO1, show ((1 : Int32) = 0) = False from by decide]
      have e0 : sI (hH h By ay Bk Q) 49 5 0 = kH (hH h By ay Bk Q) (hI h 53, hI h 54, hI h 55, 0) (hI h 59) (hI h 60) (hI h 61) := by
        have := kH_id (h := hH h By ay Bk Q) (m := 0)
        rw [show nI 0 = (0 : Int32) from rfl] at this
        rw [← this]
        have e : ∀ o, ¬ o = 56 → ¬ o = 57 → ¬ o = 58 → ¬ o = 52 → hI (hH h By ay Bk Q) o = hI h o := fun o a1 a2 a3 a4 => funext (fun k => hH_o a1 a2 a3 a4)
        rw [e 53 (by decide) (by decide) (by decide) (by decide), e 54 (by decide) (by decide) (by decide) (by decide), e 55 (by decide) (by decide) (by decide) (by decide), e 59 (by decide) (by decide) (by decide) (by decide), e 60 (by decide) (by decide) (by decide) (by decide), e 61 (by decide) (by decide) (by decide) (by decide)]
      rw [e0]
      refine m_ln_loop (u := (hI h 53, hI h 54, hI h 55, 0)) hO1 (fun Z hZ => ?_) 152 0 (hI h 55) (by omega) (fun j => by rw [if_neg (by omega)])
      have eZ : Z = fun j => if j < 152 then -1 else hI h 55 j := funext hZ
      subst eZ
      simp only [e_87_36, e_87_37, true_and, and_true, and_self, false_and, and_false, if_true, if_false, ↓reduceIte, Nat.add_eq_left, Nat.left_eq_add, Nat.add_left_cancel_iff, not_false_eq_true, not_true_eq_false, i_pc, List.cons_append, List.nil_append, List.length_cons, List.length_nil, Nat.reduceEqDiff, Nat.reduceAdd, Nat.reduceMul, Nat.reduceSub, Nat.reduceLeDiff, Nat.reduceLT, Int32.reduceLT, Int32.reduceLE, Int32.reduceAdd, Int32.reduceSub, reduceCtorEq, true_or, or_true, or_false, false_or, ne_eq, Nat.zero_le]
      exact g1 _
    · cases hp : pgm (arO bd ay) T n 4 0 (u0 h) with
      | none => rw [hp] at z; cases z
      | some τ =>
        obtain ⟨g3, g4⟩ := g2 τ hp
        subst g3
        exact ⟨bd, hs, hb0, ha0, hp, hB, g4⟩
    · rw [hs] at hs2
      cases hs2
      cases hp : pgm (arO bd ay) T n 4 0 (u0 h) with
      | none => rfl
      | some τ => rw [hp] at z; cases z
theorem pcr0 (hs : St0 s) {ay : Nat → Int32} : PCr s (fun _ => 0) ay := fun f hf => Or.inl ⟨rfl, (hs.2.2.2 f hf).1⟩
theorem bd_st0 (hs : St0 s) : Bd n s := ⟨by rw [hs.1]; omega, by rw [hs.2.1]; omega, by rw [hs.2.2.1]; omega⟩
/-- what the translator takes, program takes, and its tables are right -/
theorem m_prog_acc (hO : MO h) (hTT : ∀ j, j < 152 → hI h 51 j = T j) (hT : TX T n) (hTC : TC T tx n) (hn : hI h 49 3 = nI n) {ln : Nat} (hln : hI h 49 5 = nI ln) (hay : ∀ f, f < 4 → ∃ k, k ≤ 3 ∧ hI h 57 f = nI k) (hs : St0 s) (hc : cAcc n (cProgL n tx 4 s)) :
    ∃ (By ay Bk Q : Nat → Int32) (u : TB) (Bg F G : Nat → Int32), Rn xs L (d + 6) 87 [.inr (some 49)] h (some (.inl 1), kH (hH h By ay Bk Q) u Bg F G) ∧ (∀ f, f < 4 → ∃ k, k ≤ 3 ∧ ay f = nI k) ∧ ∃ bd, MT (kH (hH h By ay Bk Q) u Bg F G) T tx n s bd ∧ 0 < bd 0 ∧ hds T n 0 (fun _ => 0) (hI h 57) (hI h 52) = some (bd, ay, Q) ∧ pgm (arC (cProgL n tx 4 s).2) T n 4 0 (u0 h) = some u := by
  obtain ⟨c1, c2, c3, c4⟩ := hc
  have hA0 : Ars (aP (cProgL n tx 4 s).2) := progl_P hTC 4 s (fun f hf => Or.inl (hs.2.2.2 f hf).1) c1
  have hA : Ars (arC (cProgL n tx 4 s).2) := fun f hf => by
    unfold arC
    rw [if_pos hf]
    exact hA0 f hf
  have hF : Fit (arC (cProgL n tx 4 s).2) (aA (cProgL n tx 4 s).2) := fun f hf => by
    unfold arC
    rw [if_pos hf]
    exact fit_4.mp c4 f hf
  obtain ⟨bd, ay, Q, τ, i1, i2, i3, i4, i5, i6, i7, i8, i9, i10⟩ := pg_acc hTC hT hA 4 s (fun _ => 0) (hI h 57) (hI h 52) (u0 h) (bd_st0 hs) (by rw [hs.2.1]; omega) (by rw [hs.2.2.1]; rfl) (pcr0 hs) c1 c2 hF
  rw [hs.1] at i1 i2 i10
  obtain ⟨ok, By, ay2, Bk, Q2, u, Bg, F, G, j1, j2, j3, j4⟩ := m_prog (xs := xs) (L := L) (d := d) hO hTT hT hn hln hay
  have har : arO bd ay = arC (cProgL n tx 4 s).2 := funext (fun f => by
    unfold arO arC
    by_cases hf : f < 4
    · rw [if_pos hf]
      rcases i4 f hf with ⟨k1, k2⟩ | ⟨k1, k2, k3⟩
      · rw [if_pos k1, k2]
      · rw [if_neg (by omega), k2]
    · rw [if_neg hf, if_pos (hds_hi hT n 0 _ bd _ _ ay Q (by omega) i1 f (by omega))])
  have hb0 : 0 < bd 0 ∧ ay 0 = 0 := by
    rcases i4 0 (by decide) with ⟨k1, k2⟩ | ⟨k1, k2, k3⟩
    · rw [c3] at k2; exact absurd k2 (by decide)
    · exact ⟨k1, by rw [← k2]; exact c3⟩
  cases ok with
  | false =>
    have := j4 rfl bd ay Q i1 hb0.1 hb0.2
    rw [har, i2] at this
    cases this
  | true =>
    obtain ⟨bd2, k1, k2, k3, k4, k5, k6⟩ := j3 rfl
    rw [i1] at k1
    cases k1
    rw [har, i2] at k4
    cases k4
    refine ⟨By, ay, Bk, Q, τ, Bg, F, G, j1, j2, bd, ⟨fun f hf => ?_, fun f hf => ?_, ?_, fun f hf hbf => ?_⟩, hb0.1, i1, i2⟩
    · rw [kH_56, hH_56]; exact k5 f hf
    · rw [kH_57, hH_57]
      rcases i4 f hf with ⟨q1, q2⟩ | ⟨q1, q2, q3⟩
      · rw [if_pos q1, q2]
      · rw [if_neg (by omega), q2]
    · rw [kH_ln, i3]
    · have e53 : hI (kH (hH h By ay Bk Q) τ Bg F G) 53 = τ.1 := funext (fun k => kH_53)
      have e54 : hI (kH (hH h By ay Bk Q) τ Bg F G) 54 = τ.2.1 := funext (fun k => kH_54)
      have e55 : hI (kH (hH h By ay Bk Q) τ Bg F G) 55 = τ.2.2.1 := funext (fun k => kH_55)
      have e52 : hI (kH (hH h By ay Bk Q) τ Bg F G) 52 = Q := funext (fun k => (kH_o (by decide) (by decide) (by decide) (by decide) (by decide) (by decide) (by decide)).trans hH_52)
      rw [e53, e54, e55, e52]
      exact (i10 (fun x hx => by omega)).2 f hf rfl hbf
/-- what the translator doesn't take, program doesn't take -/
theorem m_prog_rej (hO : MO h) (hTT : ∀ j, j < 152 → hI h 51 j = T j) (hT : TX T n) (hTC : TC T tx n) (hn : hI h 49 3 = nI n) {ln : Nat} (hln : hI h 49 5 = nI ln) (hay : ∀ f, f < 4 → ∃ k, k ≤ 3 ∧ hI h 57 f = nI k) (hs : St0 s) (hc : ¬ cAcc n (cProgL n tx 4 s)) :
    ∃ (By ay Bk Q : Nat → Int32) (u : TB) (Bg F G : Nat → Int32), Rn xs L (d + 6) 87 [.inr (some 49)] h (some (.inl 0), kH (hH h By ay Bk Q) u Bg F G) ∧ ∀ f, f < 4 → ∃ k, k ≤ 3 ∧ ay f = nI k := by
  obtain ⟨ok, By, ay, Bk, Q, u, Bg, F, G, j1, j2, j3, j4⟩ := m_prog (xs := xs) (L := L) (d := d) hO hTT hT hn hln hay
  cases ok with
  | false => exact ⟨By, ay, Bk, Q, u, Bg, F, G, j1, j2⟩
  | true =>
    obtain ⟨bd, k1, k2, k3, k4, k5, k6⟩ := j3 rfl
    have hA : Ars (arO bd ay) := fun f hf => by
      unfold arO
      by_cases c : bd f = 0
      · rw [if_pos c]; exact Or.inl rfl
      · rw [if_neg c]; exact Or.inr (j2 f hf)
    obtain ⟨g1, g2, g3, g4⟩ := pg_back hTC hT hA 4 s (fun _ => 0) (hI h 57) (hI h 52) (u0 h) u bd ay Q (bd_st0 hs) (by rw [hs.2.1]; omega) (by rw [hs.2.2.1]; rfl) (pcr0 hs) (fun f hf => Or.inl (hs.2.2.2 f hf).2) rfl (by rw [hs.1]; exact k1) (by rw [hs.1]; exact k4) (fun f hf => rfl)
    refine absurd ⟨g1, g2, ?_, fit_4.mpr (fun f hf => ?_)⟩ hc
    · rw [g4 0 (by decide)]
      unfold arO
      rw [if_neg (by omega)]
      exact k3
    · rw [g4 f hf]
      exact g3 f hf
end NC

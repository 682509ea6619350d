-- THE SPEC of statements: where an expression ends; the tree of statements; the automaton of blocks
section SB
variable {ar T : Nat → Int32} {n : Nat}
theorem sm_rng (hT : TX T n) : ∀ (m p : Nat) (w : Bool) (lv : LV) (st : List LV) (q : Nat) (J : List Int32), 152 - p ≤ m → p ≤ n → sm ar T p w lv st = some (q, J) → q ≤ n ∧ p ≤ q ∧ (w = true → p < q) ∧ ∀ j, p ≤ j → j < q → ¬ T j = 123 ∧ ¬ T j = 125 := by
  intro m
  have hn := hT.1
  induction m with
  | zero => intro p w lv st q J hm hp; omega
  | succ m ih =>
    intro p w lv st q J hm hpn hs
    have hp : p < 152 := by omega
    have one : ∀ (w2 : Bool) (lv2 : LV) (st2 : List LV) (J2 : List Int32), ¬ T p = 59 → ¬ T p = 123 → ¬ T p = 125 → sm ar T (p + 1) w2 lv2 st2 = some (q, J2) → q ≤ n ∧ p ≤ q ∧ (w = true → p < q) ∧ ∀ j, p ≤ j → j < q → ¬ T j = 123 ∧ ¬ T j = 125 := fun w2 lv2 st2 J2 h59 h123 h125 h1 => by
      have hpn2 := tx_lt hT hp h59
      obtain ⟨g1, g2, -, g4⟩ := ih (p + 1) w2 lv2 st2 q J2 (by omega) (by omega) h1
      refine ⟨g1, by omega, fun _ => by omega, fun j h7 h8 => ?_⟩
      by_cases e : j = p
      · subst e; exact ⟨h123, h125⟩
      · exact g4 j (by omega) h8
    cases w with
    | true =>
      by_cases h0 : 48 ≤ T p ∧ T p ≤ 57
      · have hj0 : 0 < nd T 200 p := Nat.pos_of_ne_zero (fun e => nd_0.mp e h0)
        have hjn := nd_in hT hpn
        rw [sm_dig hp hj0] at hs
        by_cases h3 : nd T 200 p ≤ 3
        · rw [if_pos h3] at hs
          obtain ⟨K, h1, -⟩ := prep_some hs
          obtain ⟨g1, g2, -, g4⟩ := ih (p + nd T 200 p) false lv st q K (by omega) hjn h1
          refine ⟨g1, by omega, fun _ => by omega, fun j h7 h8 => ?_⟩
          rcases Nat.lt_or_ge j (p + nd T 200 p) with c | c
          · have hd := nd_dig (T := T) 200 p (j - p) (by omega)
            rw [show p + (j - p) = j by omega] at hd
            exact ⟨fun e => by rw [e] at hd; exact absurd hd.2 (by decide), fun e => by rw [e] at hd; exact absurd hd.2 (by decide)⟩
          · exact g4 j c h8
        · rw [if_neg h3] at hs
          cases hs
      by_cases hv : 97 ≤ T p ∧ T p ≤ 102
      · rw [sm_var hp hv] at hs
        obtain ⟨K, h1, -⟩ := prep_some hs
        exact one _ _ _ K (fun e => by rw [e] at hv; exact absurd hv (by decide)) (fun e => by rw [e] at hv; exact absurd hv (by decide)) (fun e => by rw [e] at hv; exact absurd hv (by decide)) h1
      by_cases h5 : 5 ≤ st.length
      · rw [sm_5 hp h0 hv h5] at hs
        cases hs
      by_cases h40 : T p = 40
      · rw [sm_open hp h40 (by omega)] at hs
        exact one _ _ _ _ (by rw [h40]; decide) (by rw [h40]; decide) (by rw [h40]; decide) hs
      by_cases hf : 65 ≤ T p ∧ T p ≤ 68
      · have hpn2 : p < n := tx_lt hT hp (fun e => by rw [e] at hf; exact absurd hf (by decide))
        have b0 : ¬ T p = 123 ∧ ¬ T p = 125 := ⟨fun e => by rw [e] at hf; exact absurd hf (by decide), fun e => by rw [e] at hf; exact absurd hf (by decide)⟩
        obtain ⟨f, hf4, hfc⟩ := fun_ix hf.1 (Int32.lt_of_le_of_lt hf.2 (by decide))
        rw [sm_fun hp hf4 hfc (by omega)] at hs
        by_cases c1 : ar f = -1 ∨ ¬ T (p + 1) = 40
        · rw [if_pos c1] at hs; cases hs
        rw [if_neg c1] at hs
        have c2 : T (p + 1) = 40 := Decidable.not_not.mp (fun z => c1 (Or.inr z))
        have hpn3 : p + 1 < n := tx_lt hT (by omega) (fun e => by rw [e] at c2; exact absurd c2 (by decide))
        by_cases c3 : ar f = 0
        · rw [if_pos c3] at hs
          by_cases c4 : T (p + 2) = 41
          · have hpn4 : p + 2 < n := tx_lt hT (by omega) (fun e => by rw [e] at c4; exact absurd c4 (by decide))
            rw [if_pos c4] at hs
            obtain ⟨K, h1, -⟩ := prep_some hs
            obtain ⟨g1, g2, -, g4⟩ := ih (p + 3) false lv st q K (by omega) hpn4 h1
            refine ⟨g1, by omega, fun _ => by omega, fun j h7 h8 => ?_⟩
            by_cases e0 : j = p
            · subst e0; exact b0
            by_cases e1 : j = p + 1
            · subst e1; rw [c2]; decide
            by_cases e2 : j = p + 2
            · subst e2; rw [c4]; decide
            exact g4 j (by omega) h8
          · rw [if_neg c4] at hs; cases hs
        · rw [if_neg c3] at hs
          obtain ⟨g1, g2, -, g4⟩ := ih (p + 2) true _ _ q J (by omega) hpn3 hs
          refine ⟨g1, by omega, fun _ => by omega, fun j h7 h8 => ?_⟩
          by_cases e0 : j = p
          · subst e0; exact b0
          by_cases e1 : j = p + 1
          · subst e1; rw [c2]; decide
          exact g4 j (by omega) h8
      · rw [sm_no hp h0 hv h40 hf] at hs
        cases hs
    | false =>
      by_cases ho : isOp (T p) = true
      · rw [sm_op hp ho] at hs
        obtain ⟨K, h1, -⟩ := prep_some hs
        exact one _ _ _ K (fun e => by rw [e] at ho; exact absurd ho (by decide)) (fun e => by rw [e] at ho; exact absurd ho (by decide)) (fun e => by rw [e] at ho; exact absurd ho (by decide)) h1
      cases st with
      | nil =>
        rw [sm_end hp ho] at hs
        obtain ⟨K, h1, -⟩ := prep_some hs
        cases h1
        exact ⟨hpn, Nat.le_refl _, fun z => (by cases z), fun j h7 h8 => absurd h8 (Nat.not_lt.mpr h7)⟩
      | cons l2 st =>
        by_cases c1 : T p = 41
        · rw [sm_close hp c1] at hs
          obtain ⟨K, h1, -⟩ := prep_some hs
          have n1 : ¬ T p = 59 ∧ ¬ T p = 123 ∧ ¬ T p = 125 := by rw [c1]; decide
          by_cases c2 : lv.1 = 1
          · rw [if_pos c2] at h1
            exact one _ _ _ _ n1.1 n1.2.1 n1.2.2 h1
          · rw [if_neg c2] at h1
            by_cases c3 : ar (lv.1 - 2) = nI (lv.2.1 + 1)
            · rw [if_pos c3] at h1
              obtain ⟨K2, h2, -⟩ := prep_some h1
              exact one _ _ _ _ n1.1 n1.2.1 n1.2.2 h2
            · rw [if_neg c3] at h1; cases h1
        by_cases c2 : T p = 44
        · rw [sm_comma hp c2] at hs
          obtain ⟨K, h1, -⟩ := prep_some hs
          have n1 : ¬ T p = 59 ∧ ¬ T p = 123 ∧ ¬ T p = 125 := by rw [c2]; decide
          by_cases c3 : ¬ lv.1 = 1 ∧ nI (lv.2.1 + 1) < ar (lv.1 - 2)
          · rw [if_pos c3] at h1
            exact one _ _ _ _ n1.1 n1.2.1 n1.2.2 h1
          · rw [if_neg c3] at h1; cases h1
        · rw [sm_bad hp ho c1 c2] at hs
          cases hs
end SB
/-- how many signs stand before a statement's expression -/
def sx (T : Nat → Int32) (p : Nat) : Nat := if 97 ≤ T p ∧ T p ≤ 102 then 2 else 1
/-- a statement's head at p: where it goes on and what block begins (0 none, 1 if, 2 while, 3 try) -/
def stS (ar T : Nat → Int32) (n p : Nat) : Option (Nat × Nat) :=
  if T p = 126 then (if T (p + 1) = 123 then some (p + 2, 3) else none)
  else if (97 ≤ T p ∧ T p ≤ 102 ∧ T (p + 1) = 61) ∨ isBe (T p) = true then
    match sm ar T (p + sx T p) true (0, 0, 0) [] with
    | none => none
    | some x => if T p = 63 ∨ T p = 64 then (if T x.1 = 123 then some (x.1 + 1, if T p = 63 then 1 else 2) else none) else (if T x.1 = 59 ∧ x.1 < n then some (x.1 + 1, 0) else none)
  else none
abbrev TB := (Nat → Int32) × (Nat → Int32) × (Nat → Int32) × Nat
/-- blocks: from p on inside the open blocks stk (their braces); tables: kinds, owners, lines, how many lines -/
def bm (ar T : Nat → Int32) (n p : Nat) (stk : List Nat) (τ : TB) : Option (Nat × TB) :=
  match stk with
  | [] => some (p, τ)
  | o :: st =>
    if hp : p < 152 then
      if T p = 125 then
        if τ.1 o = 3 then (if T (p + 1) = 123 then bm ar T n (p + 2) ((p + 1) :: st) (up τ.1 (p + 1) 4, up τ.2.1 (p + 1) (τ.2.1 o), τ.2.2) else none)
        else bm ar T n (p + 1) st τ
      else match stS ar T n p with
        | none => none
        | some x =>
          if hx : p < x.1 then
            if 40 ≤ τ.2.2.2 then none
            else if x.2 = 0 then bm ar T n x.1 (o :: st) (τ.1, τ.2.1, up τ.2.2.1 p (nI τ.2.2.2), τ.2.2.2 + 1)
            else if 6 ≤ st.length + 1 then none
            else bm ar T n x.1 ((x.1 - 1) :: o :: st) (up τ.1 (x.1 - 1) (nI x.2), up τ.2.1 (x.1 - 1) (nI p), up τ.2.2.1 p (nI τ.2.2.2), τ.2.2.2 + 1)
          else none
    else none
termination_by 152 - p
decreasing_by all_goals omega
section SC
variable {ar T : Nat → Int32} {n p o : Nat} {st : List Nat} {τ : TB}
theorem bm_nil : bm ar T n p [] τ = some (p, τ) := by rw [bm.eq_def ar T n p [] τ]
theorem bm_try (hp : p < 152) (h1 : T p = 125) (h3 : τ.1 o = 3) : bm ar T n p (o :: st) τ = if T (p + 1) = 123 then bm ar T n (p + 2) ((p + 1) :: st) (up τ.1 (p + 1) 4, up τ.2.1 (p + 1) (τ.2.1 o), τ.2.2) else none := by
  rw [bm.eq_def ar T n p (o :: st) τ]
  simp only [hp, h1, h3, dite_true, if_true]
theorem bm_close (hp : p < 152) (h1 : T p = 125) (h3 : ¬ τ.1 o = 3) : bm ar T n p (o :: st) τ = bm ar T n (p + 1) st τ := by
  rw [bm.eq_def ar T n p (o :: st) τ]
  simp only [hp, h1, h3, dite_true, if_true, if_false]
theorem bm_none (hp : p < 152) (h1 : ¬ T p = 125) (hs : stS ar T n p = none) : bm ar T n p (o :: st) τ = none := by
  rw [bm.eq_def ar T n p (o :: st) τ]
  simp only [hp, h1, hs, dite_true, if_false]
theorem bm_sim {q : Nat} (hp : p < 152) (h1 : ¬ T p = 125) (hs : stS ar T n p = some (q, 0)) (hq : p < q) : bm ar T n p (o :: st) τ = if 40 ≤ τ.2.2.2 then none else bm ar T n q (o :: st) (τ.1, τ.2.1, up τ.2.2.1 p (nI τ.2.2.2), τ.2.2.2 + 1) := by
  rw [bm.eq_def ar T n p (o :: st) τ]
  simp only [hp, h1, hs, hq, dite_true, if_true, if_false]
theorem bm_blk {q g : Nat} (hp : p < 152) (h1 : ¬ T p = 125) (hs : stS ar T n p = some (q + 1, g)) (hg : ¬ g = 0) (hq : p ≤ q) : bm ar T n p (o :: st) τ = if 40 ≤ τ.2.2.2 then none else if 6 ≤ st.length + 1 then none else bm ar T n (q + 1) (q :: o :: st) (up τ.1 q (nI g), up τ.2.1 q (nI p), up τ.2.2.1 p (nI τ.2.2.2), τ.2.2.2 + 1) := by
  rw [bm.eq_def ar T n p (o :: st) τ]
  simp only [hp, h1, hs, hg, show p < q + 1 from by omega, Nat.add_sub_cancel, dite_true, if_false]
end SC

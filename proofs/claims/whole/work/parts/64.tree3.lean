-- THE TREE of statements: the automaton of blocks and the scan of braces run along it
/-- the scan of braces -/
def hsc (T : Nat → Int32) (n p : Nat) (stk : List Nat) (Q : Nat → Int32) : Option (Nat × (Nat → Int32)) :=
  match stk with
  | [] => some (p, Q)
  | o :: st =>
    if hp : p < n then
      if T p = 123 then (if 6 ≤ st.length + 1 then none else hsc T n (p + 1) (p :: o :: st) Q)
      else if T p = 125 then hsc T n (p + 1) st (up (up Q p (nI o)) o (nI p))
      else hsc T n (p + 1) (o :: st) Q
    else none
termination_by n - p
decreasing_by all_goals omega
section SF
variable {ar T : Nat → Int32} {n : Nat}
theorem hsc_nil {p : Nat} {Q : Nat → Int32} : hsc T n p [] Q = some (p, Q) := by rw [hsc.eq_def T n p [] Q]
theorem hsc_open {p o : Nat} {st : List Nat} {Q : Nat → Int32} (hp : p < n) (h1 : T p = 123) : hsc T n p (o :: st) Q = if 6 ≤ st.length + 1 then none else hsc T n (p + 1) (p :: o :: st) Q := by
  rw [hsc.eq_def T n p (o :: st) Q]
  simp only [hp, h1, dite_true, if_true]
theorem hsc_close {p o : Nat} {st : List Nat} {Q : Nat → Int32} (hp : p < n) (h1 : T p = 125) : hsc T n p (o :: st) Q = hsc T n (p + 1) st (up (up Q p (nI o)) o (nI p)) := by
  rw [hsc.eq_def T n p (o :: st) Q]
  simp only [hp, h1, dite_true, if_true, show ((125 : Int32) = 123) = False from by decide, if_false]
theorem hsc_1 {p o : Nat} {st : List Nat} {Q : Nat → Int32} (hp : p < n) (h1 : ¬ T p = 123) (h2 : ¬ T p = 125) : hsc T n p (o :: st) Q = hsc T n (p + 1) (o :: st) Q := by
  rw [hsc.eq_def T n p (o :: st) Q]
  simp only [hp, h1, h2, dite_true, if_false]
theorem hsc_no {p o : Nat} {st : List Nat} {Q : Nat → Int32} (hp : ¬ p < n) : hsc T n p (o :: st) Q = none := by
  rw [hsc.eq_def T n p (o :: st) Q]
  simp only [hp, dite_false]
theorem hsc_skip {o : Nat} {st : List Nat} {Q : Nat → Int32} : ∀ (m p q : Nat), p + m = q → q ≤ n → (∀ j, p ≤ j → j < q → ¬ T j = 123 ∧ ¬ T j = 125) → hsc T n p (o :: st) Q = hsc T n q (o :: st) Q := by
  intro m
  induction m with
  | zero => intro p q hq hn hj; have : p = q := by omega
            subst this; rfl
  | succ m ih =>
    intro p q hq hn hj
    rw [hsc_1 (by omega) (hj p (by omega) (by omega)).1 (hj p (by omega) (by omega)).2]
    exact ih (p + 1) q (by omega) hn (fun j h1 h2 => hj j (by omega) h2)
/-- open braces, the innermost first -/
def Ds (T : Nat → Int32) : Nat → List Nat → Prop
  | _, [] => True
  | b, o :: st => o < b ∧ T o = 123 ∧ Ds T o st
theorem Ds_le {p q : Nat} {stk : List Nat} (h : Ds T p stk) (hpq : p ≤ q) : Ds T q stk := by
  cases stk with
  | nil => exact trivial
  | cons o st => exact ⟨by have := h.1; omega, h.2⟩
def Enc (T Q : Nat → Int32) (p : Nat) (stk : List Nat) : Prop := ∀ x, x < p → T x = 123 → (∃ c, Q x = nI c ∧ c < p) ∨ x ∈ stk
def Cl (Q : Nat → Int32) (e : Nat) (stk : List Nat) : Prop := ∀ x, x ∈ stk → ∃ c, Q x = nI c ∧ e ≤ c ∧ c < 152
def trF (T K Q : Nat → Int32) (p : Nat) : Nat → Int32
  | 0 => -1
  | m + 1 => if T m = 123 ∧ K m = 3 ∧ nI p < Q m then nI m else trF T K Q p m
def tin (K : Nat → Int32) : List Nat → Int32
  | [] => -1
  | o :: st => if K o = 3 then nI o else tin K st
theorem trF_tin {K Q : Nat → Int32} {p : Nat} (hp : p < 2 ^ 31) : ∀ (m : Nat) (stk : List Nat), Ds T m stk → (∀ x, x < m → T x = 123 → (∃ c, Q x = nI c ∧ c < p) ∨ x ∈ stk) → Cl Q (p + 1) stk → trF T K Q p m = tin K stk := by
  intro m
  induction m with
  | zero =>
    intro stk hD hE hC
    cases stk with
    | nil => rfl
    | cons o st => exact absurd hD.1 (Nat.not_lt_zero _)
  | succ m ih =>
    intro stk hD hE hC
    show (if T m = 123 ∧ K m = 3 ∧ nI p < Q m then nI m else trF T K Q p m) = _
    cases stk with
    | nil =>
      have hno : ¬ (T m = 123 ∧ K m = 3 ∧ nI p < Q m) := fun z => by
        rcases hE m (by omega) z.1 with ⟨c, h1, h2⟩ | h1
        · have z3 := z.2.2
          rw [h1] at z3
          have := (nI_ltI hp (by omega)).mp z3
          omega
        · cases h1
      rw [if_neg hno]
      exact ih [] trivial (fun x hx h1 => hE x (by omega) h1) hC
    | cons o st =>
      by_cases c : o = m
      · subst c
        obtain ⟨c, h1, h2, h3⟩ := hC o List.mem_cons_self
        have h4 : nI p < Q o := by rw [h1]; exact nI_lt (by omega) (by omega)
        by_cases c3 : K o = 3
        · rw [if_pos ⟨hD.2.1, c3, h4⟩]
          exact (if_pos c3).symm
        · rw [if_neg (fun z => c3 z.2.1)]
          show _ = if K o = 3 then nI o else tin K st
          rw [if_neg c3]
          refine ih st hD.2.2 (fun x hx h5 => ?_) (fun x hx => hC x (List.mem_cons_of_mem _ hx))
          rcases hE x (by omega) h5 with h6 | h6
          · exact Or.inl h6
          · rcases List.mem_cons.mp h6 with h7 | h7
            · omega
            · exact Or.inr h7
      · have hno : ¬ (T m = 123 ∧ K m = 3 ∧ nI p < Q m) := fun z => by
          rcases hE m (by omega) z.1 with ⟨c, h1, h2⟩ | h1
          · have z3 := z.2.2
            rw [h1] at z3
            have := (nI_ltI hp (by omega)).mp z3
            omega
          · have hmem : ∀ (b : Nat) (l : List Nat), Ds T b l → ∀ y, y ∈ l → y < b := by
              intro b l
              induction l generalizing b with
              | nil => intro _ y hy; cases hy
              | cons a l ih2 =>
                intro h y hy
                rcases List.mem_cons.mp hy with h7 | h7
                · rw [h7]; exact h.1
                · have := ih2 a h.2.2 y h7
                  have := h.1
                  omega
            rcases List.mem_cons.mp h1 with h7 | h7
            · exact c h7.symm
            · have h8 := hmem o st hD.2.2 m h7
              have := hD.1
              omega
        rw [if_neg hno]
        have h9 : o < m := by have := hD.1; omega
        exact ih (o :: st) ⟨h9, hD.2⟩ (fun x hx h1 => hE x (by omega) h1) hC
theorem stS_sim {p e : Nat} {J : List Int32} (h1 : (97 ≤ T p ∧ T p ≤ 102 ∧ T (p + 1) = 61) ∨ T p = 33 ∨ T p = 94 ∨ T p = 35) (h2 : sm ar T (p + sx T p) true (0, 0, 0) [] = some (e, J)) (h3 : T e = 59) (h4 : e < n) : stS ar T n p = some (e + 1, 0) := by
  have c1 : ¬ T p = 126 ∧ ¬ T p = 63 ∧ ¬ T p = 64 := by
    rcases h1 with h1 | h1 | h1 | h1
    · exact ⟨fun e => by rw [e] at h1; exact absurd h1.2.1 (by decide), fun e => by rw [e] at h1; exact absurd h1.1 (by decide), fun e => by rw [e] at h1; exact absurd h1.1 (by decide)⟩
    · rw [h1]; decide
    · rw [h1]; decide
    · rw [h1]; decide
  have c2 : (97 ≤ T p ∧ T p ≤ 102 ∧ T (p + 1) = 61) ∨ isBe (T p) = true := by
    rcases h1 with h1 | h1 | h1 | h1
    · exact Or.inl h1
    · exact Or.inr (by rw [h1]; decide)
    · exact Or.inr (by rw [h1]; decide)
    · exact Or.inr (by rw [h1]; decide)
  unfold stS
  rw [if_neg c1.1, if_pos c2, h2]
  show (if T p = 63 ∨ T p = 64 then _ else if T e = 59 ∧ e < n then some (e + 1, 0) else none) = _
  rw [if_neg (fun z => z.elim c1.2.1 c1.2.2), if_pos ⟨h3, h4⟩]
theorem sx_1 {p : Nat} (h1 : T p = 63 ∨ T p = 64) : sx T p = 1 := by
  unfold sx
  rw [if_neg (by rcases h1 with e | e <;> rw [e] <;> decide)]
theorem stS_grd {p b : Nat} {J : List Int32} (h1 : T p = 63 ∨ T p = 64) (h2 : sm ar T (p + 1) true (0, 0, 0) [] = some (b, J)) (h3 : T b = 123) : stS ar T n p = some (b + 1, if T p = 63 then 1 else 2) := by
  have c1 : ¬ T p = 126 := by rcases h1 with e | e <;> rw [e] <;> decide
  have c2 : (97 ≤ T p ∧ T p ≤ 102 ∧ T (p + 1) = 61) ∨ isBe (T p) = true := Or.inr (by rcases h1 with e | e <;> rw [e] <;> decide)
  unfold stS
  rw [if_neg c1, if_pos c2, sx_1 h1, h2]
  show (if T p = 63 ∨ T p = 64 then (if T b = 123 then some (b + 1, if T p = 63 then 1 else 2) else none) else _) = _
  rw [if_pos h1, if_pos h3]
theorem stS_try {p : Nat} (h1 : T p = 126) (h2 : T (p + 1) = 123) : stS ar T n p = some (p + 1 + 1, 3) := by
  unfold stS
  rw [if_pos h1, if_pos h2]
end SF

-- THE SPEC of an expression: an automaton over the text's signs
/-- how many digits stand from p on -/
def nd (T : Nat → Int32) : Nat → Nat → Nat
  | 0, _ => 0
  | f + 1, p => if 48 ≤ T p ∧ T p ≤ 57 then nd T f (p + 1) + 1 else 0
theorem nd_le {T : Nat → Int32} : ∀ (f p : Nat), nd T f p ≤ f := by
  intro f
  induction f with
  | zero => exact fun p => Nat.le_refl _
  | succ f ih =>
    intro p
    show (if 48 ≤ T p ∧ T p ≤ 57 then nd T f (p + 1) + 1 else 0) ≤ f + 1
    split
    · exact Nat.succ_le_succ (ih (p + 1))
    · exact Nat.zero_le _
theorem nd_dig {T : Nat → Int32} : ∀ (f p j : Nat), j < nd T f p → isDg (T (p + j)) := by
  intro f
  induction f with
  | zero => intro p j hj; exact absurd hj (Nat.not_lt_zero _)
  | succ f ih =>
    intro p j hj
    have e : nd T (f + 1) p = if 48 ≤ T p ∧ T p ≤ 57 then nd T f (p + 1) + 1 else 0 := rfl
    by_cases c : 48 ≤ T p ∧ T p ≤ 57
    · rw [if_pos c] at e
      cases j with
      | zero => exact c
      | succ j =>
        have := ih (p + 1) j (by omega)
        rw [show p + (j + 1) = p + 1 + j by omega]
        exact this
    · rw [if_neg c] at e
      omega
theorem nd_end {T : Nat → Int32} : ∀ (f p : Nat), nd T f p < f → ¬ isDg (T (p + nd T f p)) := by
  intro f
  induction f with
  | zero => intro p hj; exact absurd hj (Nat.not_lt_zero _)
  | succ f ih =>
    intro p hj
    have e : nd T (f + 1) p = if 48 ≤ T p ∧ T p ≤ 57 then nd T f (p + 1) + 1 else 0 := rfl
    by_cases c : 48 ≤ T p ∧ T p ≤ 57
    · rw [if_pos c] at e
      rw [e, show p + (nd T f (p + 1) + 1) = p + 1 + nd T f (p + 1) by omega]
      exact ih (p + 1) (by omega)
    · rw [if_neg c] at e
      rw [e]
      exact c
/-- a text: n signs that can be typed, ';' behind them -/
def TX (T : Nat → Int32) (n : Nat) : Prop := n ≤ 150 ∧ (∀ p, p < n → 32 ≤ T p ∧ T p ≤ 126) ∧ ∀ p, n ≤ p → p < 152 → T p = 59
theorem tx_lt {T : Nat → Int32} {n p : Nat} (hT : TX T n) (hp : p < 152) (hc : ¬ T p = 59) : p < n := by
  rcases Nat.lt_or_ge p n with h1 | h1
  · exact h1
  · exact absurd (hT.2.2 p h1 hp) hc
theorem nd_in {T : Nat → Int32} {n p : Nat} (hT : TX T n) (hp : p ≤ n) : p + nd T 200 p ≤ n := by
  rcases Nat.lt_or_ge n (p + nd T 200 p) with h1 | h1
  · have h2 := nd_dig (T := T) 200 p (n - p) (by omega)
    rw [show p + (n - p) = n by omega, hT.2.2 n (Nat.le_refl _) (by have := hT.1; omega)] at h2
    exact absurd h2.2 (by decide)
  · exact h1
theorem nd_no {T : Nat → Int32} {n p : Nat} (hT : TX T n) (hp : p ≤ n) : ¬ isDg (T (p + nd T 200 p)) := nd_end 200 p (by have := nd_in hT hp; have := hT.1; omega)
theorem nd_0 {T : Nat → Int32} {p : Nat} : nd T 200 p = 0 ↔ ¬ (48 ≤ T p ∧ T p ≤ 57) := by
  have e : nd T 200 p = if 48 ≤ T p ∧ T p ≤ 57 then nd T 199 (p + 1) + 1 else 0 := rfl
  rw [e]
  split
  · next c => exact ⟨fun z => by omega, fun z => absurd c z⟩
  · next c => exact ⟨fun _ => c, fun _ => rfl⟩
abbrev LV := Nat × Nat × Int32
abbrev SE := Option (Nat × List Int32)
def prep (J : List Int32) (r : SE) : SE := r.map (fun x => (x.1, J ++ x.2))
def opI (op : Int32) : List Int32 := if op = 0 then [] else [iw 3 op]
def fx (c : Int32) : Nat := (c - 65).toNatClampNeg
/-- from the place p on; w: a term is wanted, else a value is there; lv: the innermost bracket (0 none, 1 a bracket, 2 + f a call of f; arguments before; the operator that waits), st: those around it -/
def sm (ar : Nat → Int32) (T : Nat → Int32) (p : Nat) (w : Bool) (lv : LV) (st : List LV) : SE :=
  if hp : p < 152 then
    if w = true then
      if h0 : nd T 200 p = 0 then
        if 97 ≤ T p ∧ T p ≤ 102 then prep [iw 2 (T p - 97)] (sm ar T (p + 1) false lv st)
        else if 5 ≤ st.length then none
        else if T p = 40 then sm ar T (p + 1) true (1, 0, 0) (lv :: st)
        else if 65 ≤ T p ∧ T p ≤ 68 then
          if ar (fx (T p)) = -1 ∨ ¬ T (p + 1) = 40 then none
          else if ar (fx (T p)) = 0 then (if T (p + 2) = 41 then prep [iw 4 (nI (fx (T p)))] (sm ar T (p + 3) false lv st) else none)
          else sm ar T (p + 2) true (2 + fx (T p), 0, 0) (lv :: st)
        else none
      else if nd T 200 p ≤ 3 then prep [iw 1 (dvI T p (nd T 200 p))] (sm ar T (p + nd T 200 p) false lv st) else none
    else prep (opI lv.2.2)
      (if isOp (T p) = true then sm ar T (p + 1) true (lv.1, lv.2.1, T p) st
       else match st with
        | [] => some (p, [])
        | l2 :: st2 =>
          if T p = 41 then
            (if lv.1 = 1 then sm ar T (p + 1) false l2 st2
             else if ar (lv.1 - 2) = nI (lv.2.1 + 1) then prep [iw 4 (nI (lv.1 - 2))] (sm ar T (p + 1) false l2 st2) else none)
          else if T p = 44 ∧ ¬ lv.1 = 1 ∧ nI (lv.2.1 + 1) < ar (lv.1 - 2) then sm ar T (p + 1) true (lv.1, lv.2.1 + 1, 0) (l2 :: st2)
          else none)
  else none
termination_by 152 - p
decreasing_by all_goals omega
section SA
variable {ar T : Nat → Int32} {p : Nat} {lv l2 : LV} {st : List LV}
theorem sm_dig (hp : p < 152) (h0 : 0 < nd T 200 p) : sm ar T p true lv st = if nd T 200 p ≤ 3 then prep [iw 1 (dvI T p (nd T 200 p))] (sm ar T (p + nd T 200 p) false lv st) else none := by
  rw [sm.eq_def ar T p true lv st, dif_pos hp, if_pos rfl, dif_neg (by omega)]
theorem sm_var (hp : p < 152) (hc : 97 ≤ T p ∧ T p ≤ 102) : sm ar T p true lv st = prep [iw 2 (T p - 97)] (sm ar T (p + 1) false lv st) := by
  have h0 : nd T 200 p = 0 := nd_0.mpr (fun z => absurd (Int32.le_trans hc.1 z.2) (by decide))
  rw [sm.eq_def ar T p true lv st, dif_pos hp, if_pos rfl, dif_pos h0, if_pos hc]
theorem sm_5 (hp : p < 152) (h0 : ¬ (48 ≤ T p ∧ T p ≤ 57)) (hc : ¬ (97 ≤ T p ∧ T p ≤ 102)) (h5 : 5 ≤ st.length) : sm ar T p true lv st = none := by
  rw [sm.eq_def ar T p true lv st, dif_pos hp, if_pos rfl, dif_pos (nd_0.mpr h0), if_neg hc, if_pos h5]
theorem sm_open (hp : p < 152) (hc : T p = 40) (h5 : st.length < 5) : sm ar T p true lv st = sm ar T (p + 1) true (1, 0, 0) (lv :: st) := by
  rw [sm.eq_def ar T p true lv st, dif_pos hp, if_pos rfl, dif_pos (nd_0.mpr (by rw [hc]; decide)), if_neg (by rw [hc]; decide), if_neg (by omega), if_pos hc]
theorem fx_f {f : Nat} (hf : f < 4) : fx (nI (65 + f)) = f := by
  unfold fx
  rw [show (65 : Int32) = nI 65 from rfl, pk_sub (by omega), show 65 + f - 65 = f by omega, nI_cl (by omega)]
theorem sm_fun {f : Nat} (hp : p < 152) (hf : f < 4) (hc : T p = nI (65 + f)) (h5 : st.length < 5) : sm ar T p true lv st = if ar f = -1 ∨ ¬ T (p + 1) = 40 then none else if ar f = 0 then (if T (p + 2) = 41 then prep [iw 4 (nI f)] (sm ar T (p + 3) false lv st) else none) else sm ar T (p + 2) true (2 + f, 0, 0) (lv :: st) := by
  have h3 : ¬ (48 ≤ T p ∧ T p ≤ 57) := by rw [hc]; exact fun z => absurd z.2 (nI_ge (a := 57) (b := 65 + f) (by omega) (by omega))
  have h4 : ¬ (97 ≤ T p ∧ T p ≤ 102) := by rw [hc]; exact fun z => absurd z.1 (nI_ge (b := 97) (a := 65 + f) (by omega) (by decide))
  have h7 : ¬ T p = 40 := by rw [hc]; exact fun e => by have := (nI_eq (a := 65 + f) (b := 40) (by omega) (by decide)).mp e; omega
  have h6 : 65 ≤ T p ∧ T p ≤ 68 := by rw [hc]; exact ⟨nI_le (a := 65) (by omega) (by omega), nI_le (b := 68) (by omega) (by decide)⟩
  rw [sm.eq_def ar T p true lv st, dif_pos hp, if_pos rfl, dif_pos (nd_0.mpr h3), if_neg h4, if_neg (by omega), if_neg h7, if_pos h6, hc, fx_f hf]
theorem sm_no (hp : p < 152) (h0 : ¬ (48 ≤ T p ∧ T p ≤ 57)) (hc : ¬ (97 ≤ T p ∧ T p ≤ 102)) (h40 : ¬ T p = 40) (hf : ¬ (65 ≤ T p ∧ T p ≤ 68)) : sm ar T p true lv st = none := by
  rw [sm.eq_def ar T p true lv st, dif_pos hp, if_pos rfl, dif_pos (nd_0.mpr h0), if_neg hc]
  by_cases c : 5 ≤ st.length
  · rw [if_pos c]
  · rw [if_neg c, if_neg h40, if_neg hf]
theorem sm_op (hp : p < 152) (hc : isOp (T p) = true) : sm ar T p false lv st = prep (opI lv.2.2) (sm ar T (p + 1) true (lv.1, lv.2.1, T p) st) := by
  rw [sm.eq_def ar T p false lv st, dif_pos hp, if_neg (by decide), if_pos hc]
theorem sm_end (hp : p < 152) (hc : ¬ isOp (T p) = true) : sm ar T p false lv [] = prep (opI lv.2.2) (some (p, [])) := by
  rw [sm.eq_def ar T p false lv [], dif_pos hp, if_neg (by decide), if_neg hc]
theorem sm_close (hp : p < 152) (hc : T p = 41) : sm ar T p false lv (l2 :: st) = prep (opI lv.2.2) (if lv.1 = 1 then sm ar T (p + 1) false l2 st else if ar (lv.1 - 2) = nI (lv.2.1 + 1) then prep [iw 4 (nI (lv.1 - 2))] (sm ar T (p + 1) false l2 st) else none) := by
  rw [sm.eq_def ar T p false lv (l2 :: st), dif_pos hp, if_neg (by decide), if_neg (by rw [hc]; decide)]
  simp only [hc, if_true]
theorem sm_comma (hp : p < 152) (hc : T p = 44) : sm ar T p false lv (l2 :: st) = prep (opI lv.2.2) (if ¬ lv.1 = 1 ∧ nI (lv.2.1 + 1) < ar (lv.1 - 2) then sm ar T (p + 1) true (lv.1, lv.2.1 + 1, 0) (l2 :: st) else none) := by
  rw [sm.eq_def ar T p false lv (l2 :: st), dif_pos hp, if_neg (by decide), if_neg (by rw [hc]; decide)]
  simp only [hc, true_and, show ((44 : Int32) = 41) = False from by decide, if_false]
theorem sm_bad (hp : p < 152) (hc : ¬ isOp (T p) = true) (h1 : ¬ T p = 41) (h2 : ¬ T p = 44) : sm ar T p false lv (l2 :: st) = none := by
  rw [sm.eq_def ar T p false lv (l2 :: st), dif_pos hp, if_neg (by decide), if_neg hc]
  simp only [h1, h2, false_and, if_false]
  rfl
theorem sm_hi {w : Bool} (hp : 152 ≤ p) : sm ar T p w lv st = none := by
  rw [sm.eq_def ar T p w lv st, dif_neg (by omega)]
theorem prep_some {J : List Int32} {r : SE} {x : Nat × List Int32} (h : prep J r = some x) : ∃ K, r = some (x.1, K) ∧ x.2 = J ++ K := by
  cases r with
  | none => cases h
  | some y => cases h; exact ⟨y.2, rfl, rfl⟩
theorem prep_none {J : List Int32} {r : SE} : prep J r = none ↔ r = none := by
  cases r with
  | none => exact ⟨fun _ => rfl, fun _ => rfl⟩
  | some y => exact ⟨fun z => (by cases z), fun z => (by cases z)⟩
theorem prep_nil {r : SE} : prep [] r = r := by
  cases r with
  | none => rfl
  | some y => rfl
theorem prep_prep {J K : List Int32} {r : SE} : prep J (prep K r) = prep (J ++ K) r := by
  cases r with
  | none => rfl
  | some y => show some (y.1, J ++ (K ++ y.2)) = some (y.1, J ++ K ++ y.2); rw [List.append_assoc]
/-- only where it ends counts -/
def smE (r : SE) : Option Nat := r.map (·.1)
theorem smE_prep {J : List Int32} {r : SE} : smE (prep J r) = smE r := by
  cases r with
  | none => rfl
  | some y => rfl
end SA

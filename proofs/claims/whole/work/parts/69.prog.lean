-- THE SPEC of a program; the link of the translator's functions
def upN (f : Nat → Nat) (k v : Nat) : Nat → Nat := fun j => if j = k then v else f j
/-- the heads of the functions from p on: bodies, parameters, partners of braces -/
def hds (T : Nat → Int32) (n p : Nat) (bd : Nat → Nat) (ay Q : Nat → Int32) : Option ((Nat → Nat) × (Nat → Int32) × (Nat → Int32)) :=
  if hp : p < n then
    if 65 ≤ T p ∧ T p ≤ 68 ∧ bd (fx (T p)) = 0 ∧ 48 ≤ T (p + 1) ∧ T (p + 1) ≤ 51 ∧ T (p + 2) = 123 then
      match hsc T n (p + 3) [p + 2] Q with
      | none => none
      | some x => if hx : p < x.1 then hds T n x.1 (upN bd (fx (T p)) (p + 2)) (up ay (fx (T p)) (T (p + 1) - 48)) x.2 else none
    else none
  else some (bd, ay, Q)
termination_by n - p
decreasing_by all_goals omega
/-- the blocks of the functions, one after the other -/
def pgm (ar T : Nat → Int32) (n : Nat) : Nat → Nat → TB → Option TB
  | 0, p, τ => if p < n then none else some τ
  | m + 1, p, τ => if p < n then (match bm ar T n (p + 3) [p + 2] (up τ.1 (p + 2) 0, τ.2) with
    | none => none
    | some x => pgm ar T n m x.1 x.2) else some τ
/-- a function's body with all tables: instructions I, handlers H, starts S, kinds K, owners W, lines Z, partners V -/
def FB (ar T : Nat → Int32) (n : Nat) (I H S K W Z V : Nat → Int32) (bd : Nat → Nat) (sz ln f : Nat) : Prop := ∃ e i j l m fu : Nat, 0 < bd f ∧ T (bd f) = 123 ∧ S f = nI i ∧ SL ar T n (XSf T K Z V) (XBf K W V) I H fu 5 (bd f + 1) e i j l m (-1) (-1) ∧ T e = 125 ∧ K (bd f) = 0 ∧ V (bd f) = nI e ∧ V e = nI (bd f) ∧ I j = iw 1 0 ∧ I (j + 1) = iw 0 0 ∧ m ≤ ln ∧ j + 2 ≤ sz
section PA
variable {s t u : TS} {n p : Nat} {tx ar T : Nat → Int32} {bd : Nat → Nat} {ay Q : Nat → Int32} {τ : TB}
theorem hds_end (hp : ¬ p < n) : hds T n p bd ay Q = some (bd, ay, Q) := by
  rw [hds.eq_def T n p bd ay Q, dif_neg hp]
theorem hds_no (hp : p < n) (hc : ¬ (65 ≤ T p ∧ T p ≤ 68 ∧ bd (fx (T p)) = 0 ∧ 48 ≤ T (p + 1) ∧ T (p + 1) ≤ 51 ∧ T (p + 2) = 123)) : hds T n p bd ay Q = none := by
  rw [hds.eq_def T n p bd ay Q, dif_pos hp, if_neg hc]
theorem hds_none (hp : p < n) (hc : 65 ≤ T p ∧ T p ≤ 68 ∧ bd (fx (T p)) = 0 ∧ 48 ≤ T (p + 1) ∧ T (p + 1) ≤ 51 ∧ T (p + 2) = 123) (hx : hsc T n (p + 3) [p + 2] Q = none) : hds T n p bd ay Q = none := by
  rw [hds.eq_def T n p bd ay Q, dif_pos hp, if_pos hc, hx]
theorem hds_some {q : Nat} {R : Nat → Int32} (hp : p < n) (hc : 65 ≤ T p ∧ T p ≤ 68 ∧ bd (fx (T p)) = 0 ∧ 48 ≤ T (p + 1) ∧ T (p + 1) ≤ 51 ∧ T (p + 2) = 123) (hx : hsc T n (p + 3) [p + 2] Q = some (q, R)) (hq : p < q) : hds T n p bd ay Q = hds T n q (upN bd (fx (T p)) (p + 2)) (up ay (fx (T p)) (T (p + 1) - 48)) R := by
  rw [hds.eq_def T n p bd ay Q, dif_pos hp, if_pos hc, hx]
  show (if hx : p < q then _ else none) = _
  rw [dif_pos hq]
theorem pgm_1 {m q : Nat} {u : TB} (hp : p < n) (hx : bm ar T n (p + 3) [p + 2] (up τ.1 (p + 2) 0, τ.2) = some (q, u)) : pgm ar T n (m + 1) p τ = pgm ar T n m q u := by
  show (if p < n then (match bm ar T n (p + 3) [p + 2] (up τ.1 (p + 2) 0, τ.2) with
    | none => none
    | some x => pgm ar T n m x.1 x.2) else some τ) = _
  rw [if_pos hp, hx]
theorem pgm_none {m : Nat} (hp : p < n) (hx : bm ar T n (p + 3) [p + 2] (up τ.1 (p + 2) 0, τ.2) = none) : pgm ar T n (m + 1) p τ = none := by
  show (if p < n then (match bm ar T n (p + 3) [p + 2] (up τ.1 (p + 2) 0, τ.2) with
    | none => none
    | some x => pgm ar T n m x.1 x.2) else some τ) = _
  rw [if_pos hp, hx]
theorem pgm_end {m : Nat} (hp : ¬ p < n) : pgm ar T n m p τ = some τ := by
  cases m with
  | zero => exact if_neg hp
  | succ m => exact if_neg hp
theorem dig_ix {c : Int32} (h1 : 48 ≤ c) (h2 : c ≤ 51) : ∃ a, a ≤ 3 ∧ c = nI (48 + a) := by
  obtain ⟨j, hj, rfl⟩ := nI_of2 (x := c) (M := 51) (n := 51) (by decide) (Int32.not_lt.mpr (Int32.le_trans (by decide) h1)) h2
  have h3 : 48 ≤ j := by
    rcases Nat.lt_or_ge j 48 with q | q
    · exact absurd h1 (nI_ge (b := 48) q (by decide))
    · exact q
  exact ⟨j - 48, by omega, by congr 1; omega⟩
/-- the state in which a function's block is read -/
def fS (f a : Nat) (s : TS) : TS := sPS f (nI a) (nI s.2.1) (sAt (s.1 + 2) s)
def fE (r : TS) : TS := cEmit 0 0 (cEmit 1 0 r)
theorem fun_inv (hTC : TC T tx n) (h1 : (cFun n tx s).1 = true) : ∃ f a, f < 4 ∧ a ≤ 3 ∧ s.1 + 1 < n ∧ T s.1 = nI (65 + f) ∧ T (s.1 + 1) = nI (48 + a) ∧ aP s f = -1 ∧ (cB n tx 6 (fS f a s)).1 = true ∧ (cFun n tx s).2 = fE (cB n tx 6 (fS f a s)).2 := by
  have hn := hTC.1
  unfold cFun at h1 ⊢
  by_cases c1 : pk n tx s.1 - 65 < 0 ∨ 4 ≤ pk n tx s.1 - 65 ∨ ¬ aP s (pk n tx s.1 - 65).toNatClampNeg = -1
  · rw [if_pos c1] at h1; cases h1
  rw [if_neg c1] at h1 ⊢
  by_cases c2 : pk n tx (s.1 + 1) - 48 < 0 ∨ 3 < pk n tx (s.1 + 1) - 48
  · rw [if_pos c2] at h1; cases h1
  rw [if_neg c2] at h1 ⊢
  have hp1 := fun_in (s := s) (n := n) (tx := tx) (fun z => c2 (Or.inl z))
  have hp : s.1 < n := by omega
  obtain ⟨f, hf, ef⟩ := nI_of2 (x := pk n tx s.1 - 65) (M := 3) (n := 3) (by decide) (fun z => c1 (Or.inl z)) ((c_lt (k := 3) (by decide)).mp (Int32.not_le.mp (fun z => c1 (Or.inr (Or.inl z)))))
  obtain ⟨a, ha, ea⟩ := nI_of2 (x := pk n tx (s.1 + 1) - 48) (M := 3) (n := 3) (by decide) (fun z => c2 (Or.inl z)) (Int32.not_lt.mp (fun z => c2 (Or.inr z)))
  have eP : ¬ ¬ aP s f = -1 := fun z => c1 (Or.inr (Or.inr (by rw [ef, nI_cl (by omega)]; exact z)))
  have e1 : T s.1 = nI (65 + f) := by
    rw [← pk_tin hTC hp, ← nI_add, ← ef, show nI 65 = 65 from rfl, Int32.add_comm, Int32.sub_add_cancel]
  have e2 : T (s.1 + 1) = nI (48 + a) := by
    rw [← pk_tin hTC hp1, ← nI_add, ← ea, show nI 48 = 48 from rfl, Int32.add_comm, Int32.sub_add_cancel]
  rw [ef, ea, nI_cl (show f < 2 ^ 31 by omega)] at h1 ⊢
  by_cases c3 : (cB n tx 6 (sPS f (nI a) (nI s.2.1) (sAt (s.1 + 1 + 1) s))).1 = true
  · rw [if_pos c3]
    exact ⟨f, a, by omega, ha, hp1, e1, e2, Decidable.not_not.mp eP, c3, rfl⟩
  · rw [if_neg c3] at h1
    exact absurd h1 c3
theorem fun_go (hTC : TC T tx n) {f a : Nat} (hf : f < 4) (ha : a ≤ 3) (hp : s.1 + 1 < n) (e1 : T s.1 = nI (65 + f)) (e2 : T (s.1 + 1) = nI (48 + a)) (hP : aP s f = -1) (h3 : (cB n tx 6 (fS f a s)).1 = true) : cFun n tx s = (true, fE (cB n tx 6 (fS f a s)).2) := by
  have d1 : pk n tx s.1 - 65 = nI f := by rw [pk_tin hTC (by omega), e1, show (65 : Int32) = nI 65 from rfl, pk_sub (by omega)]; congr 1; omega
  have d2 : pk n tx (s.1 + 1) - 48 = nI a := by rw [pk_tin hTC hp, e2, show (48 : Int32) = nI 48 from rfl, pk_sub (by omega)]; congr 1; omega
  unfold cFun
  rw [d1, d2, nI_cl (show f < 2 ^ 31 by omega), if_neg (fun z => by
    rcases z with z | z | z
    · exact absurd z (nI_pos (by omega))
    · exact absurd z (nI_ge (b := 4) hf (by decide))
    · exact z hP), if_neg (fun z => by
    rcases z with z | z
    · exact absurd z (nI_pos (by omega))
    · exact absurd z (Int32.not_lt.mpr (nI_le (b := 3) ha (by decide))))]
  rw [show (cB n tx 6 (sPS f (nI a) (nI s.2.1) (sAt (s.1 + 1 + 1) s))) = cB n tx 6 (fS f a s) from rfl, if_pos h3]
  rfl
end PA

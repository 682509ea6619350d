-- the translator: its parameters while it reads blocks; what fits
section QA
variable {s t : TS} {n : Nat} {tx ar : Nat → Int32} {E B St Tm : TS → Bool × TS}
def NP (E : TS → Bool × TS) : Prop := ∀ s : TS, aP (E s).2 = aP s
theorem emit_P {op x : Int32} : aP (cEmit op x s) = aP s := by
  obtain ⟨a, z, l, I, H, S, P, A⟩ := s
  show aP (if z < 151 then (a, z + 1, l, up I z (iw op x), up H z (-1), S, P, A) else (a, z, l, I, H, S, P, A) : TS) = P
  split <;> rfl
theorem takes_P {c : Int32} : aP (cTakes n tx c s).2 = aP s := by
  by_cases h1 : s.1 < n ∧ tx s.1 = c
  · rw [cTakes_t h1]; rfl
  · rw [cTakes_f h1]
theorem call_P {f cnt : Nat} : aP (cCall f cnt s).2 = aP s := by
  unfold cCall
  split
  · exact emit_P
  · rfl
theorem np_argl {f : Nat} (hE : NP E) : ∀ (m cnt : Nat) (s : TS), aP (cArgL n tx E f m cnt s).2 = aP s := by
  intro m
  induction m with
  | zero => intro cnt s; rfl
  | succ m ih =>
    intro cnt s
    unfold cArgL
    split
    · split
      · rw [ih, takes_P, hE]
      · split
        · rw [call_P, takes_P, takes_P, hE]
        · rw [takes_P, takes_P, hE]
    · exact hE s
theorem np_args {f : Nat} (hE : NP E) : NP (cArgs n tx E f) := by
  intro s
  unfold cArgs
  split
  · rw [call_P, takes_P]
  · rw [np_argl hE, takes_P]
theorem num_P : ∀ (m : Nat) (v : Int32) (s : TS), aP (cNum n tx m v s) = aP s := by
  intro m
  induction m with
  | zero => exact fun v s => emit_P
  | succ m ih =>
    intro v s
    unfold cNum
    split
    · rw [ih]; rfl
    · exact emit_P
theorem np_term {k : Nat} (hE : NP E) : NP (cTerm n tx E k) := by
  intro s
  unfold cTerm
  split
  · exact num_P 3 0 s
  split
  · rw [emit_P]; rfl
  split
  · split
    · rfl
    · split
      · rw [np_args hE, takes_P]; rfl
      · rw [takes_P]; rfl
  split
  · split
    · rw [takes_P, hE]; rfl
    · rw [hE]; rfl
  · rfl
theorem np_loop (hM : NP Tm) : ∀ (m : Nat) (s : TS), aP (cLoop n tx Tm m s).2 = aP s := by
  intro m
  induction m with
  | zero => intro s; rfl
  | succ m ih =>
    intro s
    unfold cLoop
    split
    · split
      · rw [ih, emit_P, hM]; rfl
      · rw [hM]; rfl
    · rfl
theorem np_ex (hM : NP Tm) : NP (cEx n tx Tm) := by
  intro s
  unfold cEx
  split
  · rw [np_loop hM, hM]
  · exact hM s
theorem np_E : ∀ k, NP (cE n tx k) := by
  intro k
  induction k with
  | zero => exact np_ex (np_term (fun s => rfl))
  | succ k ih => exact np_ex (np_term ih)
theorem aim_P {j : Nat} : aP (cAim j s) = aP s := by
  obtain ⟨a, z, l, I, H, S, P, A⟩ := s
  show aP (if j < z then (a, z, l, up I j ((I j &&& (15 : Int32)) ||| (nI z <<< ((4 : Int32) &&& 31))), H, S, P, A) else (a, z, l, I, H, S, P, A) : TS) = P
  split <;> rfl
theorem end_P {c : Int32} : aP (cEnd c s) = aP s := by
  unfold cEnd
  split
  · exact emit_P
  split
  · exact emit_P
  split
  · exact emit_P
  · exact emit_P
theorem np_grd {ag : Bool} {pt : Nat} (hM : NP B) : NP (cGrd B ag pt) := by
  intro s
  unfold cGrd
  split
  · show aP (cAim s.2.1 (if ag then cEmit 10 (nI pt) (B (cEmit 9 0 s)).2 else (B (cEmit 9 0 s)).2)) = aP s
    rw [aim_P]
    cases ag with
    | true => rw [if_pos rfl, emit_P, hM, emit_P]
    | false => rw [if_neg (by decide), hM, emit_P]
  · rw [hM, emit_P]
theorem np_try (hM : NP B) : NP (cTry B) := by
  intro s
  unfold cTry
  split
  · unfold cTr2
    have e0 : aP (cCat s.2.1 (B s).2.2.1 (cEmit 10 0 (B s).2)) = aP s := by
      show aP (cEmit 10 0 (B s).2) = aP s
      rw [emit_P, hM]
    split
    · show aP (cAim _ _) = _
      rw [aim_P, hM, e0]
    · rw [hM, e0]
  · exact hM s
theorem np_st3 {c : Int32} {pt : Nat} (hM : NP B) : NP (cSt3 n tx B c pt) := by
  intro s
  unfold cSt3
  split
  · split
    · rw [np_grd hM, np_E]
    · rw [takes_P, end_P, np_E]
  · exact np_E 5 s
theorem np_st (hM : NP B) : NP (cSt n tx B) := by
  intro s
  unfold cSt
  split
  · rfl
  · have e : aP (sLn (s.2.2.1 + 1) (cEmit 5 (nI s.2.2.1) (sAt (s.1 + 1) s))) = aP s := (emit_P (s := sAt (s.1 + 1) s))
    unfold cSt2
    split
    · rw [np_try hM, e]
    split
    · split
      · rw [np_st3 hM, takes_P, e]
      · rw [takes_P, e]
    split
    · rw [np_st3 hM, e]
    · exact e
theorem np_blkl (hM : NP St) : ∀ (m : Nat) (s : TS), aP (cBlkL n tx St m s).2 = aP s := by
  intro m
  induction m with
  | zero => intro s; rfl
  | succ m ih =>
    intro s
    unfold cBlkL
    split
    · rfl
    split
    · rw [ih, hM]
    · exact hM s
theorem np_B : ∀ k, NP (cB n tx k) := by
  intro k
  induction k with
  | zero => exact fun s => rfl
  | succ k ih =>
    intro s
    show aP (if s.1 < n ∧ tx s.1 = 123 then cBlkL n tx (cSt n tx (cB n tx k)) 41 (sAt (s.1 + 1) s) else (false, s)).2 = aP s
    split
    · rw [np_blkl (np_st ih)]; rfl
    · rfl
theorem progl_P {T : Nat → Int32} (hTC : TC T tx n) : ∀ (m : Nat) (s : TS), Ars (aP s) → (cProgL n tx m s).1 = true → Ars (aP (cProgL n tx m s).2) := by
  intro m
  induction m with
  | zero => exact fun s h _ => h
  | succ m ih =>
    intro s hA h1
    have hun : cProgL n tx (m + 1) s = if s.1 < n then (if (cFun n tx s).1 then cProgL n tx m (cFun n tx s).2 else cFun n tx s) else (true, s) := rfl
    rw [hun] at h1 ⊢
    by_cases c : s.1 < n
    · rw [if_pos c] at h1 ⊢
      by_cases c2 : (cFun n tx s).1 = true
      · rw [if_pos c2] at h1 ⊢
        refine ih _ ?_ h1
        obtain ⟨f, a, hf, ha, hp, e1, e2, hP, h3, h4⟩ := fun_inv hTC c2
        rw [h4]
        have e : aP (fE (cB n tx 6 (fS f a s)).2) = up (aP s) f (nI a) := by
          show aP (cEmit 0 0 (cEmit 1 0 _)) = _
          rw [emit_P, emit_P, np_B]
          rfl
        rw [e]
        intro g hg
        by_cases cg : g = f
        · subst cg; rw [up_eq]; exact Or.inr ⟨a, ha, rfl⟩
        · rw [up_ne cg]; exact hA g hg
      · rw [if_neg c2] at h1
        exact absurd h1 c2
    · rw [if_neg c]; exact hA
theorem fit_l {A W : Nat → Int32} : ∀ (m i : Nat), cFitL A W m i = true ↔ ∀ f, i ≤ f → f < i + m → A f = -1 ∨ A f = W f := by
  intro m
  induction m with
  | zero => exact fun i => ⟨fun _ f h1 h2 => by omega, fun _ => rfl⟩
  | succ m ih =>
    intro i
    show (if A i = -1 ∨ A i = W i then cFitL A W m (i + 1) else false) = true ↔ _
    by_cases c : A i = -1 ∨ A i = W i
    · rw [if_pos c, ih]
      refine ⟨fun h f h1 h2 => ?_, fun h f h1 h2 => h f (by omega) (by omega)⟩
      by_cases e : f = i
      · subst e; exact c
      · exact h f (by omega) (by omega)
    · rw [if_neg c]
      exact ⟨fun z => (by cases z), fun h => absurd (h i (Nat.le_refl _) (by omega)) c⟩
theorem fit_4 {A W : Nat → Int32} : cFitL A W 4 0 = true ↔ Fit W A := by
  rw [fit_l]
  exact ⟨fun h f hf => h f (Nat.zero_le _) (by omega), fun h f _ hf => h f (by omega)⟩
end QA

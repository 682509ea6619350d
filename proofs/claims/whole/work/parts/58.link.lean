-- THE LINK of the translator to the spec: what is written
def At (I : Nat → Int32) : Nat → List Int32 → Prop
  | _, [] => True
  | i, x :: J => I i = x ∧ At I (i + 1) J
theorem at_app {I : Nat → Int32} : ∀ (J K : List Int32) (i : Nat), At I i (J ++ K) ↔ At I i J ∧ At I (i + J.length) K := by
  intro J
  induction J with
  | nil => exact fun K i => ⟨fun z => ⟨trivial, z⟩, fun z => z.2⟩
  | cons x J ih =>
    intro K i
    show (I i = x ∧ At I (i + 1) (J ++ K)) ↔ (I i = x ∧ At I (i + 1) J) ∧ At I (i + (J.length + 1)) K
    rw [ih K (i + 1), show i + 1 + J.length = i + (J.length + 1) by omega]
    exact ⟨fun z => ⟨⟨z.1, z.2.1⟩, z.2.2⟩, fun z => ⟨z.1.1, z.1.2, z.2⟩⟩
theorem at_congr {I I' : Nat → Int32} : ∀ (J : List Int32) (i : Nat), (∀ k, i ≤ k → k < i + J.length → I' k = I k) → At I i J → At I' i J := by
  intro J
  induction J with
  | nil => exact fun i _ _ => trivial
  | cons x J ih =>
    intro i hc hA
    have hl : (x :: J).length = J.length + 1 := rfl
    exact ⟨by rw [hc i (by omega) (by omega)]; exact hA.1, ih (i + 1) (fun k h1 h2 => hc k (by omega) (by omega)) hA.2⟩
/-- J is written behind s, nothing else but the place and the arguments changes -/
def Em (J : List Int32) (s t : TS) : Prop := t.2.1 = s.2.1 + J.length ∧ t.2.2.1 = s.2.2.1 ∧ (∀ k, k < s.2.1 → aI t k = aI s k ∧ aH t k = aH s k) ∧ At (aI t) s.2.1 J ∧ (∀ k, s.2.1 ≤ k → k < t.2.1 → aH t k = -1) ∧ aS t = aS s ∧ aP t = aP s
section LA
variable {s t u : TS} {J K : List Int32} {n : Nat} {tx ar T : Nat → Int32}
theorem em_nil (h1 : s.2.1 = t.2.1) (h2 : s.2.2.1 = t.2.2.1) (h3 : aI t = aI s) (h4 : aH t = aH s) (h5 : aS t = aS s) (h6 : aP t = aP s) : Em [] s t :=
  ⟨h1.symm, h2.symm, fun k _ => ⟨by rw [h3], by rw [h4]⟩, trivial, fun k h7 h8 => absurd h8 (by omega), h5, h6⟩
theorem em_at {b : Nat} : Em [] s (sAt b s) := em_nil rfl rfl rfl rfl rfl rfl
theorem em_arg {k : Nat} {v : Int32} : Em [] s (sArg k v s) := em_nil rfl rfl rfl rfl rfl rfl
theorem em_trans (h1 : Em J s t) (h2 : Em K t u) : Em (J ++ K) s u := by
  obtain ⟨a1, a2, a3, a4, a5, a6, a7⟩ := h1
  obtain ⟨b1, b2, b3, b4, b5, b6, b7⟩ := h2
  refine ⟨by rw [b1, a1, List.length_append]; omega, b2.trans a2, fun k hk => ⟨(b3 k (by omega)).1.trans (a3 k hk).1, (b3 k (by omega)).2.trans (a3 k hk).2⟩, ?_, fun k h7 h8 => ?_, b6.trans a6, b7.trans a7⟩
  · rw [at_app]
    exact ⟨at_congr J _ (fun k h7 h8 => (b3 k (by omega)).1) a4, by rw [← a1]; exact b4⟩
  · rcases Nat.lt_or_ge k t.2.1 with h9 | h9
    · rw [(b3 k h9).2]; exact a5 k h7 h9
    · exact b5 k h9 h8
theorem em_emit {op x : Int32} (hz : s.2.1 < 151) : Em [iw op x] s (cEmit op x s) := by
  obtain ⟨a, z, l, I, H, S, P, A⟩ := s
  have hz : z < 151 := hz
  have e : cEmit op x (a, z, l, I, H, S, P, A) = (a, z + 1, l, up I z (iw op x), up H z (-1), S, P, A) := if_pos hz
  rw [e]
  refine ⟨rfl, rfl, fun k hk => ⟨up_ne (by have : k < z := hk; omega), up_ne (by have : k < z := hk; omega)⟩, ⟨up_eq, trivial⟩, fun k h7 h8 => ?_, rfl, rfl⟩
  have h7 : z ≤ k := h7
  have h8 : k < z + 1 := h8
  have : k = z := by omega
  subst this
  exact up_eq
theorem emit_at {op x : Int32} : (cEmit op x s).1 = s.1 := by
  obtain ⟨a, z, l, I, H, S, P, A⟩ := s
  show (if z < 151 then (a, z + 1, l, up I z (iw op x), up H z (-1), S, P, A) else (a, z, l, I, H, S, P, A) : TS).1 = a
  split <;> rfl
theorem emit_A {op x : Int32} : aA (cEmit op x s) = aA s := by
  obtain ⟨a, z, l, I, H, S, P, A⟩ := s
  show aA (if z < 151 then (a, z + 1, l, up I z (iw op x), up H z (-1), S, P, A) else (a, z, l, I, H, S, P, A) : TS) = A
  split <;> rfl
def Fit (ar A : Nat → Int32) : Prop := ∀ f, f < 4 → A f = -1 ∨ A f = ar f
/-- what once is called with a number of arguments stays so -/
def MA (E : TS → Bool × TS) : Prop := ∀ (s : TS) (f : Nat), ¬ aA s f = -1 → (E s).1 = true → aA (E s).2 f = aA s f
theorem ma_fit {E : TS → Bool × TS} (hM : MA E) (hF : ¬ Fit ar (aA s)) (h1 : (E s).1 = true) : ¬ Fit ar (aA (E s).2) := fun hG => hF (fun f hf => by
  by_cases c : aA s f = -1
  · exact Or.inl c
  · have e := hM s f c h1
    rw [← e]
    exact hG f hf)
theorem takes_A {c : Int32} : aA (cTakes n tx c s).2 = aA s := by
  by_cases h1 : s.1 < n ∧ tx s.1 = c
  · rw [cTakes_t h1]; rfl
  · rw [cTakes_f h1]
theorem call_A {f cnt g : Nat} (hA : ¬ aA s g = -1) (h1 : (cCall f cnt s).1 = true) : aA (cCall f cnt s).2 g = aA s g := by
  unfold cCall at h1 ⊢
  split at h1
  · next c =>
    rw [if_pos c, emit_A]
    obtain ⟨a, z, l, I, H, S, P, A⟩ := s
    show up A f (nI cnt) g = A g
    by_cases e : g = f
    · subst e
      rw [up_eq]
      exact (c.resolve_left hA).symm
    · exact up_ne e
  · cases h1
theorem call_n {f cnt : Nat} (h1 : (cCall f cnt s).1 = true) : aA (cCall f cnt s).2 f = nI cnt := by
  unfold cCall at h1 ⊢
  split at h1
  · next c =>
    rw [if_pos c, emit_A]
    obtain ⟨a, z, l, I, H, S, P, A⟩ := s
    exact up_eq
  · cases h1
theorem ma_argl {E : TS → Bool × TS} {f : Nat} (hM : MA E) : ∀ (m cnt : Nat) (s : TS), (cArgL n tx E f m cnt s).1 = true → (∀ g, ¬ aA s g = -1 → aA (cArgL n tx E f m cnt s).2 g = aA s g) ∧ ∃ c, cnt < c ∧ c ≤ cnt + m ∧ aA (cArgL n tx E f m cnt s).2 f = nI c := by
  intro m
  induction m with
  | zero => intro cnt s h1; cases h1
  | succ m ih =>
    intro cnt s h1
    unfold cArgL at h1 ⊢
    by_cases c1 : (E s).1 = true
    · rw [if_pos c1] at h1 ⊢
      by_cases c2 : (cTakes n tx 44 (E s).2).1 = true
      · rw [if_pos c2] at h1 ⊢
        obtain ⟨g1, c, g2, g3, g4⟩ := ih (cnt + 1) _ h1
        refine ⟨fun g hg => ?_, c, by omega, by omega, g4⟩
        have e := hM s g hg c1
        rw [g1 g (by rw [takes_A, e]; exact hg), takes_A, e]
      · rw [if_neg c2] at h1 ⊢
        by_cases c3 : (cTakes n tx 41 (cTakes n tx 44 (E s).2).2).1 = true
        · rw [if_pos c3] at h1 ⊢
          refine ⟨fun g hg => ?_, cnt + 1, by omega, by omega, call_n h1⟩
          have e := hM s g hg c1
          rw [call_A (by rw [takes_A, takes_A, e]; exact hg) h1, takes_A, takes_A, e]
        · rw [if_neg c3] at h1
          exact absurd h1 c3
    · rw [if_neg c1] at h1
      exact absurd h1 c1
theorem ma_args {E : TS → Bool × TS} {f : Nat} (hM : MA E) : MA (cArgs n tx E f) := by
  intro s g hg h1
  unfold cArgs at h1 ⊢
  by_cases c : (cTakes n tx 41 s).1 = true
  · rw [if_pos c] at h1 ⊢
    rw [call_A (by rw [takes_A]; exact hg) h1, takes_A]
  · rw [if_neg c] at h1 ⊢
    rw [(ma_argl hM 3 0 _ h1).1 g (by rw [takes_A]; exact hg), takes_A]
theorem num_A : ∀ (m : Nat) (v : Int32) (s : TS), aA (cNum n tx m v s) = aA s := by
  intro m
  induction m with
  | zero => exact fun v s => emit_A
  | succ m ih =>
    intro v s
    unfold cNum
    split
    · rw [ih]; rfl
    · exact emit_A
theorem ma_term {E : TS → Bool × TS} {k : Nat} (hM : MA E) : MA (cTerm n tx E k) := by
  intro s g hg h1
  unfold cTerm at h1 ⊢
  split
  · rw [num_A]
  · next c1 =>
    rw [if_neg c1] at h1
    split
    · rw [emit_A]; rfl
    · next c2 =>
      rw [if_neg c2] at h1
      split
      · next c3 =>
        rw [if_pos c3] at h1
        split
        · rfl
        · next c4 =>
          rw [if_neg c4] at h1
          split
          · next c5 =>
            rw [if_pos c5] at h1
            have e : aA (cTakes n tx 40 (sAt (s.1 + 1) s)).2 = aA s := takes_A
            rw [ma_args hM _ g (by rw [e]; exact hg) h1, e]
          · next c5 =>
            rw [if_neg c5] at h1
            exact absurd h1 c5
      · next c3 =>
        rw [if_neg c3] at h1
        split
        · next c4 =>
          rw [if_pos c4] at h1
          split
          · next c5 =>
            rw [takes_A, hM (sAt (s.1 + 1) s) g hg c5]
            rfl
          · next c5 =>
            rw [if_neg c5] at h1
            exact absurd h1 c5
        · rfl
theorem ma_loop {Tm : TS → Bool × TS} (hM : MA Tm) : ∀ (m : Nat) (s : TS) (g : Nat), ¬ aA s g = -1 → (cLoop n tx Tm m s).1 = true → aA (cLoop n tx Tm m s).2 g = aA s g := by
  intro m
  induction m with
  | zero => intro s g hg h1; cases h1
  | succ m ih =>
    intro s g hg h1
    unfold cLoop at h1 ⊢
    split
    · next c1 =>
      rw [if_pos c1] at h1
      split
      · next c2 =>
        rw [if_pos c2] at h1
        have e := hM (sAt (s.1 + 1) s) g hg c2
        rw [ih _ g (by rw [emit_A, e]; exact hg) h1, emit_A, e]
        rfl
      · next c2 =>
        rw [if_neg c2] at h1
        exact absurd h1 c2
    · rfl
theorem ma_ex {Tm : TS → Bool × TS} (hM : MA Tm) : MA (cEx n tx Tm) := by
  intro s g hg h1
  unfold cEx at h1 ⊢
  split
  · next c =>
    rw [if_pos c] at h1
    have e := hM s g hg c
    rw [ma_loop hM 150 _ g (by rw [e]; exact hg) h1, e]
  · next c =>
    rw [if_neg c] at h1
    exact absurd h1 c
theorem ma_E : ∀ k, MA (cE n tx k) := by
  intro k
  induction k with
  | zero => exact ma_ex (ma_term (fun s f hf h1 => by cases h1))
  | succ k ih => exact ma_ex (ma_term ih)
end LA

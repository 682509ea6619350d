-- LINES: a point's line is one of the program's
section LN1
variable {xs : Nat → Int32} {L d i : Nat} {h hc hm hc1 hm1 hc2 hm2 : Hp} {x : PDt} {pg B l o n p : Nat} {ar T : Nat → Int32} {τ u : TB}
def ZOK (τ : TB) : Prop := ∀ j, j < 152 → τ.2.2.1 j = -1 ∨ ∃ l, l < τ.2.2.2 ∧ τ.2.2.1 j = nI l
theorem zok_up (h : ZOK τ) {A B : Nat → Int32} : ZOK (A, B, up τ.2.2.1 p (nI τ.2.2.2), τ.2.2.2 + 1) := fun j hj => by
  by_cases e : j = p
  · subst e
    exact Or.inr ⟨τ.2.2.2, Nat.lt_succ_self _, up_eq⟩
  · rcases h j hj with h | ⟨l, h1, h2⟩
    · exact Or.inl ((up_ne e).trans h)
    · exact Or.inr ⟨l, Nat.lt_succ_of_lt h1, (up_ne e).trans h2⟩
theorem bm_z : ∀ (m p : Nat) (stk : List Nat) (τ : TB) (q : Nat) (u : TB), 152 - p ≤ m → bm ar T n p stk τ = some (q, u) → ZOK τ → ZOK u := by
  intro m
  induction m with
  | zero =>
    intro p stk τ q u hm h hz
    cases stk with
    | nil =>
      rw [bm_nil] at h
      cases h
      exact hz
    | cons o st =>
      rw [bm.eq_def ar T n p (o :: st) τ] at h
      simp only [show ¬ p < 152 from by omega, dite_false] at h
      cases h
  | succ m ih =>
    intro p stk τ q u hm h hz
    cases stk with
    | nil =>
      rw [bm_nil] at h
      cases h
      exact hz
    | cons o st =>
      by_cases hp : p < 152
      · by_cases c1 : T p = 125
        · by_cases c3 : τ.1 o = 3
          · rw [bm_try hp c1 c3] at h
            by_cases c4 : T (p + 1) = 123
            · rw [if_pos c4] at h
              exact ih (p + 2) _ _ q u (by omega) h hz
            · rw [if_neg c4] at h; cases h
          · rw [bm_close hp c1 c3] at h
            exact ih (p + 1) st τ q u (by omega) h hz
        · cases hs : stS ar T n p with
          | none => rw [bm_none hp c1 hs] at h; cases h
          | some y =>
            obtain ⟨y1, y2⟩ := y
            by_cases hy : p < y1
            · by_cases c2 : y2 = 0
              · subst c2
                rw [bm_sim hp c1 hs hy] at h
                by_cases c5 : 40 ≤ τ.2.2.2
                · rw [if_pos c5] at h; cases h
                · rw [if_neg c5] at h
                  exact ih y1 _ _ q u (by omega) h (zok_up hz)
              · obtain ⟨y3, rfl⟩ : ∃ y3, y1 = y3 + 1 := ⟨y1 - 1, by omega⟩
                rw [bm_blk hp c1 hs c2 (by omega)] at h
                by_cases c5 : 40 ≤ τ.2.2.2
                · rw [if_pos c5] at h; cases h
                · rw [if_neg c5] at h
                  by_cases c6 : 6 ≤ st.length + 1
                  · rw [if_pos c6] at h; cases h
                  · rw [if_neg c6] at h
                    exact ih (y3 + 1) _ _ q u (by omega) h (zok_up hz)
            · rw [bm.eq_def ar T n p (o :: st) τ] at h
              simp only [hp, c1, hs, hy, dite_true, dite_false, if_false] at h
              cases h
      · rw [bm.eq_def ar T n p (o :: st) τ] at h
        simp only [hp, dite_false] at h
        cases h
theorem pgm_z : ∀ (m p : Nat) (τ u : TB), pgm ar T n m p τ = some u → ZOK τ → ZOK u := by
  intro m
  induction m with
  | zero =>
    intro p τ u h hz
    by_cases c : p < n
    · have h : (if p < n then none else some τ) = some u := h
      rw [if_pos c] at h; cases h
    · rw [pgm_end c] at h
      cases h
      exact hz
  | succ m ih =>
    intro p τ u h hz
    by_cases c : p < n
    · cases hb : bm ar T n (p + 3) [p + 2] (up τ.1 (p + 2) 0, τ.2) with
      | none => rw [pgm_none c hb] at h; cases h
      | some y =>
        obtain ⟨q, v⟩ := y
        rw [pgm_1 c hb] at h
        exact ih q v u h (bm_z 152 (p + 3) _ _ q v (by omega) hb hz)
    · rw [pgm_end c] at h
      cases h
      exact hz
theorem zl_lt (hx : PDok x) (hR : RDx x) (hp : p < 152) (hl : l < 40) (hZ : x.Z p = nI l) : l < x.r.2.2.1 := by
  have hb := (bd_progl (tx := x.tx) 4 x.s (bd_st0 (n := x.n) hx.2.2.1) hx.2.2.2.1.1).2.2
  have hb : x.r.2.2.1 ≤ 40 := hb
  obtain ⟨hTX, hTC, hS0, ⟨c1, c2, c3, c4⟩, -, -⟩ := hx
  obtain ⟨ay0, Q0, ayx, τ0, ux, e1, e2, e3, e4, e5, e6, e7⟩ := hR
  have hA0 : Ars (aP x.r) := progl_P hTC 4 x.s (fun f hf => Or.inl (hS0.2.2.2 f hf).1) c1
  have hA : Ars (arC x.r) := fun f hf => by unfold arC; rw [if_pos hf]; exact hA0 f hf
  have hF : Fit (arC x.r) (aA (cProgL x.n x.tx 4 x.s).2) := fun f hf => by
    unfold arC
    rw [if_pos hf]
    exact fit_4.mp c4 f hf
  obtain ⟨bd, ay, Q, τ, i1, i2, i3, -⟩ := pg_acc hTC hTX hA 4 x.s (fun _ => 0) ay0 Q0 τ0 (bd_st0 hS0) (by rw [hS0.2.1]; omega) (by rw [e3, hS0.2.2.1]) (pcr0 hS0) c1 c2 hF
  rw [hS0.1, e2] at i2
  injection i2 with i2
  subst i2
  have i3 : ux.2.2.2 = x.r.2.2.1 := i3
  rcases pgm_z 4 0 τ0 ux e2 (fun j hj => Or.inl (e4 j hj)) p hp with h | ⟨l2, h1, h2⟩
  · rw [e7, hZ] at h
    have : (0 : Int32) ≤ nI l := nI_le (a := 0) (Nat.zero_le _) (by omega)
    rw [h] at this
    exact absurd this (by decide)
  · rw [e7, hZ] at h2
    have := nI_inj (by omega) (by omega) h2
    omega
end LN1

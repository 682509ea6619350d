-- THE SAME TEXT: what its reading writes doesn't hang on the tables before
section SA1
variable {ar T tx : Nat → Int32} {n : Nat}
def isBr (c : Int32) : Prop := c = 123 ∨ c = 125
theorem hsc_det : ∀ (m p : Nat) (stk : List Nat) (Q Q2 : Nat → Int32) (q : Nat) (R : Nat → Int32), n - p ≤ m → hsc T n p stk Q = some (q, R) → ∃ R2, hsc T n p stk Q2 = some (q, R2) ∧ ∀ x, (Q2 x = Q x ∨ x ∈ stk ∨ (p ≤ x ∧ x < q ∧ isBr (T x))) → R2 x = R x := by
  intro m
  induction m with
  | zero =>
    intro p stk Q Q2 q R hm h
    cases stk with
    | nil =>
      rw [hsc_nil] at h
      cases h
      exact ⟨Q2, hsc_nil, fun x hx => by
        rcases hx with e | e | e
        · exact e
        · cases e
        · omega⟩
    | cons o st => rw [hsc_no (by omega)] at h; cases h
  | succ m ih =>
    intro p stk Q Q2 q R hm h
    cases stk with
    | nil =>
      rw [hsc_nil] at h
      cases h
      exact ⟨Q2, hsc_nil, fun x hx => by
        rcases hx with e | e | e
        · exact e
        · cases e
        · omega⟩
    | cons o st =>
      by_cases hp : p < n
      · by_cases c1 : T p = 123
        · rw [hsc_open hp c1] at h
          rw [hsc_open hp c1]
          by_cases c2 : 6 ≤ st.length + 1
          · rw [if_pos c2] at h; cases h
          · rw [if_neg c2] at h
            rw [if_neg c2]
            obtain ⟨R2, h1, h2⟩ := ih (p + 1) (p :: o :: st) Q Q2 q R (by omega) h
            refine ⟨R2, h1, fun x hx => h2 x ?_⟩
            rcases hx with e | e | ⟨e1, e2, e3⟩
            · exact Or.inl e
            · exact Or.inr (Or.inl (List.mem_cons_of_mem _ e))
            · by_cases e : x = p
              · subst e; exact Or.inr (Or.inl List.mem_cons_self)
              · exact Or.inr (Or.inr ⟨by omega, e2, e3⟩)
        · by_cases c2 : T p = 125
          · rw [hsc_close hp c2] at h
            rw [hsc_close hp c2]
            obtain ⟨R2, h1, h2⟩ := ih (p + 1) st (up (up Q p (nI o)) o (nI p)) (up (up Q2 p (nI o)) o (nI p)) q R (by omega) h
            refine ⟨R2, h1, fun x hx => h2 x ?_⟩
            by_cases e0 : x = o
            · subst e0; exact Or.inl (by rw [up_eq, up_eq])
            · rw [up_ne e0, up_ne e0]
              by_cases e1 : x = p
              · subst e1; exact Or.inl (by rw [up_eq, up_eq])
              · rw [up_ne e1, up_ne e1]
                rcases hx with e | e | ⟨e3, e4, e5⟩
                · exact Or.inl e
                · rcases List.mem_cons.mp e with e | e
                  · exact absurd e e0
                  · exact Or.inr (Or.inl e)
                · exact Or.inr (Or.inr ⟨by omega, e4, e5⟩)
          · rw [hsc_1 hp c1 c2] at h
            rw [hsc_1 hp c1 c2]
            obtain ⟨R2, h1, h2⟩ := ih (p + 1) (o :: st) Q Q2 q R (by omega) h
            refine ⟨R2, h1, fun x hx => h2 x ?_⟩
            rcases hx with e | e | ⟨e1, e2, e3⟩
            · exact Or.inl e
            · exact Or.inr (Or.inl e)
            · refine Or.inr (Or.inr ⟨?_, e2, e3⟩)
              have : ¬ x = p := fun z => by
                subst z
                rcases e3 with e3 | e3
                · exact c1 e3
                · exact c2 e3
              omega
      · rw [hsc_no hp] at h; cases h
theorem hds_det : ∀ (m p : Nat) (bd : Nat → Nat) (ay Q ay2 Q2 : Nat → Int32) (bd' : Nat → Nat) (ay' Q' : Nat → Int32), n - p ≤ m → hds T n p bd ay Q = some (bd', ay', Q') → ∃ ay2' Q2', hds T n p bd ay2 Q2 = some (bd', ay2', Q2') ∧ (∀ f, (ay2 f = ay f ∨ (bd f = 0 ∧ ¬ bd' f = 0)) → ay2' f = ay' f) ∧ ∀ x, (Q2 x = Q x ∨ (p ≤ x ∧ x < n ∧ isBr (T x))) → Q2' x = Q' x := by
  intro m
  induction m with
  | zero =>
    intro p bd ay Q ay2 Q2 bd' ay' Q' hm h
    rw [hds_end (by omega)] at h
    cases h
    exact ⟨ay2, Q2, hds_end (by omega), fun f hf => hf.elim id (fun z => absurd z.1 z.2), fun x hx => hx.elim id (fun z => by omega)⟩
  | succ m ih =>
    intro p bd ay Q ay2 Q2 bd' ay' Q' hm h
    by_cases hp : p < n
    · by_cases hc : 65 ≤ T p ∧ T p ≤ 68 ∧ bd (fx (T p)) = 0 ∧ 48 ≤ T (p + 1) ∧ T (p + 1) ≤ 51 ∧ T (p + 2) = 123
      · cases hx : hsc T n (p + 3) [p + 2] Q with
        | none => rw [hds_none hp hc hx] at h; cases h
        | some y =>
          obtain ⟨q, R⟩ := y
          by_cases hq : p < q
          · rw [hds_some hp hc hx hq] at h
            obtain ⟨R2, r1, r2⟩ := hsc_det n (p + 3) [p + 2] Q Q2 q R (by omega) hx
            rw [hds_some hp hc r1 hq]
            obtain ⟨ay2', Q2', h1, h2, h3⟩ := ih q (upN bd (fx (T p)) (p + 2)) (up ay (fx (T p)) (T (p + 1) - 48)) R (up ay2 (fx (T p)) (T (p + 1) - 48)) R2 bd' ay' Q' (by omega) h
            refine ⟨ay2', Q2', h1, fun f hf => h2 f ?_, fun x hx2 => h3 x ?_⟩
            · by_cases e : f = fx (T p)
              · subst e; exact Or.inl (by rw [up_eq, up_eq])
              · rw [up_ne e, up_ne e, upN_ne e]; exact hf
            · rcases hx2 with e | ⟨e1, e2, e3⟩
              · exact Or.inl (r2 x (Or.inl e))
              · by_cases c : q ≤ x
                · exact Or.inr ⟨c, e2, e3⟩
                · refine Or.inl (r2 x ?_)
                  by_cases c0 : x = p
                  · subst c0
                    rcases e3 with e3 | e3 <;> rw [e3] at hc <;> exact absurd hc.2.1 (by decide)
                  · by_cases c1 : x = p + 1
                    · subst c1
                      rcases e3 with e3 | e3 <;> rw [e3] at hc <;> exact absurd hc.2.2.2.2.1 (by decide)
                    · by_cases c2 : x = p + 2
                      · exact Or.inr (Or.inl (by rw [c2]; exact List.mem_cons_self))
                      · exact Or.inr (Or.inr ⟨by omega, by omega, e3⟩)
          · have : hds T n p bd ay Q = none := by
              rw [hds.eq_def T n p bd ay Q, dif_pos hp, if_pos hc, hx]
              exact dif_neg hq
            rw [this] at h; cases h
      · rw [hds_no hp hc] at h; cases h
    · rw [hds_end hp] at h
      cases h
      exact ⟨ay2, Q2, hds_end hp, fun f hf => hf.elim id (fun z => absurd z.1 z.2), fun x hx => hx.elim id (fun z => by omega)⟩
theorem stS_nb (hT : TX T n) {p y k : Nat} (hp : p ≤ n) (h : stS ar T n p = some (y, k)) : p < y ∧ y ≤ n + 1 ∧ ∀ j, p ≤ j → j < y → T j = 123 → ¬ k = 0 ∧ j = y - 1 := by
  have hn := hT.1
  unfold stS at h
  by_cases c1 : T p = 126
  · rw [if_pos c1] at h
    by_cases c2 : T (p + 1) = 123
    · rw [if_pos c2] at h
      cases h
      have h3 : p + 1 < n := tx_lt hT (by omega) (by rw [c2]; decide)
      refine ⟨by omega, by omega, fun j j1 j2 j3 => ⟨by decide, ?_⟩⟩
      have : ¬ j = p := fun z => by rw [z, c1] at j3; exact absurd j3 (by decide)
      omega
    · rw [if_neg c2] at h; cases h
  · rw [if_neg c1] at h
    by_cases c2 : (97 ≤ T p ∧ T p ≤ 102 ∧ T (p + 1) = 61) ∨ isBe (T p) = true
    · rw [if_pos c2] at h
      have hps : p + sx T p ≤ n ∧ ¬ T p = 123 ∧ (sx T p = 2 → ¬ T (p + 1) = 123) ∧ (sx T p = 1 ∨ sx T p = 2) := by
        rcases c2 with ⟨a1, a2, a3⟩ | a
        · have h4 : p + 1 < n := tx_lt hT (by omega) (by rw [a3]; decide)
          refine ⟨by unfold sx; rw [if_pos ⟨a1, a2⟩]; omega, fun z => by rw [z] at a2; exact absurd a2 (by decide), fun _ => by rw [a3]; decide, by unfold sx; rw [if_pos ⟨a1, a2⟩]; exact Or.inr rfl⟩
        · have h1 : T p = 33 ∨ T p = 94 ∨ T p = 35 ∨ T p = 63 ∨ T p = 64 := by
            unfold isBe at a
            simp only [Bool.or_eq_true, decide_eq_true_eq] at a
            rcases a with (((a | a) | a) | a) | a
            · exact Or.inl a
            · exact Or.inr (Or.inl a)
            · exact Or.inr (Or.inr (Or.inl a))
            · exact Or.inr (Or.inr (Or.inr (Or.inl a)))
            · exact Or.inr (Or.inr (Or.inr (Or.inr a)))
          have h2 : ¬ (97 ≤ T p ∧ T p ≤ 102) ∧ ¬ T p = 123 ∧ ¬ T p = 59 := by rcases h1 with e | e | e | e | e <;> rw [e] <;> decide
          have h3 : p < n := tx_lt hT (by omega) h2.2.2
          refine ⟨by unfold sx; rw [if_neg h2.1]; omega, h2.2.1, fun z => ?_, by unfold sx; rw [if_neg h2.1]; exact Or.inl rfl⟩
          unfold sx at z
          rw [if_neg h2.1] at z
          omega
      obtain ⟨s1, s2, s3, s4⟩ := hps
      cases hm : sm ar T (p + sx T p) true (0, 0, 0) [] with
      | none => rw [hm] at h; cases h
      | some x =>
        obtain ⟨e, J⟩ := x
        rw [hm] at h
        obtain ⟨r1, r2, r3, r4⟩ := sm_rng hT 152 (p + sx T p) true (0, 0, 0) [] e J (by omega) s1 hm
        have nb : ∀ j, p ≤ j → j < e → ¬ T j = 123 := fun j j1 j2 => by
          by_cases q0 : j = p
          · rw [q0]; exact s2
          · by_cases q1 : p + sx T p ≤ j
            · exact (r4 j q1 j2).1
            · have : j = p + 1 := by omega
              rw [this]; exact s3 (by omega)
        have h : (if T p = 63 ∨ T p = 64 then (if T e = 123 then some (e + 1, if T p = 63 then 1 else 2) else none) else (if T e = 59 ∧ e < n then some (e + 1, 0) else none)) = some (y, k) := h
        by_cases c3 : T p = 63 ∨ T p = 64
        · rw [if_pos c3] at h
          by_cases c4 : T e = 123
          · rw [if_pos c4] at h
            cases h
            refine ⟨by omega, by omega, fun j j1 j2 j3 => ⟨?_, ?_⟩⟩
            · split <;> decide
            · have : ¬ j < e := fun z => nb j j1 z j3
              omega
          · rw [if_neg c4] at h; cases h
        · rw [if_neg c3] at h
          by_cases c4 : T e = 59 ∧ e < n
          · rw [if_pos c4] at h
            cases h
            refine ⟨by omega, by omega, fun j j1 j2 j3 => ?_⟩
            have : ¬ j < e := fun z => nb j j1 z j3
            have : j = e := by omega
            rw [this, c4.1] at j3
            exact absurd j3 (by decide)
          · rw [if_neg c4] at h; cases h
    · rw [if_neg c2] at h; cases h
/-- tables agree at x after, if they agree before or x is an opening brace that is read -/
def AgT (P : Nat → Prop) (τ τ2 u u2 : TB) : Prop := (∀ x, (τ2.1 x = τ.1 x ∨ P x) → u2.1 x = u.1 x) ∧ (∀ x, (τ2.2.1 x = τ.2.1 x ∨ P x) → u2.2.1 x = u.2.1 x) ∧ ∀ x, τ2.2.2.1 x = τ.2.2.1 x → u2.2.2.1 x = u.2.2.1 x
theorem bm_det (hT : TX T n) : ∀ (m p : Nat) (stk : List Nat) (τ τ2 : TB) (q : Nat) (u : TB), 152 - p ≤ m → bm ar T n p stk τ = some (q, u) → (∀ o, o ∈ stk → τ2.1 o = τ.1 o ∧ (τ.1 o = 3 → τ2.2.1 o = τ.2.1 o)) → τ2.2.2.2 = τ.2.2.2 → ∃ u2, bm ar T n p stk τ2 = some (q, u2) ∧ u2.2.2.2 = u.2.2.2 ∧ AgT (fun x => p ≤ x ∧ x < q ∧ T x = 123) τ τ2 u u2 := by
  have hn := hT.1
  intro m
  induction m with
  | zero =>
    intro p stk τ τ2 q u hm h hs hl
    cases stk with
    | nil =>
      rw [bm_nil] at h
      cases h
      exact ⟨τ2, bm_nil, hl, fun x hx => hx.elim id (fun z => by omega), fun x hx => hx.elim id (fun z => by omega), fun x hx => hx⟩
    | cons o st =>
      rw [bm.eq_def ar T n p (o :: st) τ] at h
      simp only [show ¬ p < 152 from by omega, dite_false] at h
      cases h
  | succ m ih =>
    intro p stk τ τ2 q u hm h hs hl
    cases stk with
    | nil =>
      rw [bm_nil] at h
      cases h
      exact ⟨τ2, bm_nil, hl, fun x hx => hx.elim id (fun z => by omega), fun x hx => hx.elim id (fun z => by omega), fun x hx => hx⟩
    | cons o st =>
      obtain ⟨ho1, ho2⟩ := hs o List.mem_cons_self
      by_cases hp : p < 152
      · by_cases c1 : T p = 125
        · by_cases c3 : τ.1 o = 3
          · rw [bm_try hp c1 c3] at h
            rw [bm_try hp c1 (ho1.trans c3)]
            by_cases c4 : T (p + 1) = 123
            · rw [if_pos c4] at h
              rw [if_pos c4]
              obtain ⟨u2, h1, h2, h3, h4, h5⟩ := ih (p + 2) ((p + 1) :: st) (up τ.1 (p + 1) 4, up τ.2.1 (p + 1) (τ.2.1 o), τ.2.2) (up τ2.1 (p + 1) 4, up τ2.2.1 (p + 1) (τ2.2.1 o), τ2.2.2) q u (by omega) h (fun z hz => by
                by_cases e : z = p + 1
                · subst e
                  exact ⟨by show up _ _ _ _ = up _ _ _ _; rw [up_eq, up_eq], fun _ => by show up _ _ _ _ = up _ _ _ _; rw [up_eq, up_eq]; exact ho2 c3⟩
                · have hz' : z ∈ o :: st := by
                    rcases List.mem_cons.mp hz with e2 | e2
                    · exact absurd e2 e
                    · exact List.mem_cons_of_mem _ e2
                  obtain ⟨a1, a2⟩ := hs z hz'
                  exact ⟨by show up _ _ _ _ = up _ _ _ _; rw [up_ne e, up_ne e]; exact a1, fun hz3 => by
                    have hz3 : up τ.1 (p + 1) 4 z = 3 := hz3
                    rw [up_ne e] at hz3
                    show up _ _ _ _ = up _ _ _ _
                    rw [up_ne e, up_ne e]; exact a2 hz3⟩) hl
              refine ⟨u2, h1, h2, fun x hx => h3 x ?_, fun x hx => h4 x ?_, fun x hx => h5 x hx⟩
              · by_cases e : x = p + 1
                · subst e; exact Or.inl (by show up _ _ _ _ = up _ _ _ _; rw [up_eq, up_eq])
                · rcases hx with hx | ⟨x1, x2, x3⟩
                  · exact Or.inl (by show up _ _ _ _ = up _ _ _ _; rw [up_ne e, up_ne e]; exact hx)
                  · have : ¬ x = p := fun z => by rw [z, c1] at x3; exact absurd x3 (by decide)
                    exact Or.inr ⟨by omega, x2, x3⟩
              · by_cases e : x = p + 1
                · subst e; exact Or.inl (by show up _ _ _ _ = up _ _ _ _; rw [up_eq, up_eq]; exact ho2 c3)
                · rcases hx with hx | ⟨x1, x2, x3⟩
                  · exact Or.inl (by show up _ _ _ _ = up _ _ _ _; rw [up_ne e, up_ne e]; exact hx)
                  · have : ¬ x = p := fun z => by rw [z, c1] at x3; exact absurd x3 (by decide)
                    exact Or.inr ⟨by omega, x2, x3⟩
            · rw [if_neg c4] at h; cases h
          · rw [bm_close hp c1 c3] at h
            rw [bm_close hp c1 (by rw [ho1]; exact c3)]
            obtain ⟨u2, h1, h2, h3, h4, h5⟩ := ih (p + 1) st τ τ2 q u (by omega) h (fun z hz => hs z (List.mem_cons_of_mem _ hz)) hl
            have hne : ∀ x, (p ≤ x ∧ x < q ∧ T x = 123) → (p + 1 ≤ x ∧ x < q ∧ T x = 123) := fun x ⟨x1, x2, x3⟩ => by
              have : ¬ x = p := fun z => by rw [z, c1] at x3; exact absurd x3 (by decide)
              exact ⟨by omega, x2, x3⟩
            exact ⟨u2, h1, h2, fun x hx => h3 x (hx.imp id (hne x)), fun x hx => h4 x (hx.imp id (hne x)), h5⟩
        · cases hst : stS ar T n p with
          | none => rw [bm_none hp c1 hst] at h; cases h
          | some z =>
            obtain ⟨y, k⟩ := z
            have hpn : p ≤ n := by
              by_cases c : p ≤ n
              · exact c
              · have h59 : T p = 59 := hT.2.2 p (by omega) hp
                unfold stS at hst
                rw [h59, if_neg (by decide), if_neg (fun z => by rcases z with ⟨z, -⟩ | z <;> exact absurd z (by decide))] at hst
                cases hst
            obtain ⟨y1, y2, y3⟩ := stS_nb hT hpn hst
            by_cases k0 : k = 0
            · subst k0
              rw [bm_sim hp c1 hst y1] at h
              rw [bm_sim hp c1 hst y1, hl]
              by_cases c5 : 40 ≤ τ.2.2.2
              · rw [if_pos c5] at h; cases h
              · rw [if_neg c5] at h
                rw [if_neg c5]
                obtain ⟨u2, h1, h2, h3, h4, h5⟩ := ih y (o :: st) (τ.1, τ.2.1, up τ.2.2.1 p (nI τ.2.2.2), τ.2.2.2 + 1) (τ2.1, τ2.2.1, up τ2.2.2.1 p (nI τ.2.2.2), τ.2.2.2 + 1) q u (by omega) h hs rfl
                have hne : ∀ x, (p ≤ x ∧ x < q ∧ T x = 123) → (y ≤ x ∧ x < q ∧ T x = 123) := fun x ⟨x1, x2, x3⟩ => by
                  have : ¬ x < y := fun z => (y3 x x1 z x3).1 rfl
                  exact ⟨by omega, x2, x3⟩
                refine ⟨u2, h1, h2, fun x hx => h3 x (hx.imp id (hne x)), fun x hx => h4 x (hx.imp id (hne x)), fun x hx => h5 x ?_⟩
                show up _ _ _ _ = up _ _ _ _
                by_cases e : x = p
                · subst e; rw [up_eq, up_eq]
                · rw [up_ne e, up_ne e]; exact hx
            · obtain ⟨y', rfl⟩ : ∃ y', y = y' + 1 := ⟨y - 1, by omega⟩
              rw [bm_blk hp c1 hst k0 (by omega)] at h
              rw [bm_blk hp c1 hst k0 (by omega), hl]
              by_cases c5 : 40 ≤ τ.2.2.2
              · rw [if_pos c5] at h; cases h
              · rw [if_neg c5] at h
                rw [if_neg c5]
                by_cases c6 : 6 ≤ st.length + 1
                · rw [if_pos c6] at h; cases h
                · rw [if_neg c6] at h
                  rw [if_neg c6]
                  obtain ⟨u2, h1, h2, h3, h4, h5⟩ := ih (y' + 1) (y' :: o :: st) (up τ.1 y' (nI k), up τ.2.1 y' (nI p), up τ.2.2.1 p (nI τ.2.2.2), τ.2.2.2 + 1) (up τ2.1 y' (nI k), up τ2.2.1 y' (nI p), up τ2.2.2.1 p (nI τ.2.2.2), τ.2.2.2 + 1) q u (by omega) h (fun z hz => by
                    by_cases e : z = y'
                    · subst e
                      exact ⟨by show up _ _ _ _ = up _ _ _ _; rw [up_eq, up_eq], fun _ => by show up _ _ _ _ = up _ _ _ _; rw [up_eq, up_eq]⟩
                    · have hz' : z ∈ o :: st := by
                        rcases List.mem_cons.mp hz with e2 | e2
                        · exact absurd e2 e
                        · exact e2
                      obtain ⟨a1, a2⟩ := hs z hz'
                      exact ⟨by show up _ _ _ _ = up _ _ _ _; rw [up_ne e, up_ne e]; exact a1, fun hz3 => by
                        have hz3 : up τ.1 y' (nI k) z = 3 := hz3
                        rw [up_ne e] at hz3
                        show up _ _ _ _ = up _ _ _ _
                        rw [up_ne e, up_ne e]; exact a2 hz3⟩) rfl
                  have hne : ∀ x, (p ≤ x ∧ x < q ∧ T x = 123) → ¬ x = y' → (y' + 1 ≤ x ∧ x < q ∧ T x = 123) := fun x ⟨x1, x2, x3⟩ e => by
                    have : ¬ x < y' + 1 := fun z => by have := (y3 x x1 z x3).2; omega
                    exact ⟨by omega, x2, x3⟩
                  refine ⟨u2, h1, h2, fun x hx => h3 x ?_, fun x hx => h4 x ?_, fun x hx => h5 x ?_⟩
                  · by_cases e : x = y'
                    · subst e; exact Or.inl (by show up _ _ _ _ = up _ _ _ _; rw [up_eq, up_eq])
                    · exact hx.imp (fun hx => by show up _ _ _ _ = up _ _ _ _; rw [up_ne e, up_ne e]; exact hx) (fun hx => hne x hx e)
                  · by_cases e : x = y'
                    · subst e; exact Or.inl (by show up _ _ _ _ = up _ _ _ _; rw [up_eq, up_eq])
                    · exact hx.imp (fun hx => by show up _ _ _ _ = up _ _ _ _; rw [up_ne e, up_ne e]; exact hx) (fun hx => hne x hx e)
                  · show up _ _ _ _ = up _ _ _ _
                    by_cases e : x = p
                    · subst e; rw [up_eq, up_eq]
                    · rw [up_ne e, up_ne e]; exact hx
      · rw [bm.eq_def ar T n p (o :: st) τ] at h
        simp only [hp, dite_false] at h
        cases h
theorem pgm_det (hTC : TC T tx n) (hTX : TX T n) (hA : Ars ar) : ∀ (m : Nat) (s : TS) (bd : Nat → Nat) (ay : Nat → Int32) (τ τ2 : TB) (u : TB), Bd n s → s.2.1 ≤ s.1 → τ.2.2.2 = s.2.2.1 → τ2.2.2.2 = s.2.2.1 → PCr s bd ay → (cProgL n tx m s).1 = true → (cProgL n tx m s).2.1 = n → Fit ar (aA (cProgL n tx m s).2) → pgm ar T n m s.1 τ = some u →
    ∃ u2, pgm ar T n m s.1 τ2 = some u2 ∧ (∀ x, (τ2.1 x = τ.1 x ∨ (s.1 ≤ x ∧ x < n ∧ T x = 123)) → u2.1 x = u.1 x) ∧ (∀ x, (τ2.2.1 x = τ.2.1 x ∨ (s.1 ≤ x ∧ x < n ∧ T x = 123)) → ¬ u.1 x = 0 → u2.2.1 x = u.2.1 x) ∧ ∀ x, τ2.2.2.1 x = τ.2.2.1 x → u2.2.2.1 x = u.2.2.1 x := by
  intro m
  have hn := hTC.1
  induction m with
  | zero =>
    intro s bd ay τ τ2 u hb hz hlm hl2 hP h1 h2 h3 h
    have h2 : s.1 = n := h2
    rw [pgm_end (by omega)] at h
    cases h
    exact ⟨τ2, pgm_end (by omega), fun x hx => hx.elim id (fun z => by omega), fun x hx _ => hx.elim id (fun z => by omega), fun x hx => hx⟩
  | succ m ih =>
    intro s bd ay τ τ2 u' hb hz hlm hl2 hP h1 h2 h3 h
    have hun : cProgL n tx (m + 1) s = if s.1 < n then (if (cFun n tx s).1 then cProgL n tx m (cFun n tx s).2 else cFun n tx s) else (true, s) := rfl
    by_cases c : s.1 < n
    · rw [if_pos c] at hun
      have c2 : (cFun n tx s).1 = true := by
        cases h5 : (cFun n tx s).1 with
        | true => rfl
        | false =>
          rw [h5, if_neg (by decide)] at hun
          rw [hun, h5] at h1
          cases h1
      rw [if_pos c2] at hun
      rw [hun] at h1 h2 h3
      obtain ⟨f, a, hf, ha, hp, e1, e2, hPf, h5, h6⟩ := fun_inv hTC c2
      have hAr : aA (cFun n tx s).2 = aA (cB n tx 6 (fS f a s)).2 := by rw [h6]; show aA (cEmit 0 0 (cEmit 1 0 _)) = _; rw [emit_A, emit_A]
      have hF2 : Fit ar (aA (cB n tx 6 (fS f a s)).2) := fun g hg => by
        by_cases d : aA (cB n tx 6 (fS f a s)).2 g = -1
        · exact Or.inl d
        · have e := ma_progl hTC m _ g (by rw [hAr]; exact d) h1
          rw [← hAr, ← e]
          exact h3 g hg
      have hF1 : Fit ar (aA s) := fun g hg => by
        by_cases d : aA s g = -1
        · exact Or.inl d
        · have e : aA (cB n tx 6 (fS f a s)).2 g = aA s g := ma_B 6 (fS f a s) g d h5
          rw [← e]
          exact hF2 g hg
      have hbS : Bd n (fS f a s) := ⟨by show s.1 + 2 ≤ n; omega, hb.2⟩
      have hok : OKb ar T n 6 (fS f a s) (cB n tx 6 (fS f a s)) := by
        rcases lk_B hTC hTX hA 6 (fS f a s) [] (up τ.1 (s.1 + 2) 0, τ.2) hbS (by show s.2.1 ≤ s.1 + 2 + 1; omega) hF1 rfl hlm with h7 | ⟨-, h7⟩
        · exact h7
        · rcases h7 with h7 | h7
          · rw [h5] at h7; cases h7
          · exact absurd hF2 h7
      obtain ⟨e, fu, g1, g2, g3, g4, g5, g6, g7, g8, g9, g10, g11, g12, g13, g14, g15, g16, g17⟩ := fun_ok hTC hTX hz hbS (bd_B 6 _ hbS h5) hok
      rw [h6] at h1 h2 h3
      obtain ⟨r1, r2, r3⟩ := sl_run hTX _ _ _ _ _ _ _ _ _ _ (g17 0)
      obtain ⟨u, R, u1, u2, u3, u4, u5⟩ := r3 (s.1 + 2) [] (up τ.1 (s.1 + 2) 0, τ.2) τ.1 (by decide) hlm
      have huK : u.1 (s.1 + 2) = 0 := by rw [(u4 (s.1 + 2) (Or.inl (by omega))).1]; exact up_eq
      rw [bm_close (by omega) g2 (by rw [huK]; decide), bm_nil] at u2
      rw [pgm_1 c u2] at h
      obtain ⟨v, v1, v2, v3, v4, v5⟩ := bm_det hTX 152 (s.1 + 3) [s.1 + 2] (up τ.1 (s.1 + 2) 0, τ.2) (up τ2.1 (s.1 + 2) 0, τ2.2) _ u (by omega) u2 (fun o ho => by
        have : o = s.1 + 2 := by simpa using ho
        subst this
        refine ⟨by show up _ _ _ _ = up _ _ _ _; rw [up_eq, up_eq], fun z => ?_⟩
        have z : up τ.1 (s.1 + 2) 0 (s.1 + 2) = 3 := z
        rw [up_eq] at z
        exact absurd z (by decide)) (hl2.trans hlm.symm)
      rw [pgm_1 c v1]
      have hlen : u.2.2.2 = (fE (cB n tx 6 (fS f a s)).2).2.2.1 := u1.trans g8.symm
      rw [← g5] at h ⊢
      have hPS := pcr_step hP ha (show 0 < s.1 + 2 by omega) g14
      obtain ⟨w, w1, w2, w3, w4⟩ := ih (fE (cB n tx 6 (fS f a s)).2) (upN bd f (s.1 + 2)) (up ay f (nI a)) u v u' g10 g7 hlen (v2.trans hlen) hPS h1 h2 h3 h
      rw [g5] at w2 w3
      obtain ⟨d1, d2, d3⟩ := hd_f hf e1
      obtain ⟨d4, d5, d6⟩ := hd_a ha e2
      have nb : ∀ j, s.1 ≤ j → j < s.1 + 2 → ¬ T j = 123 := fun j q1 q2 => by
        by_cases q : j = s.1
        · subst q; exact fun z => by rw [z] at d2; exact absurd d2 (by decide)
        · have : j = s.1 + 1 := by omega
          subst this; exact fun z => by rw [z] at d5; exact absurd d5 (by decide)
      -- the kind of the body's brace stays 0
      obtain ⟨bd', ay', Q', τ', i1, i2, i3, i4, i5, -⟩ := pg_acc hTC hTX hA m (fE (cB n tx 6 (fS f a s)).2) (upN bd f (s.1 + 2)) (up ay f (nI a)) (fun _ => 0) u g10 g7 hlen hPS h1 h2 h3
      have hK0 : u'.1 (s.1 + 2) = 0 := by
        rw [h] at i2
        cases i2
        rw [(i5 (s.1 + 2) (by rw [g5]; omega)).1]
        exact huK
      refine ⟨w, w1, fun x hx => w2 x ?_, fun x hx hk => w3 x ?_ hk, fun x hx => w4 x (v5 x hx)⟩
      · by_cases q0 : x = s.1 + 2
        · exact Or.inl (v3 x (Or.inl (by show up _ _ _ _ = up _ _ _ _; rw [q0, up_eq, up_eq])))
        · rcases hx with hx | ⟨x1, x2, x3⟩
          · exact Or.inl (v3 x (Or.inl (by show up _ _ _ _ = up _ _ _ _; rw [up_ne q0, up_ne q0]; exact hx)))
          · have : ¬ x < s.1 + 2 := fun z => nb x x1 z x3
            by_cases q1 : x < e + 1
            · exact Or.inl (v3 x (Or.inr ⟨by omega, q1, x3⟩))
            · exact Or.inr ⟨by omega, x2, x3⟩
      · by_cases q0 : x = s.1 + 2
        · exact absurd (by rw [q0]; exact hK0) hk
        · rcases hx with hx | ⟨x1, x2, x3⟩
          · exact Or.inl (v4 x (Or.inl hx))
          · have : ¬ x < s.1 + 2 := fun z => nb x x1 z x3
            by_cases q1 : x < e + 1
            · exact Or.inl (v4 x (Or.inr ⟨by omega, q1, x3⟩))
            · exact Or.inr ⟨by omega, x2, x3⟩
    · rw [pgm_end c] at h
      cases h
      exact ⟨τ2, pgm_end c, fun x hx => hx.elim id (fun z => by omega), fun x hx _ => hx.elim id (fun z => by omega), fun x hx => hx⟩
end SA1

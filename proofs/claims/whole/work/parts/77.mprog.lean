-- THE MODEL's reading: program
section NA
variable {xs : Nat → Int32} {L d : Nat} {h : Hp} {res : Res} {u : TB} {Bg F G ar T : Nat → Int32} {n p : Nat}
theorem bm_hsc (hT : TX T n) : ∀ (m p : Nat) (stk : List Nat) (u : TB) (Bg Q : Nat → Int32) (x : Nat × TB) (y : Nat × (Nat → Int32)), 152 - p ≤ m → p ≤ n + 1 → (stk = [] ∨ p ≤ n) → BI u.1 Bg p stk → bm ar T n p stk u = some x → hsc T n p stk Q = some y → x.1 = y.1 := by
  intro m
  have hn2 := hT.1
  induction m with
  | zero => intro p stk u Bg Q x y hm hp; omega
  | succ m ih =>
    intro p stk u Bg Q x y hm hp hpn hB hb hs
    cases stk with
    | nil =>
      rw [bm_nil] at hb
      rw [hsc_nil] at hs
      cases hb
      cases hs
      rfl
    | cons o st =>
      have hpn : p ≤ n := hpn.resolve_left (by intro z; cases z)
      by_cases c125 : T p = 125
      · have hp2 : p < n := tx_lt hT (by omega) (by rw [c125]; decide)
        rw [hsc_close hp2 c125] at hs
        by_cases c3 : u.1 o = 3
        · rw [bm_try (by omega) c125 c3] at hb
          by_cases c123 : T (p + 1) = 123
          · have hp3 : p + 1 < n := tx_lt hT (by omega) (by rw [c123]; decide)
            rw [if_pos c123] at hb
            cases st with
            | nil => exact absurd c3 (hB.2.2.1 rfl)
            | cons s2 st2 =>
              rw [hsc_open hp3 c123] at hs
              by_cases c6 : 6 ≤ st2.length + 1
              · rw [if_pos c6] at hs; cases hs
              · rw [if_neg c6] at hs
                exact ih (p + 2) ((p + 1) :: s2 :: st2) _ (up Bg (s2 :: st2).length (nI (p + 1))) _ x y (by omega) (by omega) (Or.inr (by omega)) ⟨by omega, up_eq, (fun z => by cases z), BI_le (p := p) (by omega) _ (fun x hx => up_ne (by omega)) (fun x hx => up_ne (by omega)) hB.2.2.2⟩ hb hs
          · rw [if_neg c123] at hb; cases hb
        · rw [bm_close (by omega) c125 c3] at hb
          exact ih (p + 1) st u Bg _ x y (by omega) (by omega) (Or.inr (by omega)) (BI_le (p := p) (by omega) _ (fun x hx => rfl) (fun x hx => rfl) hB.2.2.2) hb hs
      · cases hst : stS ar T n p with
        | none => rw [bm_none (by omega) c125 hst] at hb; cases hb
        | some z =>
          obtain ⟨b, hxb, hpb, hbn, hbr, hb2⟩ := stS_inv hT hpn hst
          obtain ⟨x1, x2⟩ := z
          have hxb : x1 = b + 1 := hxb
          subst hxb
          have hbr2 : ∀ j, p ≤ j → j < b → ¬ T j = 123 ∧ ¬ T j = 125 := fun j k1 k2 => ⟨(hbr j k1 k2).1, by
            by_cases c : j = p
            · subst c; exact c125
            · exact (hbr j k1 k2).2 (by omega)⟩
          by_cases c40 : 40 ≤ u.2.2.2
          · rw [bm_40 (by omega) c125 c40] at hb; cases hb
          rcases hb2 with ⟨h0, h59⟩ | ⟨h0, h123⟩
          · have h0 : x2 = 0 := h0
            subst h0
            rw [bm_sim (by omega) c125 hst (by omega), if_neg c40] at hb
            rw [hsc_skip (b + 1 - p) p (b + 1) (by omega) hbn (fun j k1 k2 => by
              by_cases c : j = b
              · subst c; rw [h59]; decide
              · exact hbr2 j k1 (by omega))] at hs
            exact ih (b + 1) (o :: st) (u1T u p) Bg Q x y (by omega) (by omega) (Or.inr hbn) (BI_le (p := p) (by omega) _ (fun x hx => rfl) (fun x hx => rfl) hB) hb hs
          · have h0 : ¬ x2 = 0 := h0
            rw [hsc_skip (b - p) p b (by omega) (by omega) hbr2, hsc_open hbn h123] at hs
            by_cases c6 : 6 ≤ st.length + 1
            · rw [if_pos c6] at hs; cases hs
            rw [if_neg c6] at hs
            rw [bm_blk (by omega) c125 hst h0 hpb, if_neg c40, if_neg c6] at hb
            exact ih (b + 1) (b :: o :: st) _ (up Bg (st.length + 1) (nI b)) Q x y (by omega) (by omega) (Or.inr hbn) ⟨by omega, up_eq, (fun z => by cases z), BI_le (p := p) (by omega) _ (fun x hx => up_ne (by omega)) (fun x hx => up_ne (by rw [List.length_cons] at hx; omega)) hB⟩ hb hs
theorem hsc_rng : ∀ (m p : Nat) (stk : List Nat) (Q R : Nat → Int32) (q : Nat), n - p ≤ m → p ≤ n → hsc T n p stk Q = some (q, R) → p ≤ q ∧ q ≤ n ∧ (¬ stk = [] → p < q) := by
  intro m
  induction m with
  | zero =>
    intro p stk Q R q hm hp hs
    cases stk with
    | nil => rw [hsc_nil] at hs; cases hs; exact ⟨Nat.le_refl _, hp, fun z => absurd rfl z⟩
    | cons o st => rw [hsc_no (by omega)] at hs; cases hs
  | succ m ih =>
    intro p stk Q R q hm hp hs
    cases stk with
    | nil => rw [hsc_nil] at hs; cases hs; exact ⟨Nat.le_refl _, hp, fun z => absurd rfl z⟩
    | cons o st =>
      by_cases hpn : p < n
      · have fin : ∀ stk2 Q2, hsc T n (p + 1) stk2 Q2 = some (q, R) → p ≤ q ∧ q ≤ n ∧ (¬ (o :: st) = [] → p < q) := fun stk2 Q2 hs2 => by
          have := ih (p + 1) stk2 Q2 R q (by omega) hpn hs2
          exact ⟨by omega, this.2.1, fun _ => by omega⟩
        by_cases c1 : T p = 123
        · rw [hsc_open hpn c1] at hs
          by_cases c6 : 6 ≤ st.length + 1
          · rw [if_pos c6] at hs; cases hs
          · rw [if_neg c6] at hs; exact fin _ _ hs
        · by_cases c2 : T p = 125
          · rw [hsc_close hpn c2] at hs; exact fin _ _ hs
          · rw [hsc_1 hpn c1 c2] at hs; exact fin _ _ hs
      · rw [hsc_no hpn] at hs; cases hs
/-- one head, if all is well -/
theorem hds_inv (hT : TX T n) {bd bd' : Nat → Nat} {ay Q ay' Q' : Nat → Int32} (hp : p < n) (hs : hds T n p bd ay Q = some (bd', ay', Q')) : ∃ f a q R, f < 4 ∧ a ≤ 3 ∧ T p = nI (65 + f) ∧ T (p + 1) = nI (48 + a) ∧ T (p + 2) = 123 ∧ p + 2 < n ∧ bd f = 0 ∧ hsc T n (p + 3) [p + 2] Q = some (q, R) ∧ p + 3 < q ∧ q ≤ n ∧ hds T n q (upN bd f (p + 2)) (up ay f (nI a)) R = some (bd', ay', Q') := by
  have hn := hT.1
  by_cases hc : 65 ≤ T p ∧ T p ≤ 68 ∧ bd (fx (T p)) = 0 ∧ 48 ≤ T (p + 1) ∧ T (p + 1) ≤ 51 ∧ T (p + 2) = 123
  · obtain ⟨f, hf, e1⟩ := fun_ix hc.1 (Int32.lt_of_le_of_lt hc.2.1 (by decide))
    obtain ⟨a, ha, e2⟩ := dig_ix hc.2.2.2.1 hc.2.2.2.2.1
    have hbf := hc.2.2.1
    rw [e1, fx_f hf] at hbf
    have hp2 : p + 2 < n := tx_lt hT (by omega) (by rw [hc.2.2.2.2.2]; decide)
    cases hq : hsc T n (p + 3) [p + 2] Q with
    | none => rw [hds_none hp hc hq] at hs; cases hs
    | some y =>
      obtain ⟨q, R⟩ := y
      obtain ⟨r1, r2, r3⟩ := hsc_rng n (p + 3) [p + 2] Q R q (by omega) (by omega) hq
      have r4 := r3 (by intro z; cases z)
      rw [hds_some hp hc hq (by omega), (hd_f hf e1).2.2, (hd_a ha e2).2.2] at hs
      exact ⟨f, a, q, R, hf, ha, e1, e2, hc.2.2.2.2.2, hp2, hbf, rfl, r4, r2, hs⟩
  · rw [hds_no hp hc] at hs; cases hs
theorem hds_bd (hT : TX T n) : ∀ (m p : Nat) (bd bd' : Nat → Nat) (ay Q ay' Q' : Nat → Int32), n - p ≤ m → p ≤ n → hds T n p bd ay Q = some (bd', ay', Q') → (∀ g, (0 < bd g → bd' g = bd g) ∧ (bd g = 0 → bd' g = 0 ∨ (p + 2 ≤ bd' g ∧ bd' g < n))) ∧ ((∀ f, f < 4 → ∃ k, k ≤ 3 ∧ ay f = nI k) → ∀ f, f < 4 → ∃ k, k ≤ 3 ∧ ay' f = nI k) := by
  intro m
  have stop : ∀ (p : Nat) (bd bd' : Nat → Nat) (ay Q ay' Q' : Nat → Int32), ¬ p < n → hds T n p bd ay Q = some (bd', ay', Q') → (∀ g, (0 < bd g → bd' g = bd g) ∧ (bd g = 0 → bd' g = 0 ∨ (p + 2 ≤ bd' g ∧ bd' g < n))) ∧ ((∀ f, f < 4 → ∃ k, k ≤ 3 ∧ ay f = nI k) → ∀ f, f < 4 → ∃ k, k ≤ 3 ∧ ay' f = nI k) := fun p bd bd' ay Q ay' Q' h1 hs => by
    rw [hds_end h1] at hs
    cases hs
    exact ⟨fun g => ⟨fun _ => rfl, fun z => Or.inl z⟩, fun z => z⟩
  induction m with
  | zero => intro p bd bd' ay Q ay' Q' hm hp hs; exact stop p bd bd' ay Q ay' Q' (by omega) hs
  | succ m ih =>
    intro p bd bd' ay Q ay' Q' hm hp hs
    by_cases c : p < n
    · obtain ⟨f, a, q, R, hf, ha, e1, e2, e3, hp2, hbf, hq, r4, r2, hs2⟩ := hds_inv hT c hs
      obtain ⟨i1, i2⟩ := ih q _ bd' _ R ay' Q' (by omega) r2 hs2
      refine ⟨fun g => ?_, fun z => i2 (fun g hg => ?_)⟩
      · obtain ⟨j1, j2⟩ := i1 g
        by_cases cg : g = f
        · subst cg
          rw [upN_eq] at j1 j2
          have := j1 (by omega)
          exact ⟨fun z => by omega, fun _ => Or.inr (by omega)⟩
        · rw [upN_ne cg] at j1 j2
          refine ⟨j1, fun z => ?_⟩
          rcases j2 z with w | w
          · exact Or.inl w
          · exact Or.inr (by omega)
      · by_cases cg : g = f
        · subst cg; rw [up_eq]; exact ⟨a, ha, rfl⟩
        · rw [up_ne cg]; exact z g hg
    · exact stop p bd bd' ay Q ay' Q' c hs
theorem m_block {f b : Nat} (hO : MO h) (hA : AR h ar) (hTT : ∀ j, j < 152 → hI h 51 j = T j) (hT : TX T n) (hn : hI h 49 3 = nI n) (hf : f < 4) (hb : hI h 56 f = nI b) (hbn : b < n) (hl : u.2.2.2 ≤ 40) {Q : Nat → Int32} (hQ : ¬ hsc T n (b + 1) [b] Q = none) : ∃ (u' : TB) (Bg' F' G' : Nat → Int32), Rn xs L (d + 5) 86 [.inr (some 49), .inl (nI f)] (kH h u Bg F G) (some (.inl (bI (bm ar T n (b + 1) [b] (up u.1 b 0, u.2)).isSome)), kH h u' Bg' F' G') ∧ ∀ x, bm ar T n (b + 1) [b] (up u.1 b 0, u.2) = some x → u' = x.2 ∧ x.2.2.2.2 ≤ 40 := by
  have hn2 := hT.1
  have hO2 : ∀ (u : TB) (Bg F G : Nat → Int32), MO (kH h u Bg F G) := fun _ _ _ _ => hO
  obtain ⟨u', Bg', F', G', g1, g2⟩ := m_blk_loop (xs := xs) (L := L) (d := d) (a1 := some (.inl (nI f))) hO hA hTT hT hn 152 (b + 1) [b] (up u.1 b 0, u.2) (up Bg 0 (nI b)) F G Q (by omega) (by omega) (show 1 ≤ 6 by decide) ⟨by omega, up_eq, fun _ => by rw [show ((up u.1 b 0, u.2) : TB).1 = up u.1 b 0 from rfl, up_eq]; decide, trivial⟩ hl (Or.inr hbn) hQ
  refine ⟨u', Bg', F', G', ?_, g2⟩
  have q1 : vp_in (nI f) 4 := vin hf (by decide)
  have q2 : vp_in (nI b) 152 := vin (by omega) (by decide)
  have q3 : vp_in (0 : Int32) 8 := vin (n := 0) (by decide) (by decide)
  rw [i_rn]
  show X xs L (d + 4) 86 (0, [some (.inr (some 49)), some (.inl (nI f)), none, none, none], [], kH h u Bg F G) _
  simp only [e_86_0, e_86_1, e_86_2, e_86_3, e_86_6, e_86_7, e_86_10, e_86_11, e_86_12, e_86_13, e_86_14, e_86_15, e_86_18, e_86_19, e_86_20, e_86_23, e_86_24, e_86_25, e_86_26, e_86_27, e_86_30, e_86_31, e_86_32, e_86_33, e_86_34, true_and, and_true, and_self, false_and, and_false, if_true, if_false, ↓reduceIte, Nat.add_eq_left, Nat.left_eq_add, Nat.add_left_cancel_iff, not_false_eq_true, not_true_eq_false, i_pc, List.cons_append, List.nil_append, List.length_cons, List.length_nil, Nat.reduceEqDiff, Nat.reduceAdd, Nat.reduceMul, Nat.reduceSub, Nat.reduceLeDiff, Nat.reduceLT, Int32.reduceLT, Int32.reduceLE, Int32.reduceAdd, Int32.reduceSub, reduceCtorEq, true_or, or_true, or_false, false_or, ne_eq, Nat.zero_le, hK_sI, hL_sI, hR_sI, mo_k (hO2 _ _ _ _), mo_r53 (hO2 _ _ _ _), mo_k53 (hO2 _ _ _ _), mo_l53 (hO2 _ _ _ _), mo_r56 (hO2 _ _ _ _), mo_k56 (hO2 _ _ _ _), mo_l56 (hO2 _ _ _ _), mo_r59 (hO2 _ _ _ _), mo_k59 (hO2 _ _ _ _), mo_l59 (hO2 _ _ _ _), kH_56, hb, q1, q2, q3, z0, kW_53, kW_59, nI_1, nI_cl (show f < 2 ^ 31 by omega), nI_cl (show b < 2 ^ 31 by omega)]
  exact g1 _
end NA

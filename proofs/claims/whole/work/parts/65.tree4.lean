-- THE TREE of statements: blocks, braces and tables along it
def AgO (p e : Nat) (τ u : TB) (Q R : Nat → Int32) : Prop := ∀ x, (x < p ∨ e ≤ x) → u.1 x = τ.1 x ∧ u.2.1 x = τ.2.1 x ∧ u.2.2.1 x = τ.2.2.1 x ∧ R x = Q x
def AgI (p e : Nat) (K W Z : Nat → Int32) (u : TB) (R Q : Nat → Int32) : Prop := ∀ x, p ≤ x → x < e → K x = u.1 x ∧ W x = u.2.1 x ∧ Z x = u.2.2.1 x ∧ R x = Q x
def XSf (T K Z Q : Nat → Int32) (p l : Nat) (oh : Int32) : Prop := Z p = nI l ∧ trF T K Q p p = oh
def XBf (K W Q : Nat → Int32) (b g p e : Nat) : Prop := K b = nI g ∧ W b = nI p ∧ Q b = nI e ∧ Q e = nI b
/-- what a part of the tree does: p to q inside the open blocks -/
def Run1 (ar T : Nat → Int32) (n k : Nat) (p q l m : Nat) (P : (Nat → Int32) → (Nat → Int32) → (Nat → Int32) → (Nat → Int32) → Int32 → Prop) : Prop := ∀ (o : Nat) (st : List Nat) (τ : TB) (Q : Nat → Int32), st.length + 1 + k ≤ 6 → τ.2.2.2 = l →
  ∃ (u : TB) (R : Nat → Int32), u.2.2.2 = m ∧ bm ar T n p (o :: st) τ = bm ar T n q (o :: st) u ∧ hsc T n p (o :: st) Q = hsc T n q (o :: st) R ∧ AgO p q τ u Q R ∧
    ∀ K W Z V : Nat → Int32, AgI p q K W Z u V R → Ds T p (o :: st) → Cl V q (o :: st) → Enc T V p (o :: st) → P K W Z V (tin K (o :: st)) ∧ Enc T V q (o :: st)
section SG
variable {ar T : Nat → Int32} {n : Nat} {XS : Nat → Nat → Int32 → Prop} {XB : Nat → Nat → Nat → Nat → Prop} {I H : Nat → Int32}
theorem enc_skip {Q : Nat → Int32} {p q : Nat} {stk : List Nat} (h : Enc T Q p stk) (hpq : p ≤ q) (hb : ∀ j, p ≤ j → j < q → ¬ T j = 123) : Enc T Q q stk := fun x hx h1 => by
  rcases Nat.lt_or_ge x p with c | c
  · rcases h x c h1 with ⟨c, h2, h3⟩ | h2
    · exact Or.inl ⟨c, h2, by omega⟩
    · exact Or.inr h2
  · exact absurd h1 (hb x c hx)
theorem enc_push {Q : Nat → Int32} {p : Nat} {stk : List Nat} (h : Enc T Q p stk) : Enc T Q (p + 1) (p :: stk) := fun x hx h1 => by
  by_cases c : x = p
  · subst c; exact Or.inr List.mem_cons_self
  · rcases h x (by omega) h1 with ⟨c, h2, h3⟩ | h2
    · exact Or.inl ⟨c, h2, by omega⟩
    · exact Or.inr (List.mem_cons_of_mem _ h2)
theorem enc_pop {Q : Nat → Int32} {e b : Nat} {stk : List Nat} (h : Enc T Q e (b :: stk)) (hb : Q b = nI e) (he : T e = 125) : Enc T Q (e + 1) stk := fun x hx h1 => by
  by_cases c : x = e
  · subst c; rw [he] at h1; exact absurd h1 (by decide)
  · rcases h x (by omega) h1 with ⟨c, h2, h3⟩ | h2
    · exact Or.inl ⟨c, h2, by omega⟩
    · rcases List.mem_cons.mp h2 with h4 | h4
      · rw [h4]; exact Or.inl ⟨e, hb, by omega⟩
      · exact Or.inr h4
theorem tin_ne {K : Nat → Int32} {b g : Nat} {stk : List Nat} (h : K b = nI g) (hg : g = 1 ∨ g = 2 ∨ g = 4) : tin K (b :: stk) = tin K stk := if_neg (by rw [h]; rcases hg with e | e | e <;> rw [e] <;> decide)
theorem cl_le {V : Nat → Int32} {p q : Nat} {stk : List Nat} (h : Cl V q stk) (hpq : p ≤ q) : Cl V p stk := fun x hx => by
  obtain ⟨c, h1, h2, h3⟩ := h x hx
  exact ⟨c, h1, by omega, h3⟩
theorem cl_cons {V : Nat → Int32} {e b : Nat} {stk : List Nat} (h : Cl V e stk) (hb : V b = nI e) (he : e < 152) : Cl V e (b :: stk) := fun x hx => by
  rcases List.mem_cons.mp hx with h4 | h4
  · rw [h4]; exact ⟨e, hb, Nat.le_refl _, he⟩
  · exact h x h4
theorem ss_run (hT : TX T n) {k : Nat} {R : RR} {R' : (Nat → Int32) → (Nat → Int32) → (Nat → Int32) → (Nat → Int32) → RR} (hk : ∀ p e i j l m hd oh, R p e i j l m hd oh → 0 < k ∧ e < n ∧ p ≤ e ∧ Run1 ar T n (k - 1) p e l m (fun K W Z V oh => R' K W Z V p e i j l m hd oh)) {p q i j l m : Nat} {hd oh : Int32} (h : SS ar T n XS XB I H R p q i j l m hd oh) : q ≤ n ∧ p < q ∧ Run1 ar T n k p q l m (fun K W Z V oh => SS ar T n (XSf T K Z V) (XBf K W V) I H (R' K W Z V) p q i j l m hd oh) := by
  obtain ⟨h1, h2, h3, h4, h5, h6⟩ := h
  have hn := hT.1
  rcases h6 with ⟨e, J, g1, g2, g3, g4, g5, g6, g7, g8, g9⟩ | ⟨b, e, x, J, g1, g2, g3, g4, g5, g6, g7, g8, g9, g10, g11⟩ | ⟨e, x, e2, l1, g1, g2, g3, g4, g5, g6, g7, g8, g9, g10, g11⟩
  · subst g7 g9
    have hx : p + sx T p ≤ n ∧ p < p + sx T p ∧ ∀ j, p ≤ j → j < p + sx T p → ¬ T j = 123 ∧ ¬ T j = 125 := by
      unfold sx
      rcases g1 with g1 | g1
      · rw [if_pos ⟨g1.1, g1.2.1⟩]
        have := tx_lt hT (p := p + 1) (by omega) (by rw [g1.2.2]; decide)
        refine ⟨by omega, by omega, fun j h7 h8 => ?_⟩
        by_cases c : j = p
        · subst c
          exact ⟨fun e => by rw [e] at g1; exact absurd g1.2.1 (by decide), h1⟩
        · have : j = p + 1 := by omega
          subst this
          rw [g1.2.2]; decide
      · rw [if_neg (by rcases g1 with e | e | e <;> rw [e] <;> decide)]
        refine ⟨by omega, by omega, fun j h7 h8 => ?_⟩
        have : j = p := by omega
        subst this
        rcases g1 with e | e | e <;> rw [e] <;> decide
    obtain ⟨r1, r2, r3, r4⟩ := sm_rng hT 152 _ _ _ _ _ _ (by omega) hx.1 g2
    have hbr : ∀ j, p ≤ j → j < e + 1 → ¬ T j = 123 ∧ ¬ T j = 125 := fun j h7 h8 => by
      rcases Nat.lt_or_ge j (p + sx T p) with c | c
      · exact hx.2.2 j h7 c
      · by_cases c2 : j = e
        · subst c2; rw [g3]; decide
        · exact r4 j c (by omega)
    refine ⟨g4, by omega, fun o st τ Q hl hlm => ⟨(τ.1, τ.2.1, up τ.2.2.1 p (nI l), l + 1), Q, rfl, ?_, hsc_skip (e + 1 - p) p (e + 1) (by omega) g4 hbr, ?_, ?_⟩⟩
    · rw [bm_sim (by omega) h1 (stS_sim g1 g2 g3 g4) (by omega), hlm, if_neg (by omega)]
    · exact fun y hy => ⟨rfl, rfl, up_ne (by omega), rfl⟩
    · intro K W Z V ha hD hC hE
      refine ⟨⟨h1, h2, h3, h4, ⟨?_, ?_⟩, Or.inl ⟨e, J, g1, g2, g3, g4, g5, g6, rfl, g8, rfl⟩⟩, enc_skip hE (by omega) (fun j h7 h8 => (hbr j h7 h8).1)⟩
      · rw [(ha p (by omega) (by omega)).2.2.1]; exact up_eq
      · exact trF_tin (by omega) p _ hD hE (cl_le hC (by omega))
  · subst g9
    obtain ⟨k0, ke, kp, hrun⟩ := hk _ _ _ _ _ _ _ _ g6
    obtain ⟨r1, r2, r3, r4⟩ := sm_rng hT 152 _ _ _ _ _ _ (by omega) (show p + 1 ≤ n by omega) g2
    have hpc : ¬ T p = 123 := by rcases g1 with e | e <;> rw [e] <;> decide
    have hbr : ∀ j, p ≤ j → j < b → ¬ T j = 123 ∧ ¬ T j = 125 := fun j h7 h8 => by
      by_cases c : j = p
      · subst c; exact ⟨hpc, h1⟩
      · exact r4 j (by omega) h8
    have hbn : b < n := tx_lt hT (by omega) (by rw [g3]; decide)
    have hg : (if T p = 63 then 1 else 2) = 1 ∨ (if T p = 63 then 1 else 2) = 2 ∨ (if T p = 63 then 1 else 2) = 4 := by
      split
      · exact Or.inl rfl
      · exact Or.inr (Or.inl rfl)
    have hs := stS_grd (n := n) g1 g2 g3
    refine ⟨ke, by omega, fun o st τ Q hl hlm => ?_⟩
    generalize (if T p = 63 then 1 else 2) = g at hg hs ⊢
    obtain ⟨u, S, u1, u2, u3, u4, u5⟩ := hrun b (o :: st) (up τ.1 b (nI g), up τ.2.1 b (nI p), up τ.2.2.1 p (nI l), l + 1) Q (by rw [List.length_cons]; omega) rfl
    have hub : u.1 b = nI g := by rw [(u4 b (Or.inl (by omega))).1]; exact up_eq
    refine ⟨u, up (up S e (nI b)) b (nI e), u1, ?_, ?_, ?_, ?_⟩
    · rw [bm_blk (by omega) h1 hs (by omega) (by omega), hlm, if_neg (by omega), if_neg (by omega), u2, bm_close (by omega) g7 (by rw [hub]; rcases hg with e | e | e <;> rw [e] <;> decide)]
    · rw [hsc_skip (b - p) p b (by omega) (by omega) hbr, hsc_open hbn g3, if_neg (by omega), u3, hsc_close ke g7]
    · intro y hy
      obtain ⟨a1, a2, a3, a4⟩ := u4 y (by omega)
      refine ⟨?_, ?_, ?_, ?_⟩
      · rw [a1]; exact up_ne (by omega)
      · rw [a2]; exact up_ne (by omega)
      · rw [a3]; exact up_ne (by omega)
      · rw [up_ne (by omega), up_ne (by omega), a4]
    · intro K W Z V ha hD hC hE
      have hVb : V b = nI e := by rw [(ha b (by omega) (by omega)).2.2.2]; exact up_eq
      have hVe : V e = nI b := by rw [(ha e (by omega) (by omega)).2.2.2, up_ne (by omega)]; exact up_eq
      have hKb : K b = nI g := by rw [(ha b (by omega) (by omega)).1]; exact hub
      have hWb : W b = nI p := by rw [(ha b (by omega) (by omega)).2.1, (u4 b (Or.inl (by omega))).2.1]; exact up_eq
      have hZp : Z p = nI l := by rw [(ha p (by omega) (by omega)).2.2.1, (u4 p (Or.inl (by omega))).2.2.1]; exact up_eq
      obtain ⟨v1, v2⟩ := u5 K W Z V (fun y h7 h8 => by
        obtain ⟨b1, b2, b3, b4⟩ := ha y (by omega) (by omega)
        exact ⟨b1, b2, b3, by rw [b4, up_ne (by omega), up_ne (by omega)]⟩) ⟨by omega, g3, Ds_le hD (by omega)⟩ (cl_cons (cl_le hC (by omega)) hVb (by omega)) (enc_push (enc_skip hE (by omega) (fun j h7 h8 => (hbr j h7 h8).1)))
      rw [tin_ne hKb hg] at v1
      refine ⟨⟨h1, h2, h3, h4, ⟨hZp, trF_tin (by omega) p _ hD hE (cl_le hC (by omega))⟩, Or.inr (Or.inl ⟨b, e, x, J, g1, g2, g3, g4, g5, v1, g7, ⟨?_, hWb, hVb, hVe⟩, rfl, g10, g11⟩)⟩, enc_pop v2 hVb g7⟩
      have hs2 := stS_grd (n := n) g1 g2 g3
      rw [hs] at hs2
      have e3 : g = if T p = 63 then 1 else 2 := congrArg (fun z => z.2) (Option.some.inj hs2)
      rw [hKb, e3]
  · subst g11
    obtain ⟨k0, ke, kp, hrun⟩ := hk _ _ _ _ _ _ _ _ g3
    obtain ⟨k1, ke2, kp2, hrun2⟩ := hk _ _ _ _ _ _ _ _ g8
    have hbn : p + 1 < n := tx_lt hT (by omega) (by rw [g2]; decide)
    have hbn2 : e + 1 < n := tx_lt hT (by omega) (by rw [g7]; decide)
    have hpc : ¬ T p = 123 := by rw [g1]; decide
    refine ⟨ke2, by omega, fun o st τ Q hl hlm => ?_⟩
    obtain ⟨u, S, u1, u2, u3, u4, u5⟩ := hrun (p + 1) (o :: st) (up τ.1 (p + 1) 3, up τ.2.1 (p + 1) (nI p), up τ.2.2.1 p (nI l), l + 1) Q (by rw [List.length_cons]; omega) rfl
    have hub : u.1 (p + 1) = 3 := by rw [(u4 (p + 1) (Or.inl (by omega))).1]; exact up_eq
    have huw : u.2.1 (p + 1) = nI p := by rw [(u4 (p + 1) (Or.inl (by omega))).2.1]; exact up_eq
    obtain ⟨w, S2, w1, w2, w3, w4, w5⟩ := hrun2 (e + 1) (o :: st) (up u.1 (e + 1) 4, up u.2.1 (e + 1) (u.2.1 (p + 1)), u.2.2) (up (up S e (nI (p + 1))) (p + 1) (nI e)) (by rw [List.length_cons]; omega) u1
    have hwb : w.1 (e + 1) = 4 := by rw [(w4 (e + 1) (Or.inl (by omega))).1]; exact up_eq
    refine ⟨w, up (up S2 e2 (nI (e + 1))) (e + 1) (nI e2), w1, ?_, ?_, ?_, ?_⟩
    · rw [bm_blk (by omega) h1 (stS_try g1 g2) (by omega) (by omega), hlm, if_neg (by omega), if_neg (by omega), show nI 3 = 3 from rfl, show p + 1 + 1 = p + 2 from rfl, u2, bm_try (by omega) g4 hub, if_pos g7, w2, bm_close (by omega) g9 (by rw [hwb]; decide)]
    · rw [hsc_1 (by omega) hpc h1, hsc_open hbn g2, if_neg (by omega), show p + 1 + 1 = p + 2 from rfl, u3, hsc_close ke g4, hsc_open hbn2 g7, if_neg (by omega), show e + 1 + 1 = e + 2 from rfl, w3, hsc_close ke2 g9]
    · intro y hy
      obtain ⟨a1, a2, a3, a4⟩ := w4 y (by omega)
      obtain ⟨b1, b2, b3, b4⟩ := u4 y (by omega)
      refine ⟨?_, ?_, ?_, ?_⟩
      · rw [a1]; show up u.1 (e + 1) 4 y = _; rw [up_ne (by omega), b1]; exact up_ne (by omega)
      · rw [a2]; show up u.2.1 (e + 1) _ y = _; rw [up_ne (by omega), b2]; exact up_ne (by omega)
      · rw [a3]; show u.2.2.1 y = _; rw [b3]; exact up_ne (by omega)
      · rw [up_ne (by omega), up_ne (by omega), a4, up_ne (by omega), up_ne (by omega), b4]
    · intro K W Z V ha hD hC hE
      have hV2b : V (e + 1) = nI e2 := by rw [(ha (e + 1) (by omega) (by omega)).2.2.2]; exact up_eq
      have hV2e : V e2 = nI (e + 1) := by rw [(ha e2 (by omega) (by omega)).2.2.2, up_ne (by omega)]; exact up_eq
      have hS2 : ∀ y, y < e + 2 → S2 y = up (up S e (nI (p + 1))) (p + 1) (nI e) y := fun y hy => (w4 y (Or.inl hy)).2.2.2
      have hVb : V (p + 1) = nI e := by rw [(ha (p + 1) (by omega) (by omega)).2.2.2, up_ne (by omega), up_ne (by omega), hS2 _ (by omega)]; exact up_eq
      have hVe : V e = nI (p + 1) := by rw [(ha e (by omega) (by omega)).2.2.2, up_ne (by omega), up_ne (by omega), hS2 _ (by omega), up_ne (by omega)]; exact up_eq
      have hw1 : ∀ y, y < e + 1 → w.1 y = u.1 y ∧ w.2.1 y = u.2.1 y ∧ w.2.2.1 y = u.2.2.1 y := fun y hy => by
        obtain ⟨a1, a2, a3, a4⟩ := w4 y (Or.inl (by omega))
        exact ⟨by rw [a1]; exact up_ne (by omega), by rw [a2]; exact up_ne (by omega), a3⟩
      have hKb : K (p + 1) = nI 3 := by rw [(ha (p + 1) (by omega) (by omega)).1, (hw1 (p + 1) (by omega)).1]; exact hub
      have hWb : W (p + 1) = nI p := by rw [(ha (p + 1) (by omega) (by omega)).2.1, (hw1 (p + 1) (by omega)).2.1]; exact huw
      have hKc : K (e + 1) = nI 4 := by rw [(ha (e + 1) (by omega) (by omega)).1]; exact hwb
      have hWc : W (e + 1) = nI p := by rw [(ha (e + 1) (by omega) (by omega)).2.1, (w4 (e + 1) (Or.inl (by omega))).2.1]; exact up_eq.trans huw
      have hZp : Z p = nI l := by rw [(ha p (by omega) (by omega)).2.2.1, (hw1 p (by omega)).2.2, (u4 p (Or.inl (by omega))).2.2.1]; exact up_eq
      obtain ⟨v1, v2⟩ := u5 K W Z V (fun y h7 h8 => by
        obtain ⟨b1, b2, b3, b4⟩ := ha y (by omega) (by omega)
        obtain ⟨c1, c2, c3⟩ := hw1 y (by omega)
        exact ⟨b1.trans c1, b2.trans c2, b3.trans c3, by rw [b4, up_ne (by omega), up_ne (by omega), hS2 y (by omega), up_ne (by omega), up_ne (by omega)]⟩) ⟨by omega, g2, Ds_le hD (by omega)⟩ (cl_cons (cl_le hC (by omega)) hVb (by omega)) (enc_push (enc_skip (p := p) (q := p + 1) hE (by omega) (fun j h7 h8 => (show j = p by omega) ▸ hpc)))
      have v3 := enc_pop v2 hVb g4
      obtain ⟨v4, v5⟩ := w5 K W Z V (fun y h7 h8 => by
        obtain ⟨b1, b2, b3, b4⟩ := ha y (by omega) (by omega)
        exact ⟨b1, b2, b3, by rw [b4, up_ne (by omega), up_ne (by omega)]⟩) ⟨by omega, g7, Ds_le hD (by omega)⟩ (cl_cons (cl_le hC (by omega)) hV2b (by omega)) (enc_push v3)
      rw [tin_ne hKc (Or.inr (Or.inr rfl))] at v4
      have v1 : R' K W Z V (p + 2) e (i + 1) x (l + 1) l1 (nI (x + 1)) (nI (p + 1)) := by
        rw [show tin K ((p + 1) :: o :: st) = nI (p + 1) from if_pos hKb] at v1
        exact v1
      exact ⟨⟨h1, h2, h3, h4, ⟨hZp, trF_tin (by omega) p _ hD hE (cl_le hC (by omega))⟩, Or.inr (Or.inr ⟨e, x, e2, l1, g1, g2, v1, g4, ⟨hKb, hWb, hVb, hVe⟩, g6, g7, v4, g9, ⟨hKc, hWc, hV2b, hV2e⟩, rfl⟩)⟩, enc_pop v5 hV2b g9⟩
theorem sl_run (hT : TX T n) : ∀ (f k p e i j l m : Nat) (hd oh : Int32), SL ar T n XS XB I H f k p e i j l m hd oh → e < n ∧ p ≤ e ∧ Run1 ar T n k p e l m (fun K W Z V oh => SL ar T n (XSf T K Z V) (XBf K W V) I H f k p e i j l m hd oh) := by
  intro f
  induction f with
  | zero => intro k p e i j l m hd oh h; exact h.elim
  | succ f ih =>
    intro k p e i j l m hd oh h
    rcases h with ⟨rfl, rfl, rfl, h4, h5⟩ | ⟨q, x, l1, h1, h2⟩
    · refine ⟨h5, Nat.le_refl _, fun o st τ Q hl hlm => ⟨τ, Q, hlm, rfl, rfl, fun y hy => ⟨rfl, rfl, rfl, rfl⟩, fun K W Z V ha hD hC hE => ⟨Or.inl ⟨rfl, rfl, rfl, h4, h5⟩, hE⟩⟩⟩
    · obtain ⟨a1, a2, a3⟩ := ss_run hT (R' := fun K W Z V => fun a b c d u v hd oh => 0 < k ∧ SL ar T n (XSf T K Z V) (XBf K W V) I H f (k - 1) a b c d u v hd oh) (fun p e i j l m hd oh z => ⟨z.1, (ih _ _ _ _ _ _ _ _ _ z.2).1, (ih _ _ _ _ _ _ _ _ _ z.2).2.1, fun o st τ Q hl hlm => by
        obtain ⟨u, S, u1, u2, u3, u4, u5⟩ := (ih _ _ _ _ _ _ _ _ _ z.2).2.2 o st τ Q hl hlm
        exact ⟨u, S, u1, u2, u3, u4, fun K W Z V ha hD hC hE => ⟨⟨z.1, (u5 K W Z V ha hD hC hE).1⟩, (u5 K W Z V ha hD hC hE).2⟩⟩⟩) h1
      obtain ⟨b1, b2, b3⟩ := ih _ _ _ _ _ _ _ _ _ h2
      refine ⟨b1, by omega, fun o st τ Q hl hlm => ?_⟩
      obtain ⟨u, S, u1, u2, u3, u4, u5⟩ := a3 o st τ Q hl hlm
      obtain ⟨w, S2, w1, w2, w3, w4, w5⟩ := b3 o st u S hl u1
      refine ⟨w, S2, w1, u2.trans w2, u3.trans w3, fun y hy => ?_, fun K W Z V ha hD hC hE => ?_⟩
      · obtain ⟨c1, c2, c3, c4⟩ := w4 y (by omega)
        obtain ⟨d1, d2, d3, d4⟩ := u4 y (by omega)
        exact ⟨c1.trans d1, c2.trans d2, c3.trans d3, c4.trans d4⟩
      · obtain ⟨v1, v2⟩ := u5 K W Z V (fun y h7 h8 => by
          obtain ⟨c1, c2, c3, c4⟩ := w4 y (Or.inl h8)
          obtain ⟨d1, d2, d3, d4⟩ := ha y h7 (by omega)
          exact ⟨d1.trans c1, d2.trans c2, d3.trans c3, d4.trans c4⟩) hD (cl_le hC b2) hE
        obtain ⟨v3, v4⟩ := w5 K W Z V (fun y h7 h8 => ha y (by omega) h8) (Ds_le hD (by omega)) hC v2
        exact ⟨Or.inr ⟨q, x, l1, v1, v3⟩, v4⟩
end SG

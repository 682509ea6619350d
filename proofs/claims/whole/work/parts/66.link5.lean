-- THE LINK of the translator's statements: what stays
section LE
variable {s t u : TS} {n : Nat} {tx ar T : Nat → Int32} {B St : TS → Bool × TS} {XS : Nat → Nat → Int32 → Prop} {XB : Nat → Nat → Nat → Nat → Prop} {I H I' H' : Nat → Int32}
theorem aim_A {j : Nat} : aA (cAim j s) = aA s := by
  obtain ⟨a, z, l, I, H, S, P, A⟩ := s
  show aA (if j < z then (a, z, l, up I j ((I j &&& (15 : Int32)) ||| (nI z <<< ((4 : Int32) &&& 31))), H, S, P, A) else (a, z, l, I, H, S, P, A) : TS) = A
  split <;> rfl
theorem cat_A {f e : Nat} : aA (cCat f e s) = aA s := rfl
theorem end_A {c : Int32} : aA (cEnd c s) = aA s := by
  unfold cEnd
  split
  · exact emit_A
  split
  · exact emit_A
  split
  · exact emit_A
  · exact emit_A
theorem ma_grd {ag : Bool} {pt : Nat} (hM : MA B) : MA (cGrd B ag pt) := by
  intro s g hg h1
  have hun : cGrd B ag pt s = if (B (cEmit 9 0 s)).1 then (true, cAim s.2.1 (if ag then cEmit 10 (nI pt) (B (cEmit 9 0 s)).2 else (B (cEmit 9 0 s)).2)) else B (cEmit 9 0 s) := rfl
  rw [hun] at h1 ⊢
  by_cases c : (B (cEmit 9 0 s)).1 = true
  · rw [if_pos c]
    show aA (cAim s.2.1 (if ag then cEmit 10 (nI pt) (B (cEmit 9 0 s)).2 else (B (cEmit 9 0 s)).2)) g = aA s g
    rw [aim_A]
    have e := hM (cEmit 9 0 s) g (by rw [emit_A]; exact hg) c
    rw [emit_A] at e
    cases ag with
    | true => rw [if_pos rfl, emit_A]; exact e
    | false => rw [if_neg (by decide)]; exact e
  · rw [if_neg c] at h1
    exact absurd h1 c
theorem ma_try (hM : MA B) : MA (cTry B) := by
  intro s g hg h1
  have hun : cTry B s = if (B s).1 then cTr2 B (B s).2.2.1 (cCat s.2.1 (B s).2.2.1 (cEmit 10 0 (B s).2)) else B s := rfl
  rw [hun] at h1 ⊢
  by_cases c : (B s).1 = true
  · rw [if_pos c] at h1 ⊢
    have e := hM s g hg c
    have hun2 : ∀ j t, cTr2 B j t = if (B t).1 then (true, cAim j (B t).2) else B t := fun j t => rfl
    rw [hun2] at h1 ⊢
    by_cases c2 : (B (cCat s.2.1 (B s).2.2.1 (cEmit 10 0 (B s).2))).1 = true
    · rw [if_pos c2]
      show aA (cAim _ _) g = _
      have e0 : aA (cCat s.2.1 (B s).2.2.1 (cEmit 10 0 (B s).2)) = aA (B s).2 := emit_A
      rw [aim_A, hM _ g (by rw [e0, e]; exact hg) c2, e0, e]
    · rw [if_neg c2] at h1
      exact absurd h1 c2
  · rw [if_neg c] at h1
    exact absurd h1 c
theorem ma_st3 {c : Int32} {pt : Nat} (hM : MA B) : MA (cSt3 n tx B c pt) := by
  intro s g hg h1
  have hun : cSt3 n tx B c pt s = if (cE n tx 5 s).1 then (if c = 63 ∨ c = 64 then cGrd B (decide (c = 64)) pt (cE n tx 5 s).2 else cTakes n tx 59 (cEnd c (cE n tx 5 s).2)) else cE n tx 5 s := rfl
  rw [hun] at h1 ⊢
  by_cases c1 : (cE n tx 5 s).1 = true
  · rw [if_pos c1] at h1 ⊢
    have e := ma_E 5 s g hg c1
    by_cases c2 : c = 63 ∨ c = 64
    · rw [if_pos c2] at h1 ⊢
      rw [ma_grd hM _ g (by rw [e]; exact hg) h1, e]
    · rw [if_neg c2, takes_A, end_A, e]
  · rw [if_neg c1] at h1
    exact absurd h1 c1
theorem ma_st2 {c : Int32} {pt : Nat} (hM : MA B) : MA (cSt2 n tx B c pt) := by
  intro s g hg h1
  have hun : cSt2 n tx B c pt s = if c = 126 then cTry B s else if 97 ≤ c ∧ c < 103 then (if (cTakes n tx 61 s).1 then cSt3 n tx B c pt (cTakes n tx 61 s).2 else cTakes n tx 61 s) else if isBe c = true then cSt3 n tx B c pt s else (false, s) := rfl
  rw [hun] at h1 ⊢
  by_cases c1 : c = 126
  · rw [if_pos c1] at h1 ⊢
    exact ma_try hM s g hg h1
  rw [if_neg c1] at h1 ⊢
  by_cases c2 : 97 ≤ c ∧ c < 103
  · rw [if_pos c2] at h1 ⊢
    by_cases c3 : (cTakes n tx 61 s).1 = true
    · rw [if_pos c3] at h1 ⊢
      rw [ma_st3 hM _ g (by rw [takes_A]; exact hg) h1, takes_A]
    · rw [if_neg c3] at h1
      exact absurd h1 c3
  rw [if_neg c2] at h1 ⊢
  by_cases c3 : isBe c = true
  · rw [if_pos c3] at h1 ⊢
    exact ma_st3 hM _ g hg h1
  · rw [if_neg c3] at h1
    cases h1
theorem ma_st (hM : MA B) : MA (cSt n tx B) := by
  intro s g hg h1
  have hun : cSt n tx B s = if 40 ≤ s.2.2.1 then (false, s) else cSt2 n tx B (pk n tx s.1) s.2.1 (sLn (s.2.2.1 + 1) (cEmit 5 (nI s.2.2.1) (sAt (s.1 + 1) s))) := rfl
  rw [hun] at h1 ⊢
  by_cases c1 : 40 ≤ s.2.2.1
  · rw [if_pos c1] at h1
    cases h1
  · rw [if_neg c1] at h1 ⊢
    have e : aA (sLn (s.2.2.1 + 1) (cEmit 5 (nI s.2.2.1) (sAt (s.1 + 1) s))) = aA s := (emit_A (s := sAt (s.1 + 1) s))
    rw [ma_st2 hM _ g (by rw [e]; exact hg) h1, e]
theorem ma_blkl (hM : MA St) : ∀ (m : Nat) (s : TS) (g : Nat), ¬ aA s g = -1 → (cBlkL n tx St m s).1 = true → aA (cBlkL n tx St m s).2 g = aA s g := by
  intro m
  induction m with
  | zero => intro s g hg h1; cases h1
  | succ m ih =>
    intro s g hg h1
    have hun : cBlkL n tx St (m + 1) s = if s.1 < n ∧ tx s.1 = 125 then (true, sAt (s.1 + 1) s) else if (St s).1 then cBlkL n tx St m (St s).2 else St s := rfl
    rw [hun] at h1 ⊢
    by_cases c1 : s.1 < n ∧ tx s.1 = 125
    · rw [if_pos c1]; rfl
    rw [if_neg c1] at h1 ⊢
    by_cases c2 : (St s).1 = true
    · rw [if_pos c2] at h1 ⊢
      have e := hM s g hg c2
      rw [ih _ g (by rw [e]; exact hg) h1, e]
    · rw [if_neg c2] at h1
      exact absurd h1 c2
theorem ma_B : ∀ k, MA (cB n tx k) := by
  intro k
  induction k with
  | zero => intro s g hg h1; cases h1
  | succ k ih =>
    intro s g hg h1
    have hun : cB n tx (k + 1) s = if s.1 < n ∧ tx s.1 = 123 then cBlkL n tx (cSt n tx (cB n tx k)) 41 (sAt (s.1 + 1) s) else (false, s) := rfl
    rw [hun] at h1 ⊢
    by_cases c1 : s.1 < n ∧ tx s.1 = 123
    · rw [if_pos c1] at h1 ⊢
      exact ma_blkl (ma_st ih) 41 (sAt (s.1 + 1) s) g hg h1
    · rw [if_neg c1] at h1
      cases h1
/-- what was written before stays -/
def Exs (s t : TS) : Prop := s.2.1 ≤ t.2.1 ∧ (∀ k, k < s.2.1 → aI t k = aI s k ∧ aH t k = aH s k) ∧ aS t = aS s ∧ aP t = aP s
theorem em_ex {J : List Int32} (h : Em J s t) : Exs s t := ⟨by rw [h.1]; omega, h.2.2.1, h.2.2.2.2.2⟩
theorem ex_trans (h1 : Exs s t) (h2 : Exs t u) : Exs s u := ⟨by have := h1.1; have := h2.1; omega, fun k hk => ⟨(h2.2.1 k (by have := h1.1; omega)).1.trans (h1.2.1 k hk).1, (h2.2.1 k (by have := h1.1; omega)).2.trans (h1.2.1 k hk).2⟩, h2.2.2.1.trans h1.2.2.1, h2.2.2.2.trans h1.2.2.2⟩
theorem ss_map (hT : TX T n) {z : Int32} {R R' : RR} {p q i j l m : Nat} {hd oh : Int32} (hR : ∀ a b c d u v hd oh, i ≤ c → d ≤ j → R a b c d u v hd oh → R' a b c d u v (gm z hd) oh) (hRm : ∀ a b c d u v x y, R a b c d u v x y → a ≤ b ∧ c ≤ d ∧ u ≤ v) (hc : ∀ y, i ≤ y → y < j → I' y = I y ∧ H' y = gm z (H y)) (hj : j < 2 ^ 31 - 1) (h1 : SS ar T n XS XB I H R p q i j l m hd oh) : SS ar T n XS XB I' H' R' p q i j l m (gm z hd) oh := by
  have h3 := ss_mono hT hRm h1
  obtain ⟨a1, a2, a3, a4, a5, a6⟩ := h1
  refine ⟨a1, a2, a3, by rw [(hc i (by omega) (by omega)).1]; exact a4, a5, ?_⟩
  rcases a6 with ⟨e, J, g1, g2, g3, g4, g5, g6, g7, g8, g9⟩ | ⟨b, e, y, J, g1, g2, g3, g4, g5, g6, g7, g8, g9, g10, g11⟩ | ⟨e, y, e2, l2, g1, g2, g3, g4, g5, g6, g7, g8, g9, g10, g11⟩
  · refine Or.inl ⟨e, J, g1, g2, g3, g4, at_congr _ _ (fun y h7 h8 => ?_) g5, fun y h7 h8 => ?_, g7, g8, g9⟩
    · rw [List.length_append, List.length_singleton] at h8
      exact (hc y (by omega) (by omega)).1
    · rw [(hc y (by omega) (by omega)).2, g6 y h7 h8]
  · have h5 := hRm _ _ _ _ _ _ _ _ g6
    have h6 : y ≤ j := by
      rcases g1 with e1 | e1
      · have := g10 e1; omega
      · have := (g11 e1).2; omega
    refine Or.inr (Or.inl ⟨b, e, y, J, g1, g2, g3, at_congr _ _ (fun y h7 h8 => ?_) g4, fun y h7 h8 => ?_, hR _ _ _ _ _ _ _ _ (by omega) h6 g6, g7, g8, g9, g10, fun e1 => ?_⟩)
    · rw [List.length_append, List.length_singleton] at h8
      exact (hc y (by omega) (by omega)).1
    · rw [(hc y (by omega) (by omega)).2, g5 y h7 h8]
    · have h7 := g11 e1
      exact ⟨by rw [(hc y (by omega) (by omega)).1]; exact h7.1, h7.2⟩
  · have h5 := hRm _ _ _ _ _ _ _ _ g3
    have h6 := hRm _ _ _ _ _ _ _ _ g8
    have hgo := hR _ _ _ _ _ _ _ _ (by omega) (by omega) g3
    rw [show gm z (nI (y + 1)) = nI (y + 1) from if_neg (nI_m1 (by omega))] at hgo
    exact Or.inr (Or.inr ⟨e, y, e2, l2, g1, g2, hgo, g4, g5, by rw [(hc y (by omega) (by omega)).1]; exact g6, g7, hR _ _ _ _ _ _ _ _ (by omega) (by omega) g8, g9, g10, g11⟩)
theorem gm_1 {x : Int32} : gm (-1) x = x := by
  unfold gm
  split
  · next h => exact h.symm
  · rfl
/-- the tree without what the tables say -/
def S0 (ar T : Nat → Int32) (n : Nat) (s : TS) : Nat → Nat → RR := SL ar T n (fun _ _ _ => True) (fun _ _ _ _ => True) (aI s) (aH s)
def R0 (ar T : Nat → Int32) (n : Nat) (s : TS) (f k : Nat) : RR := fun a b c d u v hd oh => 0 < k ∧ S0 ar T n s f (k - 1) a b c d u v hd oh
def SS0 (ar T : Nat → Int32) (n : Nat) (s : TS) (f k : Nat) : RR := SS ar T n (fun _ _ _ => True) (fun _ _ _ _ => True) (aI s) (aH s) (R0 ar T n s f k)
theorem s0_ex (hT : TX T n) {f k p e i j l m : Nat} {hd oh : Int32} (hx : ∀ y, i ≤ y → y < j → aI t y = aI s y ∧ aH t y = aH s y) (hj : j < 2 ^ 31 - 1) (h : S0 ar T n s f k p e i j l m hd oh) : S0 ar T n t f k p e i j l m hd oh := by
  have := sl_map (I' := aI t) (H' := aH t) hT (z := -1) f k p e i j l m hd oh (fun y h1 h2 => ⟨(hx y h1 h2).1, by rw [gm_1]; exact (hx y h1 h2).2⟩) hj h
  rw [gm_1] at this
  exact this
theorem ss0_ex (hT : TX T n) {f k p e i j l m : Nat} {hd oh : Int32} (hx : ∀ y, i ≤ y → y < j → aI t y = aI s y ∧ aH t y = aH s y) (hj : j < 2 ^ 31 - 1) (h : SS0 ar T n s f k p e i j l m hd oh) : SS0 ar T n t f k p e i j l m hd oh := by
  have := ss_map (I' := aI t) (H' := aH t) hT (z := -1) (R' := R0 ar T n t f k) (fun a b c d u v hd oh h1 h2 hr => ⟨hr.1, by rw [gm_1]; exact s0_ex hT (fun y h3 h4 => hx y (by omega) (by omega)) (by omega) hr.2⟩) (fun a b c d u v x y z => sl_mono hT _ _ _ _ _ _ _ _ _ _ z.2) (fun y h1 h2 => ⟨(hx y h1 h2).1, by rw [gm_1]; exact (hx y h1 h2).2⟩) hj h
  rw [gm_1] at this
  exact this
theorem ss0_run (hT : TX T n) {f k p q i j l m : Nat} {hd oh : Int32} (h : SS0 ar T n s f k p q i j l m hd oh) : q ≤ n ∧ p < q ∧ ∀ (o : Nat) (st : List Nat) (τ : TB), st.length + 1 + k ≤ 6 → τ.2.2.2 = l → ∃ u : TB, u.2.2.2 = m ∧ bm ar T n p (o :: st) τ = bm ar T n q (o :: st) u := by
  obtain ⟨a1, a2, a3⟩ := ss_run hT (R' := fun K W Z V => fun a b c d u v hd oh => 0 < k ∧ SL ar T n (XSf T K Z V) (XBf K W V) (aI s) (aH s) f (k - 1) a b c d u v hd oh) (fun p e i j l m hd oh z => ⟨z.1, (sl_run hT _ _ _ _ _ _ _ _ _ _ z.2).1, (sl_run hT _ _ _ _ _ _ _ _ _ _ z.2).2.1, fun o st τ Q hl hlm => by
    obtain ⟨u, S, u1, u2, u3, u4, u5⟩ := (sl_run hT _ _ _ _ _ _ _ _ _ _ z.2).2.2 o st τ Q hl hlm
    exact ⟨u, S, u1, u2, u3, u4, fun K W Z V ha hD hC hE => ⟨⟨z.1, (u5 K W Z V ha hD hC hE).1⟩, (u5 K W Z V ha hD hC hE).2⟩⟩⟩) h
  refine ⟨a1, a2, fun o st τ hl hlm => ?_⟩
  obtain ⟨u, S, u1, u2, -⟩ := a3 o st τ (fun _ => 0) hl hlm
  exact ⟨u, u1, u2⟩
theorem s0_run (hT : TX T n) {f k p e i j l m : Nat} {hd oh : Int32} (h : S0 ar T n s f k p e i j l m hd oh) : e < n ∧ p ≤ e ∧ ∀ (o : Nat) (st : List Nat) (τ : TB), o < p → st.length + 1 + k ≤ 6 → τ.2.2.2 = l → ∃ u : TB, u.2.2.2 = m ∧ u.1 o = τ.1 o ∧ u.2.1 o = τ.2.1 o ∧ bm ar T n p (o :: st) τ = bm ar T n e (o :: st) u := by
  obtain ⟨a1, a2, a3⟩ := sl_run hT _ _ _ _ _ _ _ _ _ _ h
  refine ⟨a1, a2, fun o st τ c hl hlm => ?_⟩
  obtain ⟨u, S, u1, u2, -, u4, -⟩ := a3 o st τ (fun _ => 0) hl hlm
  exact ⟨u, u1, (u4 o (Or.inl c)).1, (u4 o (Or.inl c)).2.1, u2⟩
end LE

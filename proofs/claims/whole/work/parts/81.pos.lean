-- THE RUN: places in a program's text and in its instructions
section RA
variable (ar T : Nat → Int32) (n z : Nat) (I H K W Z V : Nat → Int32)
def SLx : Nat → Nat → RR := SL ar T n (XSf T K Z V) (XBf K W V) I H
def PSn (C : Nat → Nat → Int32 → Int32 → Prop) (p i : Nat) (hd oh : Int32) : Prop := ∃ f k e j l m, SLx ar T n I H K W Z V f k p e i j l m hd oh ∧ C e j hd oh
/-- what comes at the end e of a block, j in the instructions -/
def CX : Nat → Nat → Nat → Int32 → Int32 → Prop
  | 0 => fun _ _ _ _ => False
  | c + 1 => fun e j hd oh => j < z ∧ ∃ o, V e = nI o ∧ o < 152 ∧ ((K o = 0 ∧ I j = iw 1 0 ∧ I (j + 1) = iw 0 0 ∧ j + 1 < z ∧ hd = -1 ∧ oh = -1)
      ∨ ((K o = 1 ∨ K o = 4) ∧ PSn ar T n I H K W Z V (CX c) (e + 1) j hd oh)
      ∨ (K o = 2 ∧ ∃ w i0, W o = nI w ∧ I j = iw 10 (nI i0) ∧ ¬ T w = 125 ∧ PSn ar T n I H K W Z V (CX c) w i0 hd oh)
      ∨ (K o = 3 ∧ ∃ e2 i2 hd2 oh2, V (e + 1) = nI e2 ∧ V e2 = nI (e + 1) ∧ e + 1 < 152 ∧ K (e + 1) = 4 ∧ I j = iw 10 (nI i2) ∧ hd = nI (j + 1) ∧ oh = nI o ∧ V o = nI e ∧ PSn ar T n I H K W Z V (CX c) (e2 + 1) i2 hd2 oh2 ∧ ∃ f k l m, SLx ar T n I H K W Z V f k (e + 2) e2 (j + 1) i2 l m hd2 oh2))
def FR (p i : Nat) (hd oh : Int32) : Prop := ∃ c, PSn ar T n I H K W Z V (CX ar T n z I H K W Z V c) p i hd oh
end RA
section RB
variable {ar T : Nat → Int32} {n z : Nat} {I H K W Z V : Nat → Int32} {p i : Nat} {hd oh : Int32}
theorem sl_p (hT : TX T n) {f k e j l m : Nat} (h : SLx ar T n I H K W Z V f k p e i j l m hd oh) : p < n ∧ e < n ∧ p ≤ e ∧ i ≤ j := by
  have h1 := sl_run hT _ _ _ _ _ _ _ _ _ _ h
  have h2 := sl_mono hT _ _ _ _ _ _ _ _ _ _ h
  exact ⟨by omega, h1.1, h1.2.1, h2.2.1⟩
theorem cx_j {c e j : Nat} (h : CX ar T n z I H K W Z V c e j hd oh) : j < z := by
  cases c with
  | zero => exact h.elim
  | succ c => exact h.1
theorem fr_p (hT : TX T n) (h : FR ar T n z I H K W Z V p i hd oh) : p < n ∧ i < z := by
  obtain ⟨c, f, k, e, j, l, m, h1, h2⟩ := h
  have := sl_p hT h1
  have := cx_j h2
  omega
theorem fr_cl (hT : TX T n) (h : FR ar T n z I H K W Z V p i hd oh) (h125 : T p = 125) : i < z ∧ ∃ o, V p = nI o ∧ o < 152 ∧ ((K o = 0 ∧ I i = iw 1 0 ∧ I (i + 1) = iw 0 0 ∧ i + 1 < z)
      ∨ ((K o = 1 ∨ K o = 4) ∧ FR ar T n z I H K W Z V (p + 1) i hd oh)
      ∨ (K o = 2 ∧ ∃ w i0, W o = nI w ∧ I i = iw 10 (nI i0) ∧ ¬ T w = 125 ∧ FR ar T n z I H K W Z V w i0 hd oh)
      ∨ (K o = 3 ∧ ∃ e2 i2 hd2 oh2, V (p + 1) = nI e2 ∧ p < e2 ∧ I i = iw 10 (nI i2) ∧ FR ar T n z I H K W Z V (e2 + 1) i2 hd2 oh2)) := by
  obtain ⟨c, f, k, e, j, l, m, h1, h2⟩ := h
  have hj := cx_j h2
  cases f with
  | zero => exact h1.elim
  | succ f =>
    rcases h1 with ⟨rfl, rfl, -, -, -⟩ | ⟨q, x, l1, h3, -⟩
    · cases c with
      | zero => exact h2.elim
      | succ c =>
        obtain ⟨h3, o, h4, h5, h6⟩ := h2
        refine ⟨h3, o, h4, h5, ?_⟩
        rcases h6 with h6 | h6 | ⟨g1, w, i0, g2, g3, g4, g5⟩ | ⟨g1, e2, i2, hd2, oh2, g2, g3, g4, g5, g6, g7, g8, g9, g10, f2, k2, l2, m2, g11⟩
        · exact Or.inl ⟨h6.1, h6.2.1, h6.2.2.1, h6.2.2.2.1⟩
        · exact Or.inr (Or.inl ⟨h6.1, c, h6.2⟩)
        · exact Or.inr (Or.inr (Or.inl ⟨g1, w, i0, g2, g3, g4, c, g5⟩))
        · have := sl_p hT g11
          exact Or.inr (Or.inr (Or.inr ⟨g1, e2, i2, hd2, oh2, g2, by omega, g6, c, g10⟩))
    · exact absurd h125 h3.1
theorem cx_h (hT : TX T n) : ∀ (c e j : Nat) (hd oh : Int32), CX ar T n z I H K W Z V c e j hd oh → (hd = -1 ∧ oh = -1) ∨ ∃ o e x hd2 oh2, oh = nI o ∧ o < 152 ∧ hd = nI x ∧ x < z ∧ V o = nI e ∧ e < n ∧ FR ar T n z I H K W Z V (e + 2) x hd2 oh2 := by
  intro c
  induction c with
  | zero => intro e j hd oh h; exact h.elim
  | succ c ih =>
    intro e j hd oh h
    obtain ⟨h3, o, h4, h5, h6⟩ := h
    rcases h6 with h6 | ⟨-, f, k, e2, j2, l, m, g1, g2⟩ | ⟨-, w, i0, -, -, -, f, k, e2, j2, l, m, g1, g2⟩ | ⟨g1, e2, i2, hd2, oh2, g2, g3, g4, g5, g6, g7, g8, g9, g10, f2, k2, l2, m2, g11⟩
    · exact Or.inl h6.2.2.2.2
    · exact ih _ _ _ _ g2
    · exact ih _ _ _ _ g2
    · have hb := sl_p hT g11
      have hi2 : i2 < z := by
        obtain ⟨f3, k3, e3, j3, l3, m3, q1, q2⟩ := g10
        have := sl_p hT q1
        have := cx_j q2
        omega
      refine Or.inr ⟨o, e, j + 1, hd2, oh2, g8, h5, g7, by omega, g9, by omega, c + 1, f2, k2, e2, i2, l2, m2, g11, hi2, e + 1, g3, g4, Or.inr (Or.inl ⟨Or.inr g5, g10⟩)⟩
theorem fr_h (hT : TX T n) (h : FR ar T n z I H K W Z V p i hd oh) : (hd = -1 ∧ oh = -1) ∨ ∃ o e x hd2 oh2, oh = nI o ∧ o < 152 ∧ hd = nI x ∧ x < z ∧ V o = nI e ∧ e < n ∧ FR ar T n z I H K W Z V (e + 2) x hd2 oh2 := by
  obtain ⟨c, f, k, e, j, l, m, h1, h2⟩ := h
  exact cx_h hT c e j hd oh h2
theorem fr_st (hT : TX T n) (hz : z < 2 ^ 27) (h : FR ar T n z I H K W Z V p i hd oh) (h125 : ¬ T p = 125) : ∃ l, l < 40 ∧ i < z ∧ p < n ∧ I i = iw 5 (nI l) ∧ Z p = nI l ∧ trF T K V p p = oh ∧
    ((∃ e J, ((97 ≤ T p ∧ T p ≤ 102 ∧ T (p + 1) = 61) ∨ T p = 33 ∨ T p = 94 ∨ T p = 35) ∧ sm ar T (p + sx T p) true (0, 0, 0) [] = some (e, J) ∧ T e = 59 ∧ e < n ∧ At I (i + 1) (J ++ [endI (T p)]) ∧ Hr H (i + 1) (i + 2 + J.length) hd ∧ FR ar T n z I H K W Z V (e + 1) (i + 2 + J.length) hd oh)
    ∨ (∃ b J j c, (T p = 63 ∨ T p = 64) ∧ sm ar T (p + 1) true (0, 0, 0) [] = some (b, J) ∧ T b = 123 ∧ At I (i + 1) (J ++ [iw 9 (nI j)]) ∧ Hr H (i + 1) (i + 2 + J.length) hd ∧ V b = nI c ∧ b < c ∧ c < n ∧ FR ar T n z I H K W Z V (b + 1) (i + 2 + J.length) hd oh ∧ FR ar T n z I H K W Z V (c + 1) j hd oh)
    ∨ (T p = 126 ∧ T (p + 1) = 123 ∧ ∃ hd2 oh2, FR ar T n z I H K W Z V (p + 2) (i + 1) hd2 oh2)) := by
  obtain ⟨c, f, k, e, j, l, m, h1, h2⟩ := h
  have hj := cx_j h2
  have hi := sl_p hT h1
  have hn := hT.1
  cases f with
  | zero => exact h1.elim
  | succ f =>
    rcases h1 with ⟨-, -, -, h3, -⟩ | ⟨q, x, l1, h3, h4⟩
    · exact absurd h3 h125
    · have hm := ss_mono hT (fun a b c d u v x y z => sl_mono hT _ _ _ _ _ _ _ _ _ _ z.2) h3
      have hq := sl_p hT h4
      have hrest : FR ar T n z I H K W Z V q x hd oh := ⟨c, f, k, e, j, l1, m, h4, h2⟩
      obtain ⟨a1, a2, a3, a4, ⟨a5, a6⟩, a7⟩ := h3
      refine ⟨l, a2, by omega, a3, a4, a5, a6, ?_⟩
      rcases a7 with ⟨e, J, g1, g2, g3, g4, g5, g6, g7, g8, g9⟩ | ⟨b, e3, y, J, g1, g2, g3, g4, g5, g6, g7, ⟨g81, g82, g83, g84⟩, g9, g10, g11⟩ | ⟨e3, y, e2, l2, g1, g2, g3, g4, ⟨g51, g52, g53, g54⟩, g6, g7, g8, g9, ⟨g101, g102, g103, g104⟩, g11⟩
      · subst g7 g8
        exact Or.inl ⟨e, J, g1, g2, g3, g4, g5, g6, hrest⟩
      · subst g9
        have hb := sl_p hT g6.2
        have hyx : y ≤ x ∧ (T p = 63 → x = y) ∧ (T p = 64 → I y = iw 10 (nI i) ∧ x = y + 1) := by
          rcases g1 with c1 | c1
          · have := g10 c1; exact ⟨by omega, fun _ => this, fun c2 => by rw [c1] at c2; exact absurd c2 (by decide)⟩
          · have := g11 c1; exact ⟨by omega, fun c2 => by rw [c1] at c2; exact absurd c2 (by decide), fun _ => this⟩
        refine Or.inr (Or.inl ⟨b, J, x, e3, g1, g2, g3, g4, g5, g83, by omega, hb.2.1, ?_, hrest⟩)
        refine ⟨c + 1, f, k - 1, e3, y, l + 1, l1, g6.2, by omega, b, g84, by omega, ?_⟩
        rcases g1 with c1 | c1
        · rw [if_pos c1] at g81
          have := hyx.2.1 c1
          subst this
          exact Or.inr (Or.inl ⟨Or.inl g81, f, k, e, j, l1, m, h4, h2⟩)
        · rw [if_neg (by rw [c1]; decide)] at g81
          have := hyx.2.2 c1
          refine Or.inr (Or.inr (Or.inl ⟨g81, p, i, g82, this.1, h125, f + 1, k, e, j, l, m, Or.inr ⟨e3 + 1, x, l1, ⟨a1, a2, a3, a4, ⟨a5, a6⟩, Or.inr (Or.inl ⟨b, e3, y, J, Or.inr c1, g2, g3, g4, g5, g6, g7, ⟨?_, g82, g83, g84⟩, rfl, g10, g11⟩)⟩, h4⟩, h2⟩))
          rw [if_neg (by rw [c1]; decide)]
          exact g81
      · subst g11
        have hb := sl_p hT g3.2
        have hb2 := sl_p hT g8.2
        refine Or.inr (Or.inr ⟨g1, g2, nI (y + 1), nI (p + 1), c + 1, f, k - 1, e3, y, l + 1, l2, g3.2, by omega, p + 1, g54, by omega, Or.inr (Or.inr (Or.inr ⟨g51, e2, x, hd, oh, g103, g104, by omega, g101, g6, rfl, rfl, g53, ⟨f, k, e, j, l1, m, h4, h2⟩, f, k - 1, l2, l1, g8.2⟩))⟩)
theorem fb_fr (hT : TX T n) {S : Nat → Int32} {bd : Nat → Nat} {ln f : Nat} (hb : bd f < 152) (h : FB ar T n I H S K W Z V bd z ln f) : ∃ i, S f = nI i ∧ FR ar T n z I H K W Z V (bd f + 1) i (-1) (-1) := by
  obtain ⟨e, i, j, l, m, fu, h1, h2, h3, h4, h5, h6, h7, h8, h9, h10, h11, h12⟩ := h
  exact ⟨i, h3, 1, fu, 5, e, j, l, m, h4, by omega, bd f, h8, hb, Or.inl ⟨h6, h9, h10, by omega, rfl, rfl⟩⟩
end RB

-- THE TREE of statements: p to e in the text, i to j in the instructions, l to m in the lines; hd the handler, oh the try around
abbrev RR := Nat → Nat → Nat → Nat → Nat → Nat → Int32 → Int32 → Prop
def Hr (H : Nat → Int32) (a b : Nat) (hd : Int32) : Prop := ∀ k, a ≤ k → k < b → H k = hd
def endI (c : Int32) : Int32 := if c = 33 then iw 7 0 else if c = 94 then iw 0 0 else if c = 35 then iw 8 0 else iw 6 (c - 97)
section SD
variable (ar T : Nat → Int32) (n : Nat) (XS : Nat → Nat → Int32 → Prop) (XB : Nat → Nat → Nat → Nat → Prop) (I H : Nat → Int32)
def SSim (p q i j l m : Nat) (hd : Int32) : Prop := ∃ (e : Nat) (J : List Int32), ((97 ≤ T p ∧ T p ≤ 102 ∧ T (p + 1) = 61) ∨ T p = 33 ∨ T p = 94 ∨ T p = 35) ∧ sm ar T (p + sx T p) true (0, 0, 0) [] = some (e, J) ∧ T e = 59 ∧ e < n ∧ At I (i + 1) (J ++ [endI (T p)]) ∧ Hr H (i + 1) (i + 2 + J.length) hd ∧ q = e + 1 ∧ j = i + 2 + J.length ∧ m = l + 1
def SGrd (R : RR) (p q i j l m : Nat) (hd oh : Int32) : Prop := ∃ (b e x : Nat) (J : List Int32), (T p = 63 ∨ T p = 64) ∧ sm ar T (p + 1) true (0, 0, 0) [] = some (b, J) ∧ T b = 123 ∧ At I (i + 1) (J ++ [iw 9 (nI j)]) ∧ Hr H (i + 1) (i + 2 + J.length) hd ∧ R (b + 1) e (i + 2 + J.length) x (l + 1) m hd oh ∧ T e = 125 ∧ XB b (if T p = 63 then 1 else 2) p e ∧ q = e + 1 ∧ (T p = 63 → j = x) ∧ (T p = 64 → I x = iw 10 (nI i) ∧ j = x + 1)
def STry (R : RR) (p q i j l m : Nat) (hd oh : Int32) : Prop := ∃ e x e2 l1 : Nat, T p = 126 ∧ T (p + 1) = 123 ∧ R (p + 2) e (i + 1) x (l + 1) l1 (nI (x + 1)) (nI (p + 1)) ∧ T e = 125 ∧ XB (p + 1) 3 p e ∧ I x = iw 10 (nI j) ∧ T (e + 1) = 123 ∧ R (e + 2) e2 (x + 1) j l1 m hd oh ∧ T e2 = 125 ∧ XB (e + 1) 4 p e2 ∧ q = e2 + 1
def SS (R : RR) (p q i j l m : Nat) (hd oh : Int32) : Prop := ¬ T p = 125 ∧ l < 40 ∧ p < n ∧ I i = iw 5 (nI l) ∧ XS p l oh ∧ (SSim ar T n I H p q i j l m hd ∨ SGrd ar T XB I H R p q i j l m hd oh ∨ STry T XB I R p q i j l m hd oh)
def SL : Nat → Nat → RR
  | 0, _ => fun _ _ _ _ _ _ _ _ => False
  | f + 1, k => fun p e i j l m hd oh => (p = e ∧ i = j ∧ l = m ∧ T p = 125 ∧ p < n) ∨ ∃ q x l1 : Nat, SS ar T n XS XB I H (fun a b c d u v hd oh => 0 < k ∧ SL f (k - 1) a b c d u v hd oh) p q i x l l1 hd oh ∧ SL f k q e x j l1 m hd oh
end SD
section SE2
variable {ar T : Nat → Int32} {n : Nat} {XS : Nat → Nat → Int32 → Prop} {XB : Nat → Nat → Nat → Nat → Prop} {I H I' H' : Nat → Int32}
theorem ss_up {R R' : RR} {p q i j l m : Nat} {hd oh : Int32} (hR : ∀ a b c d u v x y, R a b c d u v x y → R' a b c d u v x y) (h : SS ar T n XS XB I H R p q i j l m hd oh) : SS ar T n XS XB I H R' p q i j l m hd oh := by
  obtain ⟨h1, h2, h3, h4, h5, h6⟩ := h
  refine ⟨h1, h2, h3, h4, h5, ?_⟩
  rcases h6 with h6 | ⟨b, e, x, J, g1, g2, g3, g4, g5, g6, g7⟩ | ⟨e, x, e2, l1, g1, g2, g3, g4, g5, g6, g7, g8, g9⟩
  · exact Or.inl h6
  · exact Or.inr (Or.inl ⟨b, e, x, J, g1, g2, g3, g4, g5, hR _ _ _ _ _ _ _ _ g6, g7⟩)
  · exact Or.inr (Or.inr ⟨e, x, e2, l1, g1, g2, hR _ _ _ _ _ _ _ _ g3, g4, g5, g6, g7, hR _ _ _ _ _ _ _ _ g8, g9⟩)
theorem sl_up1 : ∀ (f k p e i j l m : Nat) (hd oh : Int32), SL ar T n XS XB I H f k p e i j l m hd oh → SL ar T n XS XB I H (f + 1) k p e i j l m hd oh := by
  intro f
  induction f with
  | zero => intro k p e i j l m hd oh h; exact h.elim
  | succ f ih =>
    intro k p e i j l m hd oh h
    rcases h with h | ⟨q, x, l1, h1, h2⟩
    · exact Or.inl h
    · exact Or.inr ⟨q, x, l1, ss_up (fun a b c d u v x y z => ⟨z.1, ih _ _ _ _ _ _ _ _ _ z.2⟩) h1, ih _ _ _ _ _ _ _ _ _ h2⟩
theorem sl_up {f g k p e i j l m : Nat} {hd oh : Int32} (hfg : f ≤ g) (h : SL ar T n XS XB I H f k p e i j l m hd oh) : SL ar T n XS XB I H g k p e i j l m hd oh := by
  induction g with
  | zero =>
    have : f = 0 := by omega
    subst this
    exact h
  | succ g ih =>
    by_cases c : f = g + 1
    · subst c; exact h
    · exact sl_up1 _ _ _ _ _ _ _ _ _ _ (ih (by omega))
theorem ss_mono {R : RR} {p q i j l m : Nat} {hd oh : Int32} (hT : TX T n) (hR : ∀ a b c d u v x y, R a b c d u v x y → a ≤ b ∧ c ≤ d ∧ u ≤ v) (h : SS ar T n XS XB I H R p q i j l m hd oh) : p < q ∧ i < j ∧ l < m := by
  obtain ⟨h1, h2, h3, h4, h5, h6⟩ := h
  have hn := hT.1
  rcases h6 with ⟨e, J, g1, g2, g3, g4, g5, g6, g7, g8, g9⟩ | ⟨b, e, x, J, g1, g2, g3, g4, g5, g6, g7, g8, g9, g10, g11⟩ | ⟨e, x, e2, l1, g1, g2, g3, g4, g5, g6, g7, g8, g9, g10, g11⟩
  · have : p < e := by
      have hx : p + sx T p ≤ n ∧ p < p + sx T p := by
        unfold sx
        rcases g1 with g1 | g1
        · rw [if_pos ⟨g1.1, g1.2.1⟩]
          have := tx_lt hT (p := p + 1) (by omega) (by rw [g1.2.2]; decide)
          omega
        · rw [if_neg (by rcases g1 with e | e | e <;> rw [e] <;> decide)]
          omega
      have := (sm_rng hT 152 _ _ _ _ _ _ (by omega) hx.1 g2).2.1
      omega
    omega
  · have h7 := hR _ _ _ _ _ _ _ _ g6
    have h8 := (sm_rng hT 152 _ _ _ _ _ _ (by omega) (show p + 1 ≤ n by omega) g2).2.1
    rcases g1 with e1 | e1
    · have := g10 e1; omega
    · have := (g11 e1).2; omega
  · have h7 := hR _ _ _ _ _ _ _ _ g3
    have h8 := hR _ _ _ _ _ _ _ _ g8
    omega
theorem sl_mono (hT : TX T n) : ∀ (f k p e i j l m : Nat) (hd oh : Int32), SL ar T n XS XB I H f k p e i j l m hd oh → p ≤ e ∧ i ≤ j ∧ l ≤ m := by
  intro f
  induction f with
  | zero => intro k p e i j l m hd oh h; exact h.elim
  | succ f ih =>
    intro k p e i j l m hd oh h
    rcases h with h | ⟨q, x, l1, h1, h2⟩
    · omega
    · have h3 := ss_mono hT (fun a b c d u v x y z => ih _ _ _ _ _ _ _ _ _ z.2) h1
      have h4 := ih _ _ _ _ _ _ _ _ _ h2
      omega
def gm (z x : Int32) : Int32 := if x = -1 then z else x
theorem sl_map (hT : TX T n) {z : Int32} : ∀ (f k p e i j l m : Nat) (hd oh : Int32), (∀ y, i ≤ y → y < j → I' y = I y ∧ H' y = gm z (H y)) → j < 2 ^ 31 - 1 → SL ar T n XS XB I H f k p e i j l m hd oh → SL ar T n XS XB I' H' f k p e i j l m (gm z hd) oh := by
  intro f
  induction f with
  | zero => intro k p e i j l m hd oh hc hj h; exact h
  | succ f ih =>
    intro k p e i j l m hd oh hc hj h
    rcases h with h | ⟨q, x, l1, h1, h2⟩
    · exact Or.inl h
    · have h3 := ss_mono hT (fun a b c d u v x y z => sl_mono hT _ _ _ _ _ _ _ _ _ _ z.2) h1
      have h4 := sl_mono hT _ _ _ _ _ _ _ _ _ _ h2
      refine Or.inr ⟨q, x, l1, ?_, ih _ _ _ _ _ _ _ _ _ (fun y h7 h8 => hc y (by omega) h8) hj h2⟩
      obtain ⟨a1, a2, a3, a4, a5, a6⟩ := h1
      refine ⟨a1, a2, a3, by rw [(hc i (by omega) (by omega)).1]; exact a4, a5, ?_⟩
      rcases a6 with ⟨e, J, g1, g2, g3, g4, g5, g6, g7, g8, g9⟩ | ⟨b, e, y, J, g1, g2, g3, g4, g5, g6, g7, g8, g9, g10, g11⟩ | ⟨e, y, e2, l2, g1, g2, g3, g4, g5, g6, g7, g8, g9, g10, g11⟩
      · refine Or.inl ⟨e, J, g1, g2, g3, g4, at_congr _ _ (fun y h7 h8 => ?_) g5, fun y h7 h8 => ?_, g7, g8, g9⟩
        · rw [List.length_append, List.length_singleton] at h8
          exact (hc y (by omega) (by omega)).1
        · rw [(hc y (by omega) (by omega)).2, g6 y h7 h8]
      · have h5 := sl_mono hT _ _ _ _ _ _ _ _ _ _ g6.2
        have h6 : y ≤ x := by
          rcases g1 with e1 | e1
          · have := g10 e1; omega
          · have := (g11 e1).2; omega
        refine Or.inr (Or.inl ⟨b, e, y, J, g1, g2, g3, at_congr _ _ (fun y h7 h8 => ?_) g4, fun y h7 h8 => ?_, ⟨g6.1, ih _ _ _ _ _ _ _ _ _ (fun y h7 h8 => hc y (by omega) (by omega)) (by omega) g6.2⟩, g7, g8, g9, g10, fun e1 => ?_⟩)
        · rw [List.length_append, List.length_singleton] at h8
          exact (hc y (by omega) (by omega)).1
        · rw [(hc y (by omega) (by omega)).2, g5 y h7 h8]
        · have h7 := g11 e1
          exact ⟨by rw [(hc y (by omega) (by omega)).1]; exact h7.1, h7.2⟩
      · have h5 := sl_mono hT _ _ _ _ _ _ _ _ _ _ g3.2
        have h6 := sl_mono hT _ _ _ _ _ _ _ _ _ _ g8.2
        have hgo := ih _ _ _ _ _ _ _ _ _ (fun y h7 h8 => hc y (by omega) (by omega)) (by omega) g3.2
        rw [show gm z (nI (y + 1)) = nI (y + 1) from if_neg (nI_m1 (by omega))] at hgo
        exact Or.inr (Or.inr ⟨e, y, e2, l2, g1, g2, ⟨g3.1, hgo⟩, g4, g5, by rw [(hc y (by omega) (by omega)).1]; exact g6, g7, ⟨g8.1, ih _ _ _ _ _ _ _ _ _ (fun y h7 h8 => hc y (by omega) (by omega)) (by omega) g8.2⟩, g9, g10, g11⟩)
end SE2

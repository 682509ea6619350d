-- OTHER TABLES of the same text: places stay places
section TR1
variable {ar T : Nat → Int32} {n z : Nat} {I H K W Z V K' W' Z' V' : Nat → Int32} {p i : Nat} {hd oh : Int32}
theorem nI_inj {a b : Nat} (ha : a < 2 ^ 31) (hb : b < 2 ^ 31) (h : nI a = nI b) : a = b := (nI_eq ha hb).mp h
def AgV (T : Nat → Int32) (n : Nat) (K W Z V K' W' Z' V' : Nat → Int32) : Prop := (∀ x, x < n → T x = 123 → K' x = K x ∧ V' x = V x ∧ (¬ K x = 0 → W' x = W x)) ∧ (∀ x, x < n → T x = 125 → V' x = V x ∧ ∃ o, V x = nI o ∧ o < x ∧ T o = 123) ∧ ∀ x, x < n → Z' x = Z x
theorem agv_rfl (hpar : ∀ x, x < n → T x = 125 → ∃ o, V x = nI o ∧ o < x ∧ T o = 123) : AgV T n K W Z V K W Z V := ⟨fun _ _ _ => ⟨rfl, rfl, fun _ => rfl⟩, fun x h1 h2 => ⟨rfl, hpar x h1 h2⟩, fun _ _ => rfl⟩
theorem trF_ag (hA : AgV T n K W Z V K' W' Z' V') : ∀ m, m ≤ n → trF T K' V' p m = trF T K V p m := by
  intro m
  induction m with
  | zero => exact fun _ => rfl
  | succ m ih =>
    intro hm
    have e : trF T K' V' p (m + 1) = if T m = 123 ∧ K' m = 3 ∧ nI p < V' m then nI m else trF T K' V' p m := rfl
    have e2 : trF T K V p (m + 1) = if T m = 123 ∧ K m = 3 ∧ nI p < V m then nI m else trF T K V p m := rfl
    rw [e, e2, ih (by omega)]
    by_cases c : T m = 123
    · obtain ⟨a1, a2, a3⟩ := hA.1 m (by omega) c
      rw [a1, a2]
    · rw [if_neg (fun z => c z.1), if_neg (fun z => c z.1)]
theorem sl_e : ∀ (f k p e i j l m : Nat) (hd oh : Int32), SLx ar T n I H K W Z V f k p e i j l m hd oh → T e = 125 ∧ e < n := by
  intro f
  induction f with
  | zero => exact fun _ _ _ _ _ _ _ _ _ h => h.elim
  | succ f ih =>
    intro k p e i j l m hd oh h
    rcases h with ⟨h1, h2, h3, h4, h5⟩ | ⟨q, x, l1, h1, h2⟩
    · rw [← h1]; exact ⟨h4, h5⟩
    · exact ih _ _ _ _ _ _ _ _ _ h2
theorem xb_ag (hA : AgV T n K W Z V K' W' Z' V') {b g p e : Nat} (hb : b < n) (h1 : T b = 123) (he : e < n) (h2 : T e = 125) (hg : 0 < g ∧ g < 5) (h : XBf K W V b g p e) : XBf K' W' V' b g p e := by
  obtain ⟨x1, x2, x3, x4⟩ := h
  obtain ⟨a1, a2, a3⟩ := hA.1 b hb h1
  refine ⟨a1.trans x1, (a3 (fun z => ?_)).trans x2, a2.trans x3, (hA.2.1 e he h2).1.trans x4⟩
  rw [x1] at z
  have := nI_inj (a := g) (b := 0) (by omega) (by decide) z
  omega
theorem sl_ag (hT : TX T n) (hA : AgV T n K W Z V K' W' Z' V') : ∀ (f k p e i j l m : Nat) (hd oh : Int32), SLx ar T n I H K W Z V f k p e i j l m hd oh → SLx ar T n I H K' W' Z' V' f k p e i j l m hd oh := by
  intro f
  induction f with
  | zero => exact fun _ _ _ _ _ _ _ _ _ h => h
  | succ f ih =>
    intro k p e i j l m hd oh h
    rcases h with h | ⟨q, x, l1, ⟨s1, s2, s3, s4, ⟨s5, s6⟩, s7⟩, h2⟩
    · exact Or.inl h
    · refine Or.inr ⟨q, x, l1, ⟨s1, s2, s3, s4, ⟨(hA.2.2 p s3).trans s5, (trF_ag hA p (by omega)).trans s6⟩, ?_⟩, ih _ _ _ _ _ _ _ _ _ h2⟩
      rcases s7 with s7 | ⟨b, e1, x1, J, g1, g2, g3, g4, g5, ⟨g6, g7⟩, g8, g9, g10⟩ | ⟨e1, x1, e2, l2, g1, g2, ⟨g3, g4⟩, g5, g6, g7, g8, ⟨g9, g10⟩, g11, g12, g13⟩
      · exact Or.inl s7
      · have hs := sl_p hT g7
        exact Or.inr (Or.inl ⟨b, e1, x1, J, g1, g2, g3, g4, g5, ⟨g6, ih _ _ _ _ _ _ _ _ _ g7⟩, g8, xb_ag hA (by omega) g3 (by omega) g8 (by split <;> omega) g9, g10⟩)
      · have hs := sl_p hT g4
        have hs2 := sl_p hT g10
        exact Or.inr (Or.inr ⟨e1, x1, e2, l2, g1, g2, ⟨g3, ih _ _ _ _ _ _ _ _ _ g4⟩, g5, xb_ag hA (by omega) g2 (by omega) g5 (by omega) g6, g7, g8, ⟨g9, ih _ _ _ _ _ _ _ _ _ g10⟩, g11, xb_ag hA (by omega) g8 (by omega) g11 (by omega) g12, g13⟩)
theorem cx_ag (hT : TX T n) (hA : AgV T n K W Z V K' W' Z' V') : ∀ (c e j : Nat) (hd oh : Int32), T e = 125 → e < n → CX ar T n z I H K W Z V c e j hd oh → CX ar T n z I H K' W' Z' V' c e j hd oh := by
  have hn := hT.1
  intro c
  induction c with
  | zero => exact fun _ _ _ _ _ _ h => h
  | succ c ih =>
    intro e j hd oh h125 hen h
    obtain ⟨h1, o, h2, h3, h4⟩ := h
    obtain ⟨a1, o', a2, a3, a4⟩ := hA.2.1 e hen h125
    have hoo : o' = o := nI_inj (by omega) (by omega) (a2.symm.trans h2)
    subst hoo
    obtain ⟨b1, b2, b3⟩ := hA.1 o' (by omega) a4
    have hps : ∀ p i hd oh, PSn ar T n I H K W Z V (CX ar T n z I H K W Z V c) p i hd oh → PSn ar T n I H K' W' Z' V' (CX ar T n z I H K' W' Z' V' c) p i hd oh := fun p i hd oh ⟨f, k, e, j, l, m, q1, q2⟩ => by
      obtain ⟨z1, z2⟩ := sl_e _ _ _ _ _ _ _ _ _ _ q1
      exact ⟨f, k, e, j, l, m, sl_ag hT hA _ _ _ _ _ _ _ _ _ _ q1, ih _ _ _ _ z1 z2 q2⟩
    refine ⟨h1, o', a1.trans h2, h3, ?_⟩
    rcases h4 with ⟨k0, h4⟩ | ⟨k0, h4⟩ | ⟨k0, w, i0, w1, w2, w3, w4⟩ | ⟨k0, e2, i2, hd2, oh2, w1, w2, w3, w4, w5, w6, w7, w8, w9, f, k, l, m, w10⟩
    · exact Or.inl ⟨b1.trans k0, h4⟩
    · exact Or.inr (Or.inl ⟨by rw [b1]; exact k0, hps _ _ _ _ h4⟩)
    · exact Or.inr (Or.inr (Or.inl ⟨b1.trans k0, w, i0, (b3 (by rw [k0]; decide)).trans w1, w2, w3, hps _ _ _ _ w4⟩))
    · obtain ⟨z1, z2⟩ := sl_e _ _ _ _ _ _ _ _ _ _ w10
      obtain ⟨c1, o3, c2, c3, c4⟩ := hA.2.1 e2 z2 z1
      have : o3 = e + 1 := nI_inj (by omega) (by omega) (c2.symm.trans w2)
      subst this
      obtain ⟨d1, d2, d3⟩ := hA.1 (e + 1) (by omega) c4
      exact Or.inr (Or.inr (Or.inr ⟨b1.trans k0, e2, i2, hd2, oh2, d2.trans w1, c1.trans w2, w3, d1.trans w4, w5, w6, w7, b2.trans w8, hps _ _ _ _ w9, f, k, l, m, sl_ag hT hA _ _ _ _ _ _ _ _ _ _ w10⟩))
theorem fr_ag (hT : TX T n) (hA : AgV T n K W Z V K' W' Z' V') (h : FR ar T n z I H K W Z V p i hd oh) : FR ar T n z I H K' W' Z' V' p i hd oh := by
  obtain ⟨c, f, k, e, j, l, m, q1, q2⟩ := h
  obtain ⟨z1, z2⟩ := sl_e _ _ _ _ _ _ _ _ _ _ q1
  exact ⟨c, f, k, e, j, l, m, sl_ag hT hA _ _ _ _ _ _ _ _ _ _ q1, cx_ag hT hA _ _ _ _ _ z1 z2 q2⟩
end TR1

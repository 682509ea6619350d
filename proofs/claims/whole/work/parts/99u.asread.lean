-- AN ASIDE'S TEXT: readAside and readRow take the same texts
section AR1
variable {xs : Nat → Int32} {L d i : Nat} {h hc hm hc2 hm2 : Hp} {x : PDt} {pg : Nat} {ar T tx : Nat → Int32} {n : Nat} {s : TS}
theorem as_link (hTC : TC T tx n) (hTX : TX T n) (hA : Ars ar) (h0 : s.1 = 0 ∧ s.2.1 = 0 ∧ s.2.2.1 = 0) (hF : ∀ f, f < 4 → aA s f = -1) : (cAcx n ar (cE n tx 5 s) ∧ rowK ar T n = true ∧ ∃ J, sm ar T 0 true (0, 0, 0) [] = some (n, J) ∧ At (aI (cEmit 0 0 (cE n tx 5 s).2)) 0 J ∧ aI (cEmit 0 0 (cE n tx 5 s).2) J.length = iw 0 0 ∧ (cEmit 0 0 (cE n tx 5 s).2).2.1 = J.length + 1 ∧ J.length < 151 ∧ ∀ k, k < J.length + 1 → aH (cEmit 0 0 (cE n tx 5 s).2) k = -1) ∨ (¬ cAcx n ar (cE n tx 5 s) ∧ rowK ar T n = false) := by
  have hn := hTX.1
  have hx : ∀ y, sm ar T 0 true (0, 0, 0) [] = y → rowK ar T n = (decide (0 < n) && (match y with
      | some x => decide (x.1 = n)
      | none => false)) := fun y hy => by unfold rowK; rw [hy]; cases y <;> rfl
  rcases lk_E hTC hTX hA 5 (Nat.le_refl _) s (0, 0, 0) [] ⟨by omega, by omega, by omega⟩ (by omega) (fun f hf => Or.inl (hF f hf)) rfl rfl with ⟨⟨r1, r2, r3, J, r4, r5, r6⟩, r7⟩ | ⟨r1, r2⟩
  · rw [h0.1] at r6 r5
    by_cases c : (cE n tx 5 s).2.1 = n
    · rw [sm_end (by omega) r7] at r6
      have r6 : sm ar T 0 true (0, 0, 0) [] = some ((cE n tx 5 s).2.1, J ++ []) := r6
      rw [List.append_nil, c] at r6
      have hJ : J.length ≤ n := by omega
      have hz : (cE n tx 5 s).2.2.1 = J.length := by have := r4.1; omega
      have e2 := em_emit (s := (cE n tx 5 s).2) (op := 0) (x := 0) (by omega)
      refine Or.inl ⟨⟨r1, c, fit_4.mpr r2⟩, ?_, J, r6, ?_, ?_, ?_, by omega, fun k hk => ?_⟩
      · rw [hx _ r6]
        have h1 : 0 < n := by omega
        simp [h1]
      · have h1 := r4.2.2.2.1
        rw [h0.2.1] at h1
        exact at_congr J 0 (fun k k1 k2 => (e2.2.2.1 k (by omega)).1) h1
      · have := e2.2.2.2.1
        rw [hz] at this
        exact this.1
      · rw [e2.1, hz]; rfl
      · by_cases q : k < J.length
        · rw [(e2.2.2.1 k (by omega)).2]
          exact r4.2.2.2.2.1 k (by omega) (by omega)
        · exact e2.2.2.2.2.1 k (by omega) (by have := e2.1; rw [hz] at this; rw [this]; show k < J.length + 1; omega)
    · refine Or.inr ⟨fun z => c z.2.1, ?_⟩
      by_cases hp : (cE n tx 5 s).2.1 < 152
      · rw [sm_end hp r7] at r6
        have r6 : sm ar T 0 true (0, 0, 0) [] = some ((cE n tx 5 s).2.1, J ++ []) := r6
        rw [hx _ r6]
        simp [c]
      · rw [sm_hi (p := (cE n tx 5 s).2.1) (by omega)] at r6
        have r6 : sm ar T 0 true (0, 0, 0) [] = none := r6
        rw [hx _ r6]
        simp
  · rw [h0.1] at r1
    refine Or.inr ⟨fun z => ?_, by rw [hx _ r1]; simp⟩
    rcases r2 with e | e | e
    · rw [z.1] at e; cases e
    · exact e (fit_4.mp z.2.2)
    · rw [z.2.1, hTX.2.2 n (Nat.le_refl _) (by omega)] at e
      unfold isDg at e
      exact absurd e (by decide)
theorem ars_0 (hg : PRG x pg hc hm) : Ars (arC x.r) := (pu_0 hg (tf := 0)).2.2.2.2.2.1
theorem ar_hm (hg : PRG x pg hc hm) (hs : ∀ f, f < 4 → ∃ k, k ≤ 3 ∧ hI hm 57 f = nI k) : AR hm (arC x.r) := fun f hf => by
  obtain ⟨k, k1, k2⟩ := hs f hf
  obtain ⟨b1, b2⟩ := hg.1.2.2.2.2.1 f hf
  refine ⟨x.bd f, k, hg.2.2.1.2.2.1 f hf, by omega, k2, k1, ?_⟩
  unfold arC
  rw [if_pos hf]
  by_cases c : x.bd f = 0
  · rw [if_pos c]; exact b2.mpr c
  · rw [if_neg c, ← k2, hg.2.2.1.2.2.2.1 f hf (by omega)]
/-- what readAside leaves as it was -/
def RaC (hc hc1 : Hp) : Prop := (∀ o, o < hN hc → ¬ (6 ≤ o ∧ o < 12) → Sm1 hc hc1 o) ∧ (∀ o, o < hN hc → hK hc1 o = hK hc o ∧ hL hc1 o = hL hc o) ∧ TSh hc1 ∧ hN hc ≤ hN hc1 ∧ hN hc1 ≤ hN hc + 3 ∧ hU hc1 ≤ hU hc + 305
/-- what readRow leaves as it was -/
def RwM (hm hm1 : Hp) : Prop := hN hm1 = hN hm ∧ hU hm1 = hU hm ∧ (∀ o, hK hm1 o = hK hm o ∧ hL hm1 o = hL hm o ∧ ∀ k, hR hm1 o k = hR hm o k) ∧ (∀ o k, ¬ (o = 49 ∧ k = 0) → ¬ (o = 51 ∧ 6232 ≤ k) → ¬ o = 60 → ¬ o = 61 → hI hm1 o k = hI hm o k) ∧ hI hm1 49 0 = 0 ∧ ∀ j, j < 152 → 32 ≤ hI hm1 51 (6232 + j) ∧ hI hm1 51 (6232 + j) ≤ 126
theorem t0_mk (hD : DK hc) (hT : TSh hc) (hn : n ≤ 150) (h41 : hI hc 4 1 = nI n) (ht : ∀ j, j < n → 32 ≤ hI hc 5 j ∧ hI hc 5 j ≤ 126) : T0 hc n (hI hc 5) := by
  obtain ⟨t1, t2, t3, t4, t5⟩ := hT
  exact ⟨t1, t2, t3, ⟨t4, t5, h41⟩, hn, fun p hp => ⟨rfl, ht p hp⟩⟩
theorem ra_th (hT : TSh hc) : TSh (tH (bgR hc n) s) := by
  obtain ⟨⟨a1, a2, a3, a4, a5, a6⟩, t2, t3, t4, t5⟩ := hT
  have r : ∀ o k, ¬ (o = 6 ∧ k = 5) → hR (tH (bgR hc n) s) o k = hR hc o k := fun o k hn => by
    show hR (sR hc 6 5 (some 5)) o k = _
    rw [hR_sR, if_neg hn]
  exact ⟨⟨a1, (r 6 0 (by decide)).trans a2, (r 6 1 (by decide)).trans a3, (r 6 2 (by decide)).trans a4, (r 6 3 (by decide)).trans a5, (r 6 4 (by decide)).trans a6⟩, t2, t3, t4, (r 4 0 (by decide)).trans t5⟩
theorem th_sm {o : Nat} (ho : ¬ (6 ≤ o ∧ o < 12)) : Sm1 hc (tH (bgR hc n) s) o := by
  unfold tH bgR
  refine sm1_tr ?_ (sm1_sA (by omega))
  refine sm1_tr ?_ (sm1_sA (by omega))
  refine sm1_tr ?_ (sm1_sA (by omega))
  refine sm1_tr ?_ (sm1_sA (by omega))
  refine sm1_tr ?_ (sm1_sA (by omega))
  refine sm1_tr ?_ (sm1_sI (by omega))
  refine sm1_tr ?_ (sm1_sI (by omega))
  refine sm1_tr ?_ (sm1_sI (by omega))
  refine sm1_tr ?_ (sm1_sI (by omega))
  exact sm1_sR (by omega)
theorem as_read (hv : INV i hc hm) (hg : PRG x pg hc hm) : ∃ (c : Option Nat) (hc1 hm1 : Hp) (good : Bool), (∀ d, Rn xs L (d + 20) 30 [.inr (some 6), .inr (some 4), .inr (some pg)] hc (some (.inr c), hc1)) ∧ (∀ d, Rn xs L (d + 4) 109 [.inr (some 49), .inl (nI 41)] hm (some (.inl (bI good)), hm1)) ∧ RaC hc hc1 ∧ RwM hm hm1 ∧ ((c = none ∧ good = false) ∨ (good = true ∧ c = some (hN hc) ∧ hN hc1 = hN hc + 3 ∧ ASD (arC x.r) 41 (hN hc) hc1 hm1)) := by
  obtain ⟨⟨a1, a2, a3, a4, a5, a6, a7, a8⟩, ⟨n, b1, b2, b3, b4⟩, w, h4, h5, h6, h7⟩ := hv
  have hct : ∀ j, j < n → 32 ≤ hI hm 50 j ∧ hI hm 50 j ≤ 126 := fun j hj => by
    obtain ⟨q1, q2, q3⟩ := b4 j hj
    rw [q1]; exact ⟨q2, q3⟩
  have hTX : TX (tS hm n) n := tS_TX b1 hct
  have hTC : TC (tS hm n) (hI hc 5) n := ⟨b1, fun p hp => by unfold tS; rw [if_pos hp]; exact (b4 p hp).1, fun p hp => if_neg (by omega)⟩
  have hT0 := t0_mk a1 a4 b1 b2 (fun j hj => (b4 j hj).2)
  obtain ⟨⟨p1, p2, p3, p4, p5, p6, p7, p8⟩, -, -, -, -, -, p9⟩ := hg.2.2.2.2.2.2.1
  have hW : ∀ k, k < 4 → hI hc (pg + 5) k = arC x.r k := fun k hk => by rw [p9 k hk]; unfold arC; rw [if_pos hk]
  have hp80 := hg.2.2.2.2.1
  have hrow : ∃ hm1, (∀ d, Rn xs L (d + 4) 109 [.inr (some 49), .inl (nI 41)] hm (some (.inl (bI (rowK (arC x.r) (tS hm n) n))), hm1)) ∧ RwM hm hm1 ∧ ∀ j, j < 152 → hI hm1 51 (152 * 41 + j) = tS hm n j := by
    obtain ⟨F, G, r⟩ := m_row (xs := xs) (L := L) (d := 0) (r := 41) a8 (ar_hm hg h6.2.2.2.2.1) (by decide) b1 b3 hct
    have hr2 : ∀ j, j < 152 → hI (sI (eH (cpH 41 n hm) F G) 49 0 0) 51 (6232 + j) = tS hm n j := fun j hj => by
      rw [hI_ne (by omega)]
      unfold eH
      rw [hI_sA, if_neg (by decide), hI_sA, if_neg (by decide)]
      unfold cpH
      rw [hI_sA, if_pos rfl, if_pos (by omega), show 6232 + j - 152 * 41 = j from by omega]
    refine ⟨sI (eH (cpH 41 n hm) F G) 49 0 0, fun d => ?_, ⟨rfl, rfl, fun o => ⟨rfl, rfl, fun _ => rfl⟩, fun o k q1 q2 q3 q4 => ?_, hI_is, fun j hj => ?_⟩, hr2⟩
    · obtain ⟨F2, G2, r2⟩ := m_row (xs := xs) (L := L) (d := d) (r := 41) a8 (ar_hm hg h6.2.2.2.2.1) (by decide) b1 b3 hct
      exact rn_le (by omega) r
    · rw [hI_ne q1]
      unfold eH
      rw [hI_sA, if_neg q4, hI_sA, if_neg q3]
      unfold cpH
      rw [hI_sA]
      by_cases e : o = 51
      · subst e
        rw [if_pos rfl, if_neg (by omega)]
      · rw [if_neg e]
    · rw [hr2 j hj]
      unfold tS
      by_cases e : j < n
      · rw [if_pos e]; exact hct j e
      · rw [if_neg e]; decide
  obtain ⟨hm1, m1, m2, m3⟩ := hrow
  have hF4 : ∀ f, f < 4 → aA (s0 hc) f = -1 := fun f hf => if_pos hf
  rcases as_link (s := s0 hc) hTC hTX (ars_0 hg) ⟨rfl, rfl, rfl⟩ hF4 with ⟨l1, l2, J, l3, l4, l5, l6, l7, l8⟩ | ⟨l1, l2⟩
  · obtain ⟨g, g1, g2, g3, g4, ⟨g5, g6, g7⟩⟩ := t_ra_acc (xs := xs) (L := L) (d := 0) (pg := pg) (pa := pg + 5) hT0 p1 p4 p7 p8 hW (by omega) (by omega) a5 l1
    rw [l6] at g4 g5 g6 g7
    rw [l2] at m1
    refine ⟨some (hN hc), g, hm1, true, fun d => rn_le (by omega) g1, m1, ⟨fun o ho hn => ?_, fun o ho => ?_, ?_, by omega, by omega, by rw [g4]; omega⟩, m2, Or.inr ⟨rfl, rfl, g3, tS hm n, aI (cEmit 0 0 (cE n (hI hc 5) 5 (s0 hc)).2), n, J.length + 1, J, m3, hTX, by omega, g5, g6, fun k hk => (g7 k hk).trans (l8 k hk), l3, l4, l5, by omega⟩⟩
    · obtain ⟨z1, z2, z3, z4⟩ := g2 o ho
      exact sm1_tr (th_sm (n := n) (s := cEmit 0 0 (cE n (hI hc 5) 5 (s0 hc)).2) hn) ⟨z1, z2, z4, z3⟩
    · obtain ⟨z1, z2, z3, z4⟩ := g2 o ho
      exact ⟨z1, z2⟩
    · refine kp_tsh (N := 12) (by decide) (fun o q1 q2 => ?_) (ra_th (n := n) (s := cEmit 0 0 (cE n (hI hc 5) 5 (s0 hc)).2) a4)
      obtain ⟨z1, z2, z3, z4⟩ := g2 o (by omega)
      exact ⟨z1, z2, z4⟩
  · have g1 := t_ra_rej (xs := xs) (L := L) (d := 0) (pg := pg) (pa := pg + 5) hT0 p1 p4 p7 p8 hW (by omega) (by omega) l1
    rw [l2] at m1
    exact ⟨none, _, hm1, false, fun d => rn_le (by omega) g1, m1, ⟨fun o ho hn => th_sm hn, fun o ho => ⟨rfl, rfl⟩, ra_th a4, Nat.le_refl _, by show hN hc ≤ _; omega, by show hU hc ≤ _; omega⟩, m2, Or.inl ⟨rfl, rfl⟩⟩
end AR1

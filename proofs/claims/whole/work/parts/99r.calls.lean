-- CALLS that only look
section CL
variable {xs : Nat → Int32} {L d i : Nat} {h hc hm hc2 hm2 : Hp} {x : PDt} {pg B B2 l o : Nat} {ar : Nat → Int32}
theorem old_rfl : Old h h := ⟨Nat.le_refl _, fun _ _ _ => sm1_rfl⟩
theorem inv_up (hv : INV i hc hm) : INV (i + 1) hc hm := by
  obtain ⟨⟨a1, a2, a3, a4, a5, a6, a7, a8⟩, h2, h3, ⟨m, d1, d2⟩, ⟨u, e1, e2⟩, h6, h7⟩ := hv
  refine ⟨⟨a1, a2, a3, a4, a5, by omega, by omega, a8⟩, h2, h3, ⟨m, by omega, d2⟩, ⟨u, by omega, e2⟩, h6, ?_⟩
  rcases h7 with h7 | ⟨x, pg, g1, g2, g3⟩
  · exact Or.inl h7
  · exact Or.inr ⟨x, pg, g1, fun l hl => brk_fr (g2 l hl) (by omega) old_rfl rfl (fun _ _ => rfl) (fun _ _ => rfl), g3⟩
theorem cal_get {mc mm : Nat} {as : List AV} (H : ∀ hc hm, INV i hc hm → ∃ a, Rn xs L d mc (.inr (some 3) :: as) hc (a, hc) ∧ Rn xs L d mm (.inr (some 49) :: as) hm (a, hm)) : CAL xs L d i mc mm as := fun hc hm hv => by
  obtain ⟨a, r1, r2⟩ := H hc hm hv
  exact ⟨a, hc, hm, r1, r2, inv_up hv, agm_rfl, agc_rfl⟩
theorem low_at {g : CTX} : ∀ (q b M : Nat), LOW g hc hm q b M → ∀ j, j < q → FV g hc hm j ∧ ∃ i e ie, AF g hc hm j i e ie := by
  intro q
  induction q with
  | zero => exact fun _ _ _ j hj => absurd hj (Nat.not_lt_zero _)
  | succ q ih =>
    intro b M h j hj
    obtain ⟨bq, lv, st, p, e, J, i, M', h1, h2, h3, h4, h5, h6⟩ := h
    by_cases c : j = q
    · subst c; exact ⟨h2, _, _, _, h4⟩
    · exact ih bq M' h1 j (by omega)
/-- frame j, counted from below -/
def FRM (x : PDt) (hc hm : Hp) (j : Nat) : Prop := (∀ v, v < 6 → hI hc (12 + (3 + 2 * j)) v = hI hm 66 (6 * j + v)) ∧ hI hc (12 + (2 + 2 * j)) 4 = hI hm 63 j ∧ ∃ p, p < x.n ∧ hI hm 65 j = nI p ∧ hI hc (12 + (2 + 2 * j)) 5 = x.Z p
theorem wai_frm {a : ADt} {tf : Nat} (hT : TX x.T x.n) (hW : WAI (mkG x pg 0 a tf) hc hm) : ∃ q, q < 6 ∧ hI hc 12 6 = nI (q + 1) ∧ hI hm 62 0 = nI (q + 1) ∧ ∀ j, j < q + 1 → FRM x hc hm j := by
  obtain ⟨h4, q, b, M, pl, i, hd, oh, ⟨t1, t2, t3, t4, t5, t6, t7, t8⟩, ha, hf, h125, h65, h5, h2, h7⟩ := hW
  refine ⟨q, t3, t4, t5, fun j hj => ?_⟩
  have key : FV (mkG x pg 0 a tf) hc hm j ∧ ∃ p, p < x.n ∧ hI hm 65 (6 * 0 + j) = nI p ∧ hI hc (12 + (2 + 2 * j)) 5 = x.Z p := by
    by_cases c : j = q
    · subst c
      exact ⟨t7, pl, (fr_p hT hf).1, h65, h5⟩
    · obtain ⟨k1, i', e, ie, k2⟩ := low_at q b M t6 j (by omega)
      rcases k2 with ⟨k2, -⟩ | ⟨-, p, hd, oh, k3, k4, k5, -⟩
      · rw [fl_m0] at k2; cases k2
      · exact ⟨k1, p, k4, k3, k5⟩
  obtain ⟨⟨k1, k2, k3⟩, p, k4, k5, k6⟩ := key
  refine ⟨fun v hv => ?_, ?_, p, k4, ?_, k6⟩
  · have := k2 v hv
    rw [show 6 * (6 * (mkG x pg 0 a tf).m + j) + v = 6 * j + v from by show 6 * (6 * 0 + j) + v = _; omega] at this
    exact this
  · have := k3 fl_m0
    rw [show 6 * (mkG x pg 0 a tf).m + j = j from by show 6 * 0 + j = _; omega] at this
    exact this
  · rw [show 6 * 0 + j = j from by omega] at k5
    exact k5
theorem inv_dep (hv : INV i hc hm) : (hI hc 12 4 = 1 ∧ hI hm 49 30 = 1 ∧ ∃ x pg q, PRG x pg hc hm ∧ WAI (mkG x pg 0 a0 0) hc hm ∧ hI hc 12 5 = 0 ∧ q < 6 ∧ hI hc 12 6 = nI (q + 1) ∧ hI hm 62 0 = nI (q + 1) ∧ ∀ j, j < q + 1 → FRM x hc hm j) ∨ (¬ hI hc 12 4 = 1 ∧ ¬ hI hm 49 30 = 1 ∧ hI hc 12 6 = nI 0) := by
  obtain ⟨h1, h2, h3, h4, h5, ⟨f1, f2⟩, h7⟩ := hv
  rcases h7 with ⟨g1, g2, g3, g4, g5⟩ | ⟨x, pg, g1, g2, g3, ⟨r1, r2, r3⟩ | ⟨r1, r2⟩⟩
  · exact Or.inr ⟨by rw [g3]; decide, by rw [f1, g3]; decide, g4⟩
  · obtain ⟨q, q1, q2, q3, q4⟩ := wai_frm g1.1.1 r3
    exact Or.inl ⟨r1, f1.trans r1, x, pg, q, g1, r3, r2, q1, q2, q3, q4⟩
  · have : ¬ hI hc 12 4 = 1 := by rcases r1 with e | e | e <;> rw [e] <;> decide
    exact Or.inr ⟨this, by rw [f1]; exact this, r2⟩
theorem k_state : CAL xs L (d + 60) i 54 114 [] := cal_get (fun hc hm hv => ⟨_, d_state (d := d + 59) hv.1.1 hv.1.2.1, by
  have := m_state (xs := xs) (L := L) (d := d + 59) hv.1.2.2.2.2.2.2.2
  rw [hv.2.2.2.2.2.1.1] at this; exact this⟩)
theorem k_result : CAL xs L (d + 60) i 55 115 [] := cal_get (fun hc hm hv => ⟨_, d_result (d := d + 59) hv.1.1 hv.1.2.1, by
  have := m_result (xs := xs) (L := L) (d := d + 59) hv.1.2.2.2.2.2.2.2
  rw [hv.2.2.2.2.2.1.2.1] at this; exact this⟩)
theorem k_points : CAL xs L (d + 60) i 61 116 [] := cal_get (fun hc hm hv => ⟨_, d_points (d := d + 59) hv.1.1 hv.1.2.1, by
  have := m_points (xs := xs) (L := L) (d := d + 59) hv.1.2.2.2.2.2.2.2
  rw [hv.2.2.2.2.2.1.2.2.1] at this; exact this⟩)
theorem k_value : CAL xs L (d + 60) i 68 124 [] := cal_get (fun hc hm hv => ⟨_, d_value (d := d + 59) hv.1.1, by
  have := m_value (xs := xs) (L := L) (d := d + 59) hv.1.2.2.2.2.2.2.2
  rw [← hv.2.2.1.2.2] at this; exact this⟩)
theorem k_depth : CAL xs L (d + 60) i 62 117 [] := cal_get (fun hc hm hv => ⟨_, d_depth (d := d + 59) hv.1.1 hv.1.2.1, by
  have := m_depth (xs := xs) (L := L) (d := d + 59) hv.1.2.2.2.2.2.2.2
  rcases inv_dep hv with ⟨h1, h2, x, pg, q, h3, h4, h5, h6, h7, h8, h9⟩ | ⟨h1, h2, h3⟩
  · rw [if_pos h2, h8, ← h7] at this; exact this
  · rw [if_neg h2] at this
    rw [h3]; exact this⟩)
theorem tbv_eq {τ τ2 n : Nat} {v : Int32} (he : ∀ k, k < 16 → hI hc (τ + 1) k = hI hm (τ2 + 1) k) : tbv τ n v hc = tbv τ2 n v hm := by
  unfold tbv
  rw [he _ (Nat.mod_lt _ (by decide))]
theorem k_output {v : Int32} (hi : i ≤ 512) : CAL xs L (d + 60) i 69 125 [.inl v] := cal_get (fun hc hm hv => by
  obtain ⟨u, e1, e2, e3, e4⟩ := hv.2.2.2.2.1
  refine ⟨_, d_output (d := d + 58) hv.1.1 hv.1.2.1 e2 (by omega), ?_⟩
  have := m_output (xs := xs) (L := L) (d := d + 59) (v := v) hv.1.2.2.2.2.2.2.2 e3 (by omega)
  rw [tbv_eq (hc := hc) (hm := hm) (τ := 27) (τ2 := 77) e4]; exact this)
theorem k_note {v : Int32} (hi : i ≤ 512) : CAL xs L (d + 60) i 70 126 [.inl v] := cal_get (fun hc hm hv => by
  obtain ⟨u, e1, e2, e3, e4⟩ := hv.2.2.2.1
  refine ⟨_, d_note (d := d + 58) hv.1.1 e2 (by omega), ?_⟩
  have := m_note (xs := xs) (L := L) (d := d + 59) (v := v) hv.1.2.2.2.2.2.2.2 e3 (by omega)
  rw [tbv_eq (hc := hc) (hm := hm) (τ := 46) (τ2 := 78) e4]; exact this)
theorem i32_nat {b : Int32} {t : Nat} (ht : t ≤ 1000) (h : ¬ (b < 0 ∨ nI t ≤ b)) : ∃ k, k < t ∧ b = nI k := by
  have h1 : ¬ b < 0 := fun z => h (Or.inl z)
  have h2 : ¬ nI t ≤ b := fun z => h (Or.inr z)
  have h3 : b ≤ nI t := Int32.le_of_lt (Int32.not_le.mp h2)
  obtain ⟨j, j1, j2⟩ := nI_of2 (M := nI t) (n := t) (nI_toInt (by omega)) h1 h3
  refine ⟨j, ?_, j2⟩
  have : ¬ j = t := fun z => h2 (by rw [j2, z]; exact nI_le (Nat.le_refl _) (by omega))
  omega
/-- frame b below the top, or none -/
theorem inv_b (hv : INV i hc hm) (b : Int32) : (∃ t, hI hc 12 6 = nI t ∧ t ≤ 6 ∧ (b < 0 ∨ nI t ≤ b) ∧ (¬ hI hm 49 30 = 1 ∨ b < 0 ∨ hI hm 62 0 ≤ b)) ∨ (∃ x pg t k, PRG x pg hc hm ∧ WAI (mkG x pg 0 a0 0) hc hm ∧ hI hc 12 5 = 0 ∧ hI hc 12 4 = 1 ∧ hI hm 49 30 = 1 ∧ t ≤ 6 ∧ k < t ∧ b = nI k ∧ hI hc 12 6 = nI t ∧ hI hm 62 0 = nI t ∧ FRM x hc hm (t - 1 - k)) := by
  rcases inv_dep hv with ⟨h1, h2, x, pg, q, h3, h4, h5, h6, h7, h8, h9⟩ | ⟨h1, h2, h3⟩
  · by_cases c : b < 0 ∨ nI (q + 1) ≤ b
    · refine Or.inl ⟨q + 1, h7, by omega, c, Or.inr ?_⟩
      rw [h8]; exact c
    · obtain ⟨k, k1, k2⟩ := i32_nat (by omega) c
      exact Or.inr ⟨x, pg, q + 1, k, h3, h4, h5, h1, h2, by omega, k1, k2, h7, h8, h9 _ (by omega)⟩
  · refine Or.inl ⟨0, h3, by omega, ?_, Or.inl h2⟩
    by_cases c : b < 0
    · exact Or.inl c
    · exact Or.inr (Int32.not_lt.mp c)
theorem k_line {b : Int32} : CAL xs L (d + 60) i 63 119 [.inl b] := cal_get (fun hc hm hv => by
  have hO := hv.1.2.2.2.2.2.2.2
  rcases inv_b hv b with ⟨t, h1, h2, h3, h4⟩ | ⟨x, pg, t, k, h1, h2, h3, h4, h5, h6, h7, h8, h9, h10, f1, f2, p, f3, f4, f5⟩
  · exact ⟨_, d_line_no (d := d + 58) hv.1.1 hv.1.2.1 h1 h3, m_line_no (d := d + 58) hO h4⟩
  · subst h8
    have hn := h1.1.1.1
    refine ⟨_, d_line (d := d + 58) hv.1.1 hv.1.2.1 h9 h6 h7, ?_⟩
    have := m_line (xs := xs) (L := L) (d := d + 58) (p := p) hO h5 h10 h6 h7 f4 (by omega)
    rw [f5, ← h1.2.2.1.2.2.2.2.2.2.2.1 p]
    exact this)
theorem k_func {b : Int32} : CAL xs L (d + 60) i 64 120 [.inl b] := cal_get (fun hc hm hv => by
  have hO := hv.1.2.2.2.2.2.2.2
  rcases inv_b hv b with ⟨t, h1, h2, h3, h4⟩ | ⟨x, pg, t, k, h1, h2, h3, h4, h5, h6, h7, h8, h9, h10, f1, f2, p, f3, f4, f5⟩
  · exact ⟨_, d_func_no (d := d + 58) hv.1.1 hv.1.2.1 h1 h3, m_func_no (d := d + 58) hO h4⟩
  · subst h8
    refine ⟨_, d_func (d := d + 58) hv.1.1 hv.1.2.1 h9 h6 h7, ?_⟩
    have := m_func (xs := xs) (L := L) (d := d + 58) hO h5 h10 h6 h7
    rw [f2]
    exact this)
theorem k_var {b v : Int32} : CAL xs L (d + 60) i 65 121 [.inl b, .inl v] := cal_get (fun hc hm hv => by
  have hO := hv.1.2.2.2.2.2.2.2
  rcases inv_b hv b with ⟨t, h1, h2, h3, h4⟩ | ⟨x, pg, t, k, h1, h2, h3, h4, h5, h6, h7, h8, h9, h10, f1, f2, p, f3, f4, f5⟩
  · exact ⟨_, d_var_no (d := d + 58) hv.1.1 hv.1.2.1 h1 h3, m_var_no (d := d + 58) hO h4⟩
  · subst h8
    refine ⟨_, d_var (d := d + 58) hv.1.1 hv.1.2.1 h9 h6 h7, ?_⟩
    have := m_var (xs := xs) (L := L) (d := d + 58) (v := v) hO h5 h10 h6 h7
    by_cases c1 : v < 0
    · rw [if_pos c1]; rw [if_pos c1] at this; exact this
    · by_cases c2 : 6 ≤ v
      · rw [if_neg c1, if_pos c2]; rw [if_neg c1, if_pos c2] at this; exact this
      · obtain ⟨-, j, j1, j2⟩ := v_lim c1 c2
        rw [if_neg c1, if_neg c2]
        rw [if_neg c1, if_neg c2] at this
        have e : v.toNatClampNeg = j := by rw [j2]; exact nI_cl (by omega)
        rw [e] at this ⊢
        rw [f1 j j1]
        exact this)
/-- a line of the program, or none -/
theorem inv_line (hv : INV i hc hm) (b : Int32) : ((∀ d, Rn xs L (d + 1) 71 [.inr (some 3), .inl b] hc (some (.inl 0), hc)) ∧ ¬ (¬ hI hm 49 4 = 0 ∧ ¬ b < 0 ∧ b < hI hm 49 5)) ∨ (∃ x pg l, PRG x pg hc hm ∧ (∀ l, l < 40 → BRK (arC x.r) (1000000 * i) l hc hm) ∧ DST hc ∧ RUN x pg hc hm ∧ l < 40 ∧ b = nI l ∧ (∀ d, Rn xs L (d + 1) 71 [.inr (some 3), .inl b] hc (some (.inl 1), hc)) ∧ ¬ hI hm 49 4 = 0 ∧ ¬ b < 0 ∧ b < hI hm 49 5) := by
  rcases hv.2.2.2.2.2.2 with ⟨g1, g2, g3, g4, g5⟩ | ⟨x, pg, g1, g2, g3, g4⟩
  · exact Or.inl ⟨fun d => d_has_no hv.1.1 g1, fun z => z.1 g2⟩
  · have hb := (bd_progl (tx := x.tx) 4 x.s (bd_st0 (n := x.n) g1.1.2.2.1) g1.1.2.2.2.1.1).2.2
    have hb : x.r.2.2.1 ≤ 40 := hb
    have hh := fun d => d_has (xs := xs) (L := L) (d := d) (b := b) (v := nI x.r.2.2.1) hv.1.1 g1.2.2.2.1 g1.2.2.2.2.2.2.1.1.1 g1.2.2.2.2.2.2.1.2.2.1
    have h5 : hI hm 49 5 = nI x.r.2.2.1 := g1.2.2.1.2.2.2.2.1
    by_cases c : ¬ b < 0 ∧ b < nI x.r.2.2.1
    · refine Or.inr ?_
      obtain ⟨k, k1, k2⟩ := i32_nat (t := x.r.2.2.1) (b := b) (by omega) (fun z => z.elim c.1 (fun w => absurd c.2 (Int32.not_lt.mpr w)))
      refine ⟨x, pg, k, g1, g2, g3, g4, by omega, k2, fun d => ?_, by rw [g1.2.2.2.2.2.2.2]; decide, c.1, by rw [h5]; exact c.2⟩
      have := hh d
      rw [decide_eq_true c] at this
      exact this
    · refine Or.inl ⟨fun d => ?_, fun z => c ⟨z.2.1, by rw [← h5]; exact z.2.2⟩⟩
      have := hh d
      rw [decide_eq_false c] at this
      exact this
theorem brk_k (h : BRK ar B l hc hm) : ∀ o, hR hc 48 l = some o → hK hc o = 0 := fun o ho => by
  rcases h with ⟨h1, h2⟩ | ⟨o2, h1, h2, h3, h4, h5⟩
  · rw [h1] at ho; cases ho
  · rw [h1] at ho; cases ho; exact h4
theorem k_hits {b : Int32} : CAL xs L (d + 60) i 58 112 [.inl b] := cal_get (fun hc hm hv => by
  have hO := hv.1.2.2.2.2.2.2.2
  rcases inv_line (xs := xs) (L := L) hv b with ⟨h1, h2⟩ | ⟨x, pg, l, g1, g2, g3, g4, hl, rfl, h1, h2⟩
  · exact ⟨_, d_hits_no (d := d + 58) hv.1.1 (h1 _), m_hits_no (d := d + 58) hO h2⟩
  · have hk := brk_k (g2 l hl)
    have := m_hits (xs := xs) (L := L) (d := d + 58) hO h2 hl
    rcases g2 l hl with ⟨b1, b2⟩ | ⟨o, b1, b2, b3, b4, b5, b6, b7, b8, b9⟩
    · rw [if_pos b2] at this
      exact ⟨some (.inl (-1)), d_hits (d := d + 58) (b := none) hv.1.1 (h1 _) hl b1 (fun o h => by cases h), this⟩
    · rw [if_neg (by rw [b5]; decide), ← b8] at this
      exact ⟨some (.inl (hI hc o 3)), d_hits (d := d + 58) (b := some o) hv.1.1 (h1 _) hl b1 (fun o2 h => by cases h; exact b4), this⟩)
end CL

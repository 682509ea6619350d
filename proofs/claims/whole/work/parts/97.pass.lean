-- THE RUN: from a point on
section RR
variable {xs : Nat → Int32} {L d : Nat} {g : CTX} {hc hm hc2 hm2 hcV : Hp} {q b M N : Nat} {u : Nat} {v w : Int32}
/-- the model begins a statement; both run on -/
theorem s_go (hP : PU g) (hW : WAI g hc hm) (hE : ESt g u hc hm) (hu : u + 2500 < 2 ^ 31) : ∃ q hm1, q < 6 ∧ hI hm 62 g.m = nI (q + 1) ∧ (∀ d2, Rn xs L (d2 + 2) 102 [.inr (some 49), .inl (nI (6 * g.m + q))] hm (none, hm1)) ∧ UM g.m 0 hm hm1 ∧ DNE xs L d g u hc hm1 18000 := by
  obtain ⟨h4, q, b, M, pl, i, hd, oh, hT, ha, hf, h125, h65, h5, h2, h7⟩ := hW
  obtain ⟨t1, t2, t3, t4, t5, t6, t7, t8⟩ := id hT
  have hn := hP.2.1.1
  have hz := hP.2.2.2.1
  have hm2 := pu_m hP
  have hO := t2.1
  have hMl : M ≤ 1765 := by have := (low_b q b M t6).2; omega
  obtain ⟨e1, e2, e3, e4, e5, e6⟩ := gz_f ha
  obtain ⟨sA, sB, -⟩ := sim_all (xs := xs) (L := L) (d := d) hP 2400
  obtain ⟨l, l1, l2, l3, l4, l5, l6, l7⟩ := fr_st hP.2.1 (by omega) hf h125
  have hcl : hI hm 51 pl = g.T pl := by
    have := t2.2.1 false (fun z => by cases z) pl (by omega)
    rw [show gb g false + pl = pl from Nat.zero_add pl] at this
    exact this
  have hub : ∀ k w : Nat, UM g.m q hm (bgH (6 * g.m + q) pl k w hm) := fun k w => by
    unfold bgH
    exact um_sI (um_sI (um_sI (um_sI (um_sI (um_sI um_rfl (by unfold OwM; omega)) (by unfold OwM; omega)) (by unfold OwM; omega)) (by unfold OwM; omega)) (by unfold OwM; omega)) (by unfold OwM; omega)
  have hoth : ∀ k w o x : Nat, ¬ o = 64 → ¬ (o = 49 ∧ x = 27) → ¬ o = 67 → ¬ o = 69 → ¬ o = 70 → ¬ o = 71 → hI (bgH (6 * g.m + q) pl k w hm) o x = hI hm o x := fun k w o x o1 o2 o3 o4 o5 o6 => by
    unfold bgH
    rw [hI_ne (by omega), hI_ne (by omega), hI_ne (by omega), hI_ne (by omega), hI_ne (by omega), hI_ne (by omega)]
  have hTb : ∀ k w : Nat, TP g hc (bgH (6 * g.m + q) pl k w hm) q b M := fun k w => tp_mk hP hT uc_rfl (hub k w) rfl (hoth k w _ _ (by decide) (by omega) (by decide) (by decide) (by decide) (by decide)) (fv_same t7 rfl (fun _ => rfl) (fun x _ => hoth k w _ _ (by decide) (by omega) (by decide) (by decide) (by decide) (by decide)) rfl (hoth k w _ _ (by decide) (by omega) (by decide) (by decide) (by decide) (by decide))) rfl
  have hEb : ∀ k w : Nat, ESt g u hc (bgH (6 * g.m + q) pl k w hm) := fun k w => es_same hE rfl (fun _ => rfl) rfl (hoth k w _ _ (by decide) (by omega) (by decide) (by decide) (by decide) (by decide)) (fun x => hoth k w _ _ (by decide) (by omega) (by decide) (by decide) (by decide) (by decide)) (hoth k w _ _ (by decide) (by omega) (by decide) (by decide) (by decide) (by decide))
  have h65b : ∀ k w : Nat, hI (bgH (6 * g.m + q) pl k w hm) 65 (6 * g.m + q) = nI pl := fun k w => (hoth k w _ _ (by decide) (by omega) (by decide) (by decide) (by decide) (by decide)).trans h65
  have h64b : ∀ k w : Nat, hI (bgH (6 * g.m + q) pl k w hm) 64 (6 * g.m + q) = nI (pl + k) := fun k w => by
    unfold bgH
    rw [hI_ne (by omega), hI_ne (by omega), hI_ne (by omega), hI_ne (by omega), hI_ne (by omega), hI_is]
  have h27b : ∀ k w : Nat, hI (bgH (6 * g.m + q) pl k w hm) 49 27 = nI w := fun k w => by
    unfold bgH
    rw [hI_ne (by omega), hI_ne (by omega), hI_ne (by omega), hI_ne (by omega), hI_is]
  -- into an expression
  have hexp : ∀ (k e : Nat) (J : List Int32), pl + k ≤ g.n → sm g.ar g.T (pl + k) true (0, 0, 0) [] = some (e, J) → At g.I (i + 1) J → Hr g.H (i + 1) (i + 2 + J.length) hd → i + 1 + J.length < g.z → ED g pl e (i + 1 + J.length) hd oh → (∀ d2, Rn xs L (d2 + 2) 102 [.inr (some 49), .inl (nI (6 * g.m + q))] hm (none, bgH (6 * g.m + q) pl k 1 hm)) → ∃ q hm1, q < 6 ∧ hI hm 62 g.m = nI (q + 1) ∧ (∀ d2, Rn xs L (d2 + 2) 102 [.inr (some 49), .inl (nI (6 * g.m + q))] hm (none, hm1)) ∧ UM g.m 0 hm hm1 ∧ DNE xs L d g u hc hm1 18000 := fun k e J k1 k2 k3 k4 k5 k6 hr => by
    refine ⟨q, bgH (6 * g.m + q) pl k 1 hm, t3, t5, hr, um_w (hub k 1), dne_le (sB u hc _ q b M (0, 0, 0) [] (pl + k) e J (i + 1) ⟨hTb k 1, hEb k 1, ⟨by rw [e3]; exact k2, by rw [e2]; exact k3, by rw [e5]; exact k1, Nat.zero_le _, ⟨Or.inl rfl, Or.inl ⟨rfl, rfl, rfl⟩⟩, ⟨?_, ?_, ?_, fun a ha => absurd ha (Nat.not_lt_zero _), fun z => absurd rfl z, trivial⟩, ?_, ?_, h2, t8⟩, Or.inr ⟨ha, pl, hd, oh, h65b k 1, l3, h5, l6, fun x y1 y2 => k4 x y1 (by omega), k5, k6⟩, h7, h27b k 1⟩ (by omega) (by omega)) (by omega)⟩
    · unfold bgH
      rw [List.length_nil, Nat.add_zero, hI_ne (by omega), hI_is]; rfl
    · unfold bgH
      rw [List.length_nil, Nat.add_zero, hI_is]; rfl
    · unfold bgH
      rw [List.length_nil, Nat.add_zero, hI_ne (by omega), hI_ne (by omega), hI_is]
    · rw [e4, Nat.zero_add]; exact h64b k 1
    · unfold bgH
      rw [hI_ne (by omega), hI_ne (by omega), hI_ne (by omega), hI_is]; rfl
  rcases l7 with ⟨e, J, g1, g2, g3, g4, g5, g6, g7⟩ | ⟨bb, J, j, c, g1, g2, g3, g4, g5, g6, g7, g8, g9, g10⟩ | ⟨g1, g2, hd2, oh2, g3⟩
  · rw [at_app] at g5
    have hz2 := (fr_p hP.2.1 g7).2
    have hed : ED g pl e (i + 1 + J.length) hd oh := Or.inl ⟨g1, g3, g4, g5.2.1, by rw [show i + 1 + J.length + 1 = i + 2 + J.length by omega]; exact g7⟩
    have hxn : pl + sx g.T pl ≤ g.n := by
      unfold sx
      rcases g1 with g1 | g1
      · rw [if_pos ⟨g1.1, g1.2.1⟩]
        have := tx_lt hP.2.1 (p := pl + 1) (by omega) (by rw [g1.2.2]; decide)
        omega
      · rw [if_neg (by rcases g1 with e | e | e <;> rw [e] <;> decide)]
        omega
    refine hexp (sx g.T pl) e J hxn g2 g5.1 g6 (by omega) hed (fun d2 => ?_)
    rcases g1 with g1 | g1
    · obtain ⟨a, a1, a2⟩ := var_ix g1.1 g1.2.1
      rw [show sx g.T pl = 2 from if_pos ⟨g1.1, g1.2.1⟩]
      exact m_bg_var hO (by omega) h65 (by omega) (by rw [hcl]; exact a2) a1
    · rw [show sx g.T pl = 1 from if_neg (by rcases g1 with e | e | e <;> rw [e] <;> decide)]
      exact m_bg_sgn hO (by omega) h65 (by omega) (by rw [hcl]; rcases g1 with e | e | e <;> rw [e] <;> decide)
  · rw [at_app] at g4
    have hz2 := (fr_p hP.2.1 g9).2
    have hed : ED g pl bb (i + 1 + J.length) hd oh := Or.inr ⟨g1, g3, j, c, g4.2.1, g6, g7, g8, by rw [show i + 1 + J.length + 1 = i + 2 + J.length by omega]; exact g9, g10⟩
    exact hexp 1 bb J (by omega) g2 g4.1 g5 (by omega) hed (fun d2 => m_bg_sgn hO (by omega) h65 (by omega) (by rw [hcl]; rcases g1 with e | e <;> rw [e] <;> decide))
  · refine ⟨q, bgH (6 * g.m + q) pl 2 0 hm, t3, t5, fun d2 => m_bg_try hO (by omega) h65 (by omega) (by rw [hcl]; exact g1), um_w (hub 2 0), dne_le (sA u hc _ q b M (pl + 2) (i + 1) hd2 oh2 ⟨hTb 2 0, hEb 2 0, ha, g3, h2, h64b 2 0, h7, h27b 2 0⟩ (by omega) (by omega)) (by omega)⟩
/-- what a run's end says -/
def END1 (g : CTX) (code : Int32) (hc hm : Hp) : Prop := (code = 1 ∧ WAI g hc hm) ∨ (code = 2 ∧ OVR g hc hm) ∨ (code = 3 ∧ DED g hc hm)
/-- runOn and proceed -/
theorem d_run (hM : MI g.u hc) (h : DNE xs L d g u (sI hc g.u 9 0) hm 18000) : ∃ hc2 hm2 code u2, Rn xs L (d + 4) 12 [.inr (some g.u)] hc (none, hc2) ∧ Rn xs L (d + 5) 101 [.inr (some 49), .inl (nI g.m)] hm (some (.inl code), hm2) ∧ UD g.u code hc hc2 ∧ UM g.m 0 hm hm2 ∧ u ≤ u2 ∧ u2 ≤ u + 18001 ∧ ESt g u2 hc2 hm2 ∧ END1 g code hc2 hm2 := by
  obtain ⟨k, hc2, hm2, code, u2, h1, h2, h3, h4, h5, h6, h7, h8, h9⟩ := h
  exact ⟨hc2, hm2, code, u2, r_runOn hM (by omega) h2, r_proceed h3, ud_tr (uc_u uc_rfl) h4, h5, h6, by omega, h8, h9⟩
end RR

-- A POINT: breakStops against stops
section BS1
variable {xs : Nat → Int32} {L d i : Nat} {h hc hm hc1 hm1 hc2 hm2 : Hp} {x : PDt} {pg B l o n p c : Nat} {ar T : Nat → Int32} {v : Int32}
theorem brk_cnt (hB : ∀ l, l < 40 → BRK ar B l hc hm) : ∀ l, l < 40 → ∀ o, hR hc 48 l = some o → 80 ≤ o ∧ hK hc o = 0 ∧ hI hc o 3 = hI hm 77 l ∧ ∃ c, c ≤ B ∧ hI hc o 3 = nI c := fun l hl o ho => by
  rcases hB l hl with ⟨z, -⟩ | ⟨o', z1, z2, -, z4, -, -, -, z8, z9, -⟩
  · rw [z] at ho; cases ho
  · rw [z1] at ho
    injection ho with ho
    subst ho
    exact ⟨z2, z4, z8, z9⟩
theorem bk_I {a k : Nat} (h1 : ¬ (a = o ∧ k = 3)) (h2 : ¬ a = 47) (h3 : ¬ a = 46) : hI (bkR o n v h).2 a k = hI h a k := by
  unfold bkR
  split
  · exact hI_ne h1
  · split
    · exact hI_ne h1
    · exact (hI_ne (fun z => h3 z.1)).trans ((hI_ne (fun z => h2 z.1)).trans (hI_ne h1))
theorem bk_3 (ho : 80 ≤ o) : hI (bkR o n v h).2 o 3 = hI h o 3 + 1 := by
  unfold bkR
  split
  · exact hI_is
  · split
    · exact hI_is
    · exact (hI_ne (by omega)).trans ((hI_ne (by omega)).trans hI_is)
theorem gc_bk (ho : 80 ≤ o) (ko : hK h o = 0) : GC h (bkR o n v h).2 := by
  unfold bkR
  split
  · exact gc_sI (Or.inr ⟨ho, rfl, ko⟩)
  · split
    · exact gc_sI (Or.inr ⟨ho, rfl, ko⟩)
    · exact gc_tr (gc_sI (Or.inr ⟨ho, rfl, ko⟩)) (gc_tr (gc_sI (Or.inl (by omega))) (gc_sI (Or.inl (by omega))))
theorem mr_I {a k : Nat} (h1 : ¬ (a = 77 ∧ k = l)) (h2 : ¬ a = 79) (h3 : ¬ (a = 49 ∧ k = 42)) : hI (msR l n v h).2 a k = hI h a k := by
  unfold msR
  split
  · exact hI_ne h1
  · split
    · exact hI_ne h1
    · exact (hI_ne h3).trans ((hI_ne (fun z => h2 z.1)).trans (hI_ne h1))
theorem mr_77 : hI (msR l n v h).2 77 l = hI h 77 l + 1 := by
  unfold msR
  split
  · exact hI_is
  · split
    · exact hI_is
    · exact (hI_ne (by omega)).trans ((hI_ne (by omega)).trans hI_is)
theorem gm_mr : GM h (msR l n v h).2 := by
  unfold msR
  split
  · exact gm_sI (by unfold OwG; omega)
  · split
    · exact gm_sI (by unfold OwG; omega)
    · exact gm_tr (gm_sI (by unfold OwG; omega)) (gm_tr (gm_sI (by unfold OwG; omega)) (gm_sI (by unfold OwG; omega)))
/-- a counted stop: the same answer, the same notes -/
theorem bk_ms (ho : 80 ≤ o) (e1 : hI hc o 1 = hI hm 76 l) (e2 : hI hc o 2 = hI hm 75 l) (e3 : hI hc o 3 = hI hm 77 l) (n1 : n ≤ B) (n2 : hI hc 46 1 = nI n) (n3 : hI hm 49 42 = nI n) (n4 : ∀ k, k < 16 → hI hc 47 k = hI hm 79 k) : (bkR o n v hc).1 = (msR l n v hm).1 ∧ NTS (B + 1) (bkR o n v hc).2 (msR l n v hm).2 := by
  have nt : ∀ w1 w2, NTS (B + 1) (sI hc o 3 w1) (sI hm 77 l w2) := fun w1 w2 => ⟨n, by omega, (hI_ne (by omega)).trans n2, (hI_ne (by omega)).trans n3, fun k hk => (hI_ne (by omega)).trans ((n4 k hk).trans (hI_ne (by omega)).symm)⟩
  unfold bkR msR
  rw [e1, e2, e3]
  by_cases c1 : hI hm 77 l + 1 ≤ hI hm 76 l
  · rw [if_pos c1, if_pos c1]
    exact ⟨rfl, nt _ _⟩
  · rw [if_neg c1, if_neg c1]
    by_cases c2 : hI hm 75 l = 0
    · rw [if_pos c2, if_pos c2]
      exact ⟨rfl, nt _ _⟩
    · rw [if_neg c2, if_neg c2]
      refine ⟨rfl, n + 1, by omega, hI_is, hI_is, fun k hk => ?_⟩
      show hI (sI (sI (sI hc o 3 _) 47 (n % 16) v) 46 1 _) 47 k = hI (sI (sI (sI hm 77 l _) 79 (n % 16) v) 49 42 _) 79 k
      rw [hI_ne (by omega), hI_ne (o := 49) (by omega)]
      by_cases c3 : k = n % 16
      · subst c3
        rw [hI_is, hI_is]
      · rw [hI_ne (by omega), hI_ne (by omega), hI_ne (by omega), hI_ne (by omega)]
        exact n4 k hk
/-- what a point leaves of desk and model -/
def BSR (B : Nat) (hc hm hc2 hm2 : Hp) : Prop := GC hc hc2 ∧ GM hm hm2 ∧ (∀ o, 12 ≤ o → o < 29 → Sm1 hc hc2 o) ∧ EqM hm hm2 ∧ (∀ k, ¬ k = 27 → ¬ k = 28 → ¬ k = 42 → hI hm2 49 k = hI hm 49 k) ∧ (∀ k, hI hm2 78 k = hI hm 78 k) ∧ NTS (B + 1) hc2 hm2 ∧ ∀ l, l < 40 → ∀ o, hR hc 48 l = some o → hI hc2 o 3 = hI hm2 77 l ∧ ∃ c, c ≤ B + 1 ∧ hI hc2 o 3 = nI c
theorem bsr_0 (hU : UA hc hc1) (hV : UM 1 0 hm hm1) (hB : ∀ l, l < 40 → BRK ar B l hc hm) (hN : NTS B hc hm) : BSR B hc hm hc1 hm1 := by
  have fm := fm_um hV
  have S := hU.2.2.2.1
  refine ⟨gc_ua hU, gm_um hV, fun o q1 q2 => S o (by omega), fm_eqm fm, fun k q1 q2 q3 => um_o hV (by unfold OwM; omega), fun k => um_o hV (by unfold OwM; omega), nts_fr hN (by omega) ((S 46 (by omega)).2.2.2 1) (fun k _ => (S 47 (by omega)).2.2.2 k) (um_o hV (by unfold OwM; omega)) (fun k _ => um_o hV (by unfold OwM; omega)), fun l hl o ho => ?_⟩
  obtain ⟨c1, c2, c3, c, c4, c5⟩ := brk_cnt hB l hl o ho
  have e := (S o (by omega)).2.2.2 3
  exact ⟨e.trans (c3.trans (um_o hV (by unfold OwM; omega)).symm), c, by omega, e.trans c5⟩
theorem bsr_1 (hU : UA hc hc1) (hV : UM 1 0 hm hm1) (hB : ∀ l, l < 40 → BRK ar B l hc hm) (hDS : DST hc) (n1 : n ≤ B) (n2 : hI hc 46 1 = nI n) (n3 : hI hm 49 42 = nI n) (n4 : ∀ k, k < 16 → hI hc 47 k = hI hm 79 k) (hl : l < 40) (ho : hR hc 48 l = some o) (e1 : hI hc o 1 = hI hm 76 l) (e2 : hI hc o 2 = hI hm 75 l) : (bkR o n v hc1).1 = (msR l n v hm1).1 ∧ BSR B hc hm (bkR o n v hc1).2 (msR l n v hm1).2 := by
  obtain ⟨g1, g2, g3, g4, g5, g6, g7, g8⟩ := bsr_0 hU hV hB ⟨n, n1, n2, n3, n4⟩
  obtain ⟨c1, c2, c3, c, c4, c5⟩ := brk_cnt hB l hl o ho
  have S := hU.2.2.2.1
  have So := (S o (by omega)).2.2.2
  have e3 : hI hc1 o 3 = hI hm1 77 l := (So 3).trans (c3.trans (um_o hV (by unfold OwM; omega)).symm)
  obtain ⟨k1, k2⟩ := bk_ms (hc := hc1) (hm := hm1) (B := B) (v := v) c1 ((So 1).trans (e1.trans (um_o hV (by unfold OwM; omega)).symm)) ((So 2).trans (e2.trans (um_o hV (by unfold OwM; omega)).symm)) e3 n1 (((S 46 (by omega)).2.2.2 1).trans n2) ((um_o hV (by unfold OwM; omega)).trans n3) (fun k hk => ((S 47 (by omega)).2.2.2 k).trans ((n4 k hk).trans (um_o hV (by unfold OwM; omega)).symm))
  have gb : GC hc1 (bkR o n v hc1).2 := gc_bk c1 ((hU.2.2.1 o).1.trans c2)
  refine ⟨k1, gc_tr g1 gb, gm_tr g2 gm_mr, fun a q1 q2 => sm1_tr (g3 a q1 q2) ⟨(gb.2.2.1 a).1, (gb.2.2.1 a).2, fun k => ?_, fun k => bk_I (by omega) (by omega) (by omega)⟩, ⟨(mr_I (by omega) (by omega) (by omega)).trans g4.1, fun a k q1 q2 => (mr_I (by omega) (by omega) (by omega)).trans (g4.2.1 a k q1 q2), fun a k q1 q2 => (mr_I (by omega) (by omega) (by omega)).trans (g4.2.2.1 a k q1 q2), fun k q => (mr_I (by omega) (by omega) (by omega)).trans (g4.2.2.2 k q)⟩, fun k q1 q2 q3 => (mr_I (by omega) (by omega) (by omega)).trans (g5 k q1 q2 q3), fun k => (mr_I (by omega) (by omega) (by omega)).trans (g6 k), k2, fun l2 hl2 o2 ho2 => ?_⟩
  · unfold bkR
    split
    · rfl
    · split <;> rfl
  · by_cases e : l2 = l
    · subst e
      rw [ho] at ho2
      injection ho2 with ho2
      subst ho2
      rw [bk_3 c1, mr_77, e3]
      refine ⟨rfl, c + 1, by omega, ?_⟩
      rw [← e3, So 3, c5, nI_1]
    · obtain ⟨d1, d2, d3, c', d4, d5⟩ := brk_cnt hB l2 hl2 o2 ho2
      have ne : ¬ o2 = o := fun z => e (hDS l2 l o hl2 hl (by rw [← z]; exact ho2) ho)
      obtain ⟨z1, c'', z2, z3⟩ := g8 l2 hl2 o2 ho2
      have w1 : hI (bkR o n v hc1).2 o2 3 = hI hc1 o2 3 := bk_I (by omega) (by omega) (by omega)
      have w2 : hI (msR l n v hm1).2 77 l2 = hI hm1 77 l2 := mr_I (by omega) (by omega) (by omega)
      exact ⟨w1.trans (z1.trans w2.symm), c'', z2, w1.trans z3⟩
theorem bs_all {tf : Nat} (hD : DK hc) (hM : MI 12 hc) (hM29 : MI 29 hc) (hO : MO hm) (hg : PRG x pg hc hm) (hB : ∀ l, l < 40 → BRK (arC x.r) B l hc hm) (hDS : DST hc) (hN : NTS B hc hm) (hW : WAI (mkG x pg 0 a0 tf) hc hm) (h29 : hI hm 49 29 = 0 ∨ hI hm 49 29 = 1) (hB31 : B + 1 < 2 ^ 31) : ∃ sp hc2 hm2, Rn xs L (d + 20) 74 [.inr (some 3)] hc (some (.inl sp), hc2) ∧ Rn xs L (d + 20) 106 [.inr (some 49)] hm (some (.inl sp), hm2) ∧ BSR B hc hm hc2 hm2 := by
  have hP0 := hg.1
  obtain ⟨h4, q, b, M, pl, i, hd, oh, ⟨t1, t2, t3, t4, t5, t6, t7, t8⟩, ha, hf, h125, h65, h5, h2, h7⟩ := hW
  have hbd := bd_progl (tx := x.tx) 4 x.s (bd_st0 (n := x.n) hP0.2.2.1) hP0.2.2.2.1.1
  have hz : x.r.2.1 ≤ 151 := hbd.2.1
  have hln : x.r.2.2.1 ≤ 40 := hbd.2.2
  have hn := hP0.1.1
  obtain ⟨l, l1, l2, l3, l4, l5, -⟩ := fr_st hP0.1 (by show x.r.2.1 < _; omega) hf h125
  have l3 : pl < x.n := l3
  have l5 : x.Z pl = nI l := l5
  have hlt := zl_lt hP0 hg.2.1 (by omega) l1 l5
  have hl5 : hI hc (12 + (2 + 2 * q)) 5 = nI l := h5.trans l5
  have hh : Rn xs L (d + 19) 71 [.inr (some 3), .inl (nI l)] hc (some (.inl 1), hc) := by
    have := d_has (xs := xs) (L := L) (d := d + 18) (b := nI l) (v := nI x.r.2.2.1) hD hg.2.2.2.1 hg.2.2.2.2.2.2.1.1.1 hg.2.2.2.2.2.2.1.2.2.1
    rw [decide_eq_true ⟨Int32.not_lt.mpr (nI_le (a := 0) (Nat.zero_le _) (by omega)), Int32.not_le.mp (nI_ge hlt (by omega))⟩] at this
    exact this
  have e62 : hI hm 62 0 = nI (q + 1) := t5
  have e65 : hI hm 65 q = nI pl := by
    have := h65
    rw [show 6 * (mkG x pg 0 a0 tf).m + q = q from by show 6 * 0 + q = q; omega] at this
    exact this
  have e55 : hI hm 55 pl = nI l := (hg.2.2.1.2.2.2.2.2.2.2.1 pl).trans l5
  have e66 : ∀ v, v < 6 → hI hc (12 + (3 + 2 * q)) v = hI hm 66 (6 * q + v) := fun v hv => by
    have := t7.2.1 v hv
    rw [show 6 * (6 * (mkG x pg 0 a0 tf).m + q) + v = 6 * q + v from by show 6 * (6 * 0 + q) + v = _; omega] at this
    exact this
  have hN0 := hN
  obtain ⟨n, n1, n2, n3, n4⟩ := hN0
  rcases hB l l1 with ⟨b1, b2⟩ | ⟨o, b1, b2, b3, b4, b5, b6, b7, b8, b9, b10⟩
  · exact ⟨0, hc, hm, d_bs_null (d := d + 18) hD hM t4 t3 hl5 l1 hh b1, m_stops_pre (d := d + 18) hO e62 t3 e65 (by omega) e55 l1 (fun _ => rfl) (fun z => absurd b2 z), bsr_0 ua_rfl um_rfl hB hN⟩
  · rcases b10 with ⟨k1, k2⟩ | ⟨c, k1, k2, k3, k4, k5⟩
    · obtain ⟨r1, r2⟩ := bsr_1 (v := 0) (hc1 := hc) (hm1 := hm) ua_rfl um_rfl hB hDS n1 n2 n3 n4 l1 b1 b6 b7
      refine ⟨(bkR o n 0 hc).1, (bkR o n 0 hc).2, (msR l n 0 hm).2, d_bs_bare (d := d + 18) hD hM t4 t3 hl5 l1 hh b1 b4 b2 k1 n2 (by omega), m_stops_pre (d := d + 18) hO e62 t3 e65 (by omega) e55 l1 (fun z => absurd (b5.symm.trans z) (by decide)) (fun _ => ?_), r2⟩
      rw [r1]
      exact m_stops_bare hO l1 k2 n3 (by omega)
    · obtain ⟨hc1, hm1, code, s1, s2, s3, s4, s5, s6, s7⟩ := as_run (xs := xs) (L := L) (d := d + 13) (row := 1 + l) (c := c) (t := q) hg hM hM29 hO h29 k5 k2 (by omega) t3 e66
      have f2 : hI hc1 46 1 = nI n := ((s3.2.2.2.1 46 (by omega)).2.2.2 1).trans n2
      have f3 : hI hm1 49 42 = nI n := (um_o s4 (by unfold OwM; omega)).trans n3
      have hD1 : DK hc1 := gc_dk (gc_ua s3) hD
      have hM1 : MI 29 hc1 := s3.2.2.2.2 hM29
      have rc := d_bs_cond (xs := xs) (L := L) (d := d + 18) hD hM t4 t3 hl5 l1 hh b1 b4 b2 k1 hg.2.2.2.1 hM29.1 (rn_le (by omega) s1) hD1 ((s3.2.2.1 o).1.trans b4) hM1.1 f2 (by omega)
      have rm := m_stops_cond (xs := xs) (L := L) (d := d + 18) (l := l) hO l1 (by rw [k4]; decide) e62 t3 (rn_le (by omega) s2) (mo_eq s4.2.2.1 s4.2.2.2.1 hO) f3 (by omega)
      have pre : ∀ res, X xs L (d + 19) 106 (29, [some (.inr (some 49)), some (.inl (nI l)), some (.inl 0), none], [], hm) res → Rn xs L (d + 20) 106 [.inr (some 49)] hm res := fun res hX => m_stops_pre (d := d + 18) hO e62 t3 e65 (by omega) e55 l1 (fun z => absurd (b5.symm.trans z) (by decide)) (fun _ => hX)
      rw [s6] at rc
      by_cases e2 : code = 2
      · subst e2
        have s7 := s7 rfl
        rw [show asA 2 = 0 from by decide] at rm
        rw [s7] at rc
        by_cases e0 : hI hm1 49 28 = 0
        · rw [if_neg (fun z => z.2 e0)] at rc rm
          exact ⟨0, hc1, hm1, rc, pre _ rm, bsr_0 s3 s4 hB hN⟩
        · rw [if_pos ⟨rfl, e0⟩] at rc rm
          obtain ⟨r1, r2⟩ := bsr_1 (v := hI hm1 49 28) s3 s4 hB hDS n1 n2 n3 n4 l1 b1 b6 b7
          rw [← r1] at rm
          exact ⟨_, _, _, rc, pre _ rm, r2⟩
      · rw [if_neg (fun z => e2 z.1)] at rc
        have ea : ¬ asA code = 0 := by
          rcases s5 with e | e | e
          · rw [e]; decide
          · exact absurd e e2
          · rw [e]; decide
        rw [if_neg (fun z => ea z.1)] at rm
        exact ⟨0, hc1, hm1, rc, pre _ rm, bsr_0 s3 s4 hB hN⟩
end BS1

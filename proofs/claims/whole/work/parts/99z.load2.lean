-- THE CALL load: a text that is not taken
section CL2
variable {xs : Nat → Int32} {L d i : Nat} {h g hc hm hc1 hm1 hc2 hm2 hc3 hm3 : Hp} {x y : PDt} {pg pg2 B B2 l o n : Nat} {ar By ay Bk Q Bg F G : Nat → Int32} {v s : Int32} {u : TB}
/-- what a refused load leaves as it was -/
def LF (h g : Hp) : Prop := AgC h g ∧ (∀ o, hK g o = hK h o ∧ hL g o = hL h o ∧ ∀ k, hR g o k = hR h o k) ∧ ∀ o k, ¬ (52 ≤ o ∧ o ≤ 61) → ¬ (o = 49 ∧ (k = 0 ∨ k = 5)) → ¬ (o = 51 ∧ 6232 ≤ k) → hI g o k = hI h o k
theorem lf_eqm (hF : LF hm hm2) : EqM hm hm2 := ⟨hF.2.2 _ _ (by omega) (by omega) (by omega), fun o k q1 q2 => hF.2.2 _ _ (by omega) (by omega) (by omega), fun o k q1 q2 => hF.2.2 _ _ (by omega) (by omega) (by omega), fun k q => hF.2.2 _ _ (by omega) (by omega) (by omega)⟩
theorem lf_mo (hF : LF hm hm2) (hO : MO hm) : MO hm2 := mo_ag (hm := hm) (fun o _ _ => hF.2.1 o) hO
theorem ld_inv (hv : INV i hc hm) (hC : FC hc hc2) (h41 : hI hc2 4 1 = 0) (h38 : hI hc2 3 8 = hI hc 3 8) (hF : LF hm hm2) (h490 : hI hm2 49 0 = 0) (h57 : ∀ f, f < 4 → ∃ k, k ≤ 3 ∧ hI hm2 57 f = nI k) (h5 : ∃ ln, hI hm2 49 5 = nI ln) (hR : NOP hc2 hm2 ∨ LDD (1000000 * (i + 1)) hc2 hm2) : INV (i + 1) hc2 hm2 ∧ AgM hc hc2 := by
  have hN0 := hv.1.2.2.2.2.1
  obtain ⟨⟨a1, a2, a3, a4, a5, a6, a7, a8⟩, h2, ⟨w1, w2, w3⟩, h4, h5', ⟨f1, f2, f3, f4, f5, f6, f7⟩, h7⟩ := hv
  have h12 := fc_12 hN0 hC
  have S : ∀ o, o < hN hc → ¬ o = 3 → ¬ o = 4 → ¬ (6 ≤ o ∧ o < 12) → ¬ (29 ≤ o ∧ o < 46) → Sm1 hc hc2 o := hC.2.2.2.2.1
  have M := hF.2.2
  have M49 : ∀ k, ¬ k = 0 → ¬ k = 5 → hI hm2 49 k = hI hm 49 k := fun k q1 q2 => M 49 k (by decide) (by omega) (by omega)
  have c12 := (h12 12 (by decide) (by decide)).2.2.2
  have u1 := hC.1
  have u2 := hC.2.1
  have u3 := hC.2.2.1
  have v1 : 80 ≤ hN hc2 := by omega
  have v2 : hN hc2 ≤ 80 + 10 * (i + 1) := by omega
  have v3 : hU hc2 ≤ 20000 + 1000 * (i + 1) := nat_b u3 a7
  refine ⟨⟨⟨fc_dk hN0 hC a1, fc_mi hN0 hC a2, hC.2.2.2.2.2.2.2.2.2, hC.2.2.2.2.2.2.2.2.1, v1, v2, v3, lf_mo hF a8⟩, ⟨0, by decide, h41, h490, fun j hj => absurd hj (by omega)⟩, ⟨?_, ?_, ?_⟩, ?_, ?_, ⟨?_, ?_, ?_, ?_, h57, h5, fun j hj => ?_⟩, hR⟩, fun o q1 q2 => S o (by omega) (by omega) (by omega) (by omega) (by omega)⟩
  · rw [hC.2.2.2.2.2.2.2.1, M49 33 (by decide) (by decide)]; exact w1
  · rw [hC.2.2.2.2.2.2.2.1]; exact w2
  · rw [h38, M49 34 (by decide) (by decide)]; exact w3
  · exact nts_fr h4 (by omega) ((S 46 (by omega) (by decide) (by decide) (by decide) (by decide)).2.2.2 1) (fun k _ => (S 47 (by omega) (by decide) (by decide) (by decide) (by decide)).2.2.2 k) (M49 42 (by decide) (by decide)) (fun k _ => M _ _ (by omega) (by omega) (by omega))
  · exact out_fr h5' (by omega) h12 (M49 40 (by decide) (by decide)) (fun k _ => M _ _ (by omega) (by omega) (by omega))
  · rw [c12, M49 30 (by decide) (by decide)]; exact f1
  · rw [c12, M49 31 (by decide) (by decide)]; exact f2
  · rw [c12, M49 32 (by decide) (by decide)]; exact f3
  · rw [M49 29 (by decide) (by decide)]; exact f4
  · rw [M 51 j (by decide) (by omega) (by omega)]; exact f7 j hj
theorem agv_mk (hx : PDok x) (hR : RDx x) {h : Hp} {bd2 : Nat → Nat} {ay2 Q2 : Nat → Int32} {u2 : TB} (p4 : hds x.T x.n 0 (fun _ => 0) (hI h 57) (hI h 52) = some (bd2, ay2, Q2)) (p5 : pgm (arC x.r) x.T x.n 4 0 (u0 h) = some u2) : bd2 = x.bd ∧ AgV x.T x.n x.K x.W x.Z x.V u2.1 u2.2.1 u2.2.2.1 Q2 := by
  have hpar := rd_par hR
  obtain ⟨hTX, hTC, hS0, ⟨c1, c2, c3, c4⟩, -, -⟩ := hx
  obtain ⟨ay0, Q0, ayx, τ0, ux, e1, e2, e3, e4, e5, e6, e7⟩ := hR
  obtain ⟨ay3, Q3, k1, -, k3⟩ := hds_det x.n 0 (fun _ => 0) ay0 Q0 (hI h 57) (hI h 52) x.bd ayx x.V (by omega) e1
  rw [p4] at k1
  injection k1 with k1
  injection k1 with k4 k5
  injection k5 with k5 k6
  subst k6
  have hA0 : Ars (aP x.r) := progl_P hTC 4 x.s (fun f hf => Or.inl (hS0.2.2.2 f hf).1) c1
  have hA : Ars (arC x.r) := fun f hf => by unfold arC; rw [if_pos hf]; exact hA0 f hf
  have hF : Fit (arC x.r) (aA (cProgL x.n x.tx 4 x.s).2) := fun f hf => by
    unfold arC
    rw [if_pos hf]
    exact fit_4.mp c4 f hf
  obtain ⟨u3, m1, m2, m3, m4⟩ := pgm_det hTC hTX hA 4 x.s (fun _ => 0) (fun _ => 0) τ0 (u0 h) ux (bd_st0 hS0) (by rw [hS0.2.1]; omega) (by rw [e3, hS0.2.2.1]) (by rw [hS0.2.2.1]; rfl) (pcr0 hS0) c1 c2 hF (by rw [hS0.1]; exact e2)
  rw [hS0.1, p5] at m1
  injection m1 with m1
  subst m1
  refine ⟨k4, fun y hy h123 => ⟨?_, ?_, fun hk => ?_⟩, fun y hy h125 => ⟨?_, hpar y hy h125⟩, fun y hy => ?_⟩
  · rw [m2 y (Or.inr ⟨by rw [hS0.1]; omega, hy, h123⟩), e5]
  · exact k3 y (Or.inr ⟨by omega, hy, Or.inl h123⟩)
  · rw [m3 y (Or.inr ⟨by rw [hS0.1]; omega, hy, h123⟩) (by rw [e5]; exact hk), e6]
  · exact k3 y (Or.inr ⟨by omega, hy, Or.inr h125⟩)
  · have hn := hTX.1
    rw [m4 y (by rw [e4 y (by omega)]; exact if_pos (by omega)), e7]
theorem ld_no (hv : INV i hc hm) (b1 : n ≤ 150) (b2 : hI hc 4 1 = nI n) (b3 : hI hm 49 0 = nI n) (b4 : ∀ j, j < n → hI hm 50 j = hI hc 5 j ∧ 32 ≤ hI hc 5 j ∧ hI hc 5 j ≤ 126) (ha : ¬ cAcc n (cProgL n (hI hc 5) 4 (sp0 hc))) : ∃ a hc2 hm2, Rn xs L (d + 60) 52 [.inr (some 3)] hc (a, hc2) ∧ Rn xs L (d + 60) 89 [.inr (some 49)] hm (a, hm2) ∧ INV (i + 1) hc2 hm2 ∧ AgM hc hc2 ∧ AgC hm hm2 := by
  obtain ⟨hct, hTX, hTC⟩ := txt_use hv b1 b4
  have hv0 := hv
  obtain ⟨⟨a1, a2, a3, a4, a5, a6, a7, a8⟩, -, -, -, -, ⟨-, -, -, s29, s5, ⟨ln, s6⟩, s7⟩, h7⟩ := hv0
  have hT0 := t0_mk a1 a4 b1 b2 (fun j hj => (b4 j hj).2)
  have r1 := t_rp_rej (xs := xs) (L := L) (d := d) hT0 ha
  have ra : RaC hc (tH (bgR hc n) (cProgL n (hI hc 5) 4 (sp0 hc)).2) := ⟨fun o ho hn => th_sm hn, fun o ho => ⟨rfl, rfl⟩, ra_th a4, Nat.le_refl _, by show hN hc ≤ _; omega, by show hU hc ≤ _; omega⟩
  generalize tH (bgR hc n) (cProgL n (hI hc 5) 4 (sp0 hc)).2 = hc1 at r1 ra
  have fc1 : FC hc (sI hc1 4 1 0) := fc_ra a5 a3 ra
  have hD1 : DK hc1 := dk_ag (hc := hc) (fun o ho => ra.2.1 o (by omega)) (fun k _ => (ra.1 3 (by omega) (by decide)).2.2.1 k) ((ra.1 4 (by omega) (by decide)).2.2.1 0) ((ra.1 46 (by omega) (by decide)).2.2.1 0) a1
  have rc := d_load_no (xs := xs) (L := L) (d := d + 58) a1 a4.1.1 (rn_le (by omega) r1) hD1
  have i38 : hI (sI hc1 4 1 0) 3 8 = hI hc 3 8 := (hI_ne (by decide)).trans ((ra.1 3 (by omega) (by decide)).2.2.2 8)
  obtain ⟨By, ay, Bk, Q, u, Bg, F, G, p1, p2⟩ := m_prog_rej (xs := xs) (L := L) (d := d) (h := ld2 n hm) (s := sp0 hc) (ln := ln) (mo_klr klr_ld2 a8) (fun j hj => by rw [ld2_51, if_pos hj]) hTX hTC ld2_3 ((ld2_o (by decide) (by decide)).trans s6) (fun f hf => by rw [ld2_o (by decide) (by omega)]; exact s5 f hf) st0_sp ha
  have F0 : LF hm (rs1 (hI hm 49 3) (kH (hH (ld2 n hm) By ay Bk Q) u Bg F G)) := by
    refine ⟨agc_tr agc_ld2 (agc_tr agc_rd agc_rs1), klr_tr klr_ld2 (klr_tr klr_rd klr_rs1), fun o k q1 q2 q3 => ?_⟩
    by_cases e : o = 49 ∧ k = 3
    · obtain ⟨rfl, rfl⟩ := e
      unfold rs1
      rw [hI_is]
    · by_cases e2 : o = 51 ∧ k < 152
      · obtain ⟨rfl, e2⟩ := e2
        rw [rs1_51 e2, rd_o (by omega) (by omega), ld2_51, if_neg (by omega), if_pos (by omega), show 6232 + k - 6232 = k from by omega]
      · rw [rs1_o e2 e, rd_o q1 (by omega)]
        by_cases e3 : o = 51
        · subst e3
          rw [ld2_51, if_neg (by omega), if_neg (by omega)]
        · exact ld2_o e3 (by omega)
  have f51 : ∀ j, j < 152 → hI (kH (hH (ld2 n hm) By ay Bk Q) u Bg F G) 51 (6232 + j) = hI hm 51 j := fun j hj => by
    rw [rd_o (by omega) (by omega), ld2_51, if_neg (by omega), if_pos (by omega), show 6232 + j - 6232 = j from by omega]
  have f4 : hI (kH (hH (ld2 n hm) By ay Bk Q) u Bg F G) 49 4 = hI hm 49 4 := (rd_o (by decide) (by decide)).trans (ld2_o (by decide) (by decide))
  have f0 : hI (rs1 (hI hm 49 3) (kH (hH (ld2 n hm) By ay Bk Q) u Bg F G)) 49 0 = 0 := by
    rw [rs1_o (by decide) (by decide), rd_o (by decide) (by decide)]; exact ld2_0
  have f57 : ∀ f, hI (rs1 (hI hm 49 3) (kH (hH (ld2 n hm) By ay Bk Q) u Bg F G)) 57 f = ay f := fun f => by
    rw [rs1_o (by omega) (by omega)]; exact kH_57.trans hH_57
  have f5 : hI (rs1 (hI hm 49 3) (kH (hH (ld2 n hm) By ay Bk Q) u Bg F G)) 49 5 = nI u.2.2.2 := by
    rw [rs1_o (by decide) (by decide)]; exact kH_ln
  have O1 : MO (kH (hH (ld2 n hm) By ay Bk Q) u Bg F G) := mo_klr klr_rd (mo_klr klr_ld2 a8)
  generalize kH (hH (ld2 n hm) By ay Bk Q) u Bg F G = h1 at *
  have rmk := fun h3 hl => m_load_no (xs := xs) (L := L) (d := d + 58) (n := n) (h3 := h3) a8 b3 b1 hct s7 (rn_le (by omega) p1) O1 (fun j hj => by rw [f51 j hj]; exact s7 j hj) hl
  rcases h7 with z | ⟨x, pg, g1, g2, g3, g4⟩
  · obtain ⟨v1, v2⟩ := ld_inv hv fc1 hI_is i38 F0 f0 (fun f hf => by rw [f57]; exact p2 f hf) ⟨_, f5⟩ (Or.inl (nop_fr (hc := hc) (hm := hm) z (fc1.2.2.2.2.2.1 6) (fun l => (fc1.2.2.2.2.1 48 (by omega) (by decide) (by decide) (by decide) (by decide)).2.2.1 l) (fc_12 a5 fc1) (F0.2.2 49 4 (by decide) (by decide) (by decide))))
    exact ⟨_, _, _, rc, rmk _ (Or.inl ⟨f4.trans z.2.1, rfl⟩), v1, v2, F0.1⟩
  · generalize rs1 (hI hm 49 3) h1 = hr at *
    have Or1 : MO hr := lf_mo F0 a8
    obtain ⟨x1, x2, x3, x4, x5, x6, x7, x8⟩ := g1
    have g1 : PRG x pg hc hm := ⟨x1, x2, x3, x4, x5, x6, x7, x8⟩
    obtain ⟨By2, ay2, Bk2, Q2, u2, Bg2, F2, G2, q1, q2, bd2, ⟨t1, t2, t3, t4⟩, q3, q4, q5⟩ := m_prog_acc (xs := xs) (L := L) (d := d) (h := hr) (T := x.T) (tx := x.tx) (n := x.n) (s := x.s) (ln := u.2.2.2) Or1 (fun j hj => (F0.2.2 51 j (by decide) (by omega) (by omega)).trans (x3.2.1 j hj)) x1.1 x1.2.1 ((F0.2.2 49 3 (by decide) (by decide) (by decide)).trans x3.1) f5 (fun f hf => by rw [f57]; exact p2 f hf) x1.2.2.1 x1.2.2.2.1
    obtain ⟨eb, hV⟩ := agv_mk x1 x2 q4 q5
    subst eb
    have F3 : LF hm (kH (hH hr By2 ay2 Bk2 Q2) u2 Bg2 F2 G2) := ⟨agc_tr F0.1 agc_rd, klr_tr F0.2.1 klr_rd, fun o k q1 q2 q3 => (rd_o q1 (by omega)).trans (F0.2.2 o k q1 q2 q3)⟩
    have e57 : ∀ f, hI (kH (hH hr By2 ay2 Bk2 Q2) u2 Bg2 F2 G2) 57 f = ay2 f := fun f => kH_57.trans hH_57
    have e53 : hI (kH (hH hr By2 ay2 Bk2 Q2) u2 Bg2 F2 G2) 53 = u2.1 := funext (fun k => kH_53)
    have e54 : hI (kH (hH hr By2 ay2 Bk2 Q2) u2 Bg2 F2 G2) 54 = u2.2.1 := funext (fun k => kH_54)
    have e55 : hI (kH (hH hr By2 ay2 Bk2 Q2) u2 Bg2 F2 G2) 55 = u2.2.2.1 := funext (fun k => kH_55)
    have e52 : hI (kH (hH hr By2 ay2 Bk2 Q2) u2 Bg2 F2 G2) 52 = Q2 := funext (fun k => rd_52)
    have k0 : hI (kH (hH hr By2 ay2 Bk2 Q2) u2 Bg2 F2 G2) 49 0 = 0 := (rd_o (by decide) (by decide)).trans f0
    generalize kH (hH hr By2 ay2 Bk2 Q2) u2 Bg2 F2 G2 = h3 at *
    have O3 : MO h3 := lf_mo F3 a8
    rw [e53, e54, e55, e52] at t4
    have hP : PDok (x.re u2.1 u2.2.1 u2.2.2.1 Q2) := ⟨x1.1, x1.2.1, x1.2.2.1, x1.2.2.2.1, x1.2.2.2.2.1, t4⟩
    have hH : HPD h3 (x.re u2.1 u2.2.1 u2.2.2.1 Q2) := by
      refine ⟨(F3.2.2 49 3 (by decide) (by decide) (by decide)).trans x3.1, fun j hj => (F3.2.2 51 j (by decide) (by omega) (by omega)).trans (x3.2.1 j hj), fun f hf => (t1 f hf).1, fun f hf h0 => ?_, t3, fun k => by rw [e53]; rfl, fun k => by rw [e54]; rfl, fun k => by rw [e55]; rfl, fun k => by rw [e52]; rfl⟩
      have hr := t2 f hf
      have h0 : 0 < x.bd f := h0
      rw [if_neg (by omega)] at hr
      exact hr.symm
    have hOl := fc_old fc1
    have E12 := fc_12 a5 fc1
    have hG : PRG (x.re u2.1 u2.2.1 u2.2.2.1 Q2) pg (sI hc1 4 1 0) h3 := ⟨hP, ⟨_, _, ay2, u0 hr, u2, q4, q5, rfl, fun j hj => if_pos hj, rfl, rfl, rfl⟩, hH, (fc1.2.2.2.2.2.1 6).trans x4, x5, by have := fc1.1; omega, pro_fr x7 (fun o q1 q2 => hOl.2 o (by omega) (by omega)), (F3.2.2 49 4 (by decide) (by decide) (by decide)).trans x8⟩
    have S48 := (fc1.2.2.2.2.1 48 (by omega) (by decide) (by decide) (by decide) (by decide)).2.2.1
    have hRUN : RUN (x.re u2.1 u2.2.1 u2.2.2.1 Q2) pg (sI hc1 4 1 0) h3 := by
      have c12 := (E12 12 (by decide) (by decide)).2.2.2
      rcases g4 with ⟨z1, z2, z3⟩ | ⟨z1, z2⟩
      · refine Or.inl ⟨(c12 4).trans z1, (c12 5).trans z2, wai_tr (hc := hc) (hm := hm) x1.1 hV (fun o ho => ?_) (lf_eqm F3) (smh_mk (x := x.re u2.1 u2.2.1 u2.2.2.1 Q2) hP O3 hH) z3⟩
        rcases ho with ⟨ho1, ho2⟩ | ⟨ho1, ho2⟩
        · exact E12 o ho1 ho2
        · exact hOl.2 o (by omega) (by omega)
      · exact Or.inr ⟨by rw [c12 4]; exact z1, (c12 6).trans z2⟩
    obtain ⟨v1, v2⟩ := ld_inv hv fc1 hI_is i38 F3 k0 (fun f hf => by rw [e57]; exact q2 f hf) ⟨_, t3⟩ (Or.inr ⟨x.re u2.1 u2.2.1 u2.2.2.1 Q2, pg, hG, fun l hl => brk_fr (g2 l hl) (by omega) hOl (S48 l) (fun o ho => F3.2.2 _ _ (by omega) (by omega) (by omega)) (fun j hj => F3.2.2 _ _ (by omega) (by omega) (by omega)), fun l l2 o w1 w2 w3 w4 => g3 l l2 o w1 w2 ((S48 l).symm.trans w3) ((S48 l2).symm.trans w4), hRUN⟩)
    exact ⟨_, _, _, rc, rmk h3 (Or.inr ⟨by rw [f4, x8]; decide, m_again (d := d + 58) Or1 (rn_le (by omega) q1)⟩), v1, v2, F3.1⟩
theorem k_load : CAL xs L (d + 60) i 52 89 [] := fun hc hm hv => by
  obtain ⟨n, b1, b2, b3, b4⟩ := hv.2.1
  by_cases ha : cAcc n (cProgL n (hI hc 5) 4 (sp0 hc))
  · exact ld_yes hv b1 b2 b3 b4 ha
  · exact ld_no hv b1 b2 b3 b4 ha
end CL2

-- THE CALL go
section CG1
variable {xs : Nat → Int32} {L d i : Nat} {h hc hm hc0 hm0 hc1 hm1 hc2 hm2 : Hp} {x : PDt} {pg B B2 l o n p c tf : Nat} {ar T : Nat → Int32} {v k b : Int32} {a : ADt}
theorem xf_8 {q bq p e i : Nat} {wb : Bool} {lv : LV} {st : List LV} {J : List Int32} (hq : q < 6) (h : XF (mkG x pg 0 a tf) hc hm q bq wb p lv st e J i) : XF (mkG x pg 0 a tf) (sI hc 12 8 v) hm q bq wb p lv st e J i := by
  obtain ⟨a1, a2, a3, a4, a5, a6, a7, a8, a9, a10⟩ := h
  refine ⟨a1, a2, a3, a4, a5, lr_congr (μ := 12) (t := 6 * 0 + q) (lv :: st) (fun k _ => hI_ne (by omega)) (fun o k ho hk => rfl) (fun k hk => rfl) (fun l hl2 => by have := wl_seen _ a5 l hl2; omega) a6, a7, a8, ?_, fun z => ?_⟩
  · show hI (sI hc 12 8 v) (12 + (2 + 2 * q)) 2 = _
    rw [hI_ne (by omega)]; exact a9
  · show hI (sI hc 12 8 v) (12 + (2 + 2 * q)) 3 = _
    rw [hI_ne (by omega)]; exact a10 z
theorem fv_8 {q : Nat} (h : FV (mkG x pg 0 a tf) hc hm q) : FV (mkG x pg 0 a tf) (sI hc 12 8 v) hm q := by
  obtain ⟨a1, a2, a3⟩ := h
  refine ⟨a1, fun w hw => ?_, fun z => ?_⟩
  · show hI (sI hc 12 8 v) (12 + (3 + 2 * q)) w = _
    rw [hI_ne (by omega)]
    exact a2 w hw
  · show hI (sI hc 12 8 v) (12 + (2 + 2 * q)) 4 = _
    rw [hI_ne (by omega)]
    exact a3 z
theorem low_8 : ∀ (q b M : Nat), q ≤ 6 → LOW (mkG x pg 0 a tf) hc hm q b M → LOW (mkG x pg 0 a tf) (sI hc 12 8 v) hm q b M := by
  intro q
  induction q with
  | zero => exact fun _ _ _ h => h
  | succ q ih =>
    intro b M hq h
    obtain ⟨bq, lv, st, p, e, J, i, M', h1, h2, h3, h4, h5, h6⟩ := h
    refine ⟨bq, lv, st, p, e, J, i, M', ih bq M' (by omega) h1, fv_8 h2, xf_8 (by omega) h3, ?_, h5, h6⟩
    rcases h4 with ⟨k1, -⟩ | ⟨k1, pl, hd, oh, k2, k3, k4, k5⟩
    · rw [fl_m0] at k1; cases k1
    · refine Or.inr ⟨k1, pl, hd, oh, k2, k3, ?_, k5⟩
      show hI (sI hc 12 8 v) (12 + (2 + 2 * q)) 5 = _
      rw [hI_ne (by omega)]; exact k4
theorem wai_8 (hS : SCh (mkG x pg 0 a tf) (sI hc 12 8 v)) (h : WAI (mkG x pg 0 a tf) hc hm) : WAI (mkG x pg 0 a tf) (sI hc 12 8 v) hm := by
  obtain ⟨h4, q, b, M, pl, i, hd, oh, ⟨t1, t2, t3, t4, t5, t6, t7, t8⟩, ha, hf, h125, h65, h5, h2, h7⟩ := h
  have C : ∀ o k, ¬ (o = 12 ∧ k = 8) → hI (sI hc 12 8 v) o k = hI hc o k := fun o k hn => hI_ne hn
  exact ⟨(C 12 4 (by omega)).trans h4, q, b, M, pl, i, hd, oh, ⟨hS, t2, t3, (C 12 6 (by omega)).trans t4, t5, low_8 q b M (by omega) t6, fv_8 t7, fun z => (C (12 + (2 + 2 * q)) 3 (by omega)).trans (t8 z)⟩, ha, hf, h125, h65, (C (12 + (2 + 2 * q)) 5 (by omega)).trans h5, (C (12 + (2 + 2 * q)) 2 (by omega)).trans h2, (C 12 7 (by omega)).trans h7⟩
theorem wai_3 (h : WAI (mkG x pg 0 a tf) hc hm) : hR hc 12 3 = some pg := by
  obtain ⟨h4, q, b, M, pl, i, hd, oh, ⟨t1, -⟩, -⟩ := h
  exact t1.2.1
/-- between two points of go; hc0, hm0: where go began -/
def GS (x : PDt) (pg : Nat) (hc0 hm0 : Hp) (B : Nat) (hc hm : Hp) : Prop := GC hc0 hc ∧ GM hm0 hm ∧ (∀ l, l < 40 → ∀ o, hR hc0 48 l = some o → hI hc o 3 = hI hm 77 l ∧ ∃ c, c ≤ B ∧ hI hc o 3 = nI c) ∧ NTS B hc hm ∧ OUT B hc hm ∧ (hI hm 49 30 = hI hc 12 4 ∧ hI hm 49 31 = hI hc 12 5 ∧ hI hm 49 32 = hI hc 12 8 ∧ (hI hm 49 29 = 0 ∨ hI hm 49 29 = 1)) ∧ RUN x pg hc hm
theorem gs_up (h : GS x pg hc0 hm0 B hc hm) (hB : B ≤ B2) : GS x pg hc0 hm0 B2 hc hm := by
  obtain ⟨h1, h2, h3, ⟨m, m1, m2⟩, ⟨u, u1, u2⟩, h6, h7⟩ := h
  refine ⟨h1, h2, fun l hl o ho => ?_, ⟨m, by omega, m2⟩, ⟨u, by omega, u2⟩, h6, h7⟩
  obtain ⟨q1, c, q2, q3⟩ := h3 l hl o ho
  exact ⟨q1, c, by omega, q3⟩
theorem gs_bs (hg : PRG x pg hc0 hm0) (hO : MO hm0) (h : GS x pg hc0 hm0 B hc hm) (hb : BSR B hc hm hc2 hm2) : GS x pg hc0 hm0 (B + 1) hc2 hm2 := by
  obtain ⟨h1, h2, h3, h4, h5, ⟨s30, s31, s32, s29⟩, h7⟩ := h
  obtain ⟨b1, b2, b3, b4, b5, b6, b7, b8⟩ := hb
  have c12 := (b3 12 (by decide) (by decide)).2.2.2
  have P : PRG x pg hc hm := gc_prg h1 hg (gm_eqt h2)
  refine ⟨gc_tr h1 b1, gm_tr h2 b2, fun l hl o ho => b8 l hl o ((h1.2.2.2.1 48 l (by omega)).trans ho), b7, out_fr h5 (by omega) b3 (b5 40 (by decide) (by decide) (by decide)) (fun k _ => b6 k), ⟨?_, ?_, ?_, ?_⟩, run_fr P (gm_mo (gm_tr h2 b2) hO) (gm_eqt b2) h7 (fun o ho => ?_) b4⟩
  · rw [b5 30 (by decide) (by decide) (by decide), c12]; exact s30
  · rw [b5 31 (by decide) (by decide) (by decide), c12]; exact s31
  · rw [b5 32 (by decide) (by decide) (by decide), c12]; exact s32
  · rw [b5 29 (by decide) (by decide) (by decide)]; exact s29
  · rcases ho with ⟨ho1, ho2⟩ | ⟨ho1, ho2⟩
    · exact b3 o ho1 ho2
    · have hp80 := hg.2.2.2.2.1
      refine gc_sm b1 (by omega) (fun z => ?_)
      obtain ⟨⟨p1, p2, p3, p4, p5, p6, p7, p8⟩, ⟨w1, w2, w3, w4, w5, w6, w7, w8, w9⟩, -⟩ := P.2.2.2.2.2.2.1
      have : o = pg ∨ o = pg + 1 ∨ o = pg + 2 ∨ o = pg + 3 ∨ o = pg + 4 ∨ o = pg + 5 := by omega
      have z2 := z.2
      rcases this with e | e | e | e | e | e <;> subst e
      · rw [p1] at z2; exact absurd z2 (by decide)
      · rw [w1] at z2; exact absurd z2 (by decide)
      · rw [w5] at z2; exact absurd z2 (by decide)
      · rw [w7] at z2; exact absurd z2 (by decide)
      · rw [p5] at z2; exact absurd z2 (by decide)
      · rw [p7] at z2; exact absurd z2 (by decide)
set_option maxRecDepth 100000 in
theorem go_pass (hM12 : MI 12 hc0) (hO : MO hm0) (hg : PRG x pg hc0 hm0) (hBk : ∀ l, l < 40 → BRK (arC x.r) B2 l hc0 hm0) (hs : GS x pg hc0 hm0 B hc hm) (hw : hI hc 12 4 = 1) (hB : B + 20000 < 2 ^ 31) : ∃ q hmP hp code hc2, q < 6 ∧ hI hm 62 0 = nI (q + 1) ∧ Rn xs L (d + 10) 9 [.inr (some 12)] hc (none, hc2) ∧ Rn xs L (d + 10) 102 [.inr (some 49), .inl (nI q)] (gz9 hm) (none, hmP) ∧ MO hmP ∧ Rn xs L (d + 10) 101 [.inr (some 49), .inl 0] hmP (some (.inl code), hp) ∧ MO hp ∧ GS x pg hc0 hm0 (B + 18001) hc2 (cmH code hp) ∧ hI hc2 12 9 = hI (cmH code hp) 49 29 ∧ (code = 1 ∨ code = 2 ∨ code = 3) ∧ hI hc2 12 4 = code := by
  have hs0 := hs
  obtain ⟨h1, h2, h3, h4, ⟨u, u1, u2, u3, u4⟩, ⟨s30, s31, s32, s29⟩, h7⟩ := hs0
  have hp80 := hg.2.2.2.2.1
  obtain ⟨h5, hW⟩ : hI hc 12 5 = 0 ∧ WAI (mkG x pg 0 a0 0) hc hm := by
    rcases h7 with ⟨z1, z2, z3⟩ | ⟨z1, z2⟩
    · exact ⟨z2, z3⟩
    · rw [hw] at z1; exact absurd z1 (by decide)
  have cP : GC hc (sI hc 12 8 (hI hc 12 8 + 1)) := gc_sI (Or.inl (by omega))
  have cP0 := gc_tr h1 cP
  have gz : GM hm (gz9 hm) := by
    unfold gz9
    exact gm_tr (gm_sI (by unfold OwG; omega)) (gm_sI (by unfold OwG; omega))
  have gz0 := gm_tr h2 gz
  have zI : ∀ o k, ¬ (o = 49 ∧ (k = 29 ∨ k = 32)) → hI (gz9 hm) o k = hI hm o k := fun o k q => by
    unfold gz9
    rw [hI_ne (by omega), hI_ne (by omega)]
  have hPU : PU (mkG x pg 0 a0 1) := pu_0 hg
  have W1 : WAI (mkG x pg 0 a0 1) hc (gz9 hm) := wai_tr (K := x.K) (W := x.W) (Z := x.Z) (V := x.V) hg.1.1 (agv_rfl (rd_par hg.2.1)) (fun o _ => ⟨rfl, rfl, fun _ => rfl, fun _ => rfl⟩) ⟨zI _ _ (by omega), fun o k q1 q2 => zI _ _ (by omega), fun o k q1 q2 => zI _ _ (by omega), fun k q => zI _ _ (by omega)⟩ (smh_mk (x := x) hg.1 (gm_mo gz0 hO) (hpd_fr hg.2.2.1 (gm_eqt gz0))) hW
  have W2 := wai_8 (v := hI hc 12 8 + 1) (sch_0 (cP0.2.2.2.2.2.1 hM12) ((hR_sI hc 12 8 (hI hc 12 8 + 1) 12 3).trans (wai_3 hW)) (gc_pro cP0 hp80 hg.2.2.2.2.2.2.1)) W1
  have W3 : WAI (mkG x pg 0 a0 1) (sI (sI hc 12 8 (hI hc 12 8 + 1)) 12 9 0) (gz9 hm) := wai_9 hPU (k := 9) (v := 0) (by decide) (by decide) W2
  have E : ESt (mkG x pg 0 a0 1) u (sI (sI hc 12 8 (hI hc 12 8 + 1)) 12 9 0) (gz9 hm) := by
    refine ⟨?_, fun _ => ⟨(zI _ _ (by omega)).trans u3, fun k hk => ?_, fun _ => ?_⟩, ?_⟩
    · show hI (sI (sI hc 12 8 (hI hc 12 8 + 1)) 12 9 0) 27 1 = nI u
      rw [hI_ne (by decide), hI_ne (by decide)]; exact u2
    · show hI (sI (sI hc 12 8 (hI hc 12 8 + 1)) 12 9 0) 28 k = _
      rw [hI_ne (by omega), hI_ne (by omega), zI _ _ (by omega)]; exact u4 k hk
    · show hI (sI (sI hc 12 8 (hI hc 12 8 + 1)) 12 9 0) 12 9 = _
      rw [hI_is]
      unfold gz9
      rw [hI_ne (by decide), hI_is]
    · refine Or.inl ?_
      unfold gz9
      rw [hI_ne (by decide), hI_is]
  obtain ⟨q, hmP, w1, w2, w3, w4, w5⟩ := s_go (xs := xs) (L := L) (d := d) hPU W3 E (by omega)
  obtain ⟨hc2, hp, code, v2, r1, r2, r3, r4, r5, r6, r7, r8⟩ := d_run (g := mkG x pg 0 a0 1) (hc := sI hc 12 8 (hI hc 12 8 + 1)) (cP0.2.2.2.2.2.1 hM12) w5
  have w4 : UM 0 0 (gz9 hm) hmP := w4
  have r3 : UD 12 code (sI hc 12 8 (hI hc 12 8 + 1)) hc2 := r3
  have r4 : UM 0 0 hmP hp := r4
  have oP : MO hmP := gm_mo (gm_tr gz0 (gm_um w4)) hO
  have gp : GM hm0 hp := gm_tr gz0 (gm_tr (gm_um w4) (gm_um r4))
  have op : MO hp := gm_mo gp hO
  have c2 : GC hc0 hc2 := gc_tr cP0 (gc_ud r3)
  have P2 : PRG x pg hc2 hp := gc_prg c2 hg (gm_eqt gp)
  have e62 : hI hm 62 0 = nI (q + 1) := (zI 62 0 (by omega)).symm.trans w2
  have cI : ∀ o k, 29 ≤ o → hI hc2 o k = hI hc o k := fun o k ho => by
    rw [(r3.2.2.2.2 o k).resolve_right (fun z => by
      rcases z with z | z
      · have := owc_in z; omega
      · omega), hI_ne (by omega)]
  have mI : ∀ o k, ¬ OwM 0 0 o k → ¬ (o = 49 ∧ (k = 29 ∨ k = 30 ∨ k = 31 ∨ k = 32)) → hI (cmH code hp) o k = hI hm o k := fun o k q1 q2 => by
    rw [cm_I (by omega) (fun z => q1 (by unfold OwM; omega)), um_o r4 q1, um_o w4 q1, zI o k (by omega)]
  have i8 : hI hc2 12 8 = hI hc 12 8 + 1 := by
    rw [(r3.2.2.2.2 12 8).resolve_right (by unfold OwC; omega), hI_is]
  have i5 : code = 1 → hI hc2 12 5 = 0 := fun e => by
    rw [(r3.2.2.2.2 12 5).resolve_right (fun z => by
      rcases z with z | z
      · unfold OwC at z; omega
      · exact z.2.2 e), hI_ne (by decide)]; exact h5
  obtain ⟨z1, z2, z3⟩ := cm_run P2 op r8 i5
  obtain ⟨es1, es2, es3⟩ := r7
  obtain ⟨es4, es5, es6⟩ := es2 rfl
  have es6 : hI hc2 12 9 = hI hp 49 29 := es6 rfl
  have c29 : hI (cmH code hp) 49 29 = hI hp 49 29 := cm_I (by omega) (by omega)
  refine ⟨q, hmP, hp, code, hc2, w1, e62, r_pass (d := d + 9) ((h1.2.2.2.2.2.1 hM12)) (rn_le (by omega) r1), ?_, oP, rn_le (by omega) r2, op, ⟨c2, gm_tr gp gm_cm, fun l hl o ho => ?_, nts_fr h4 (by omega) (cI 46 1 (by decide)) (fun k _ => cI 47 k (by decide)) (mI 49 42 (by unfold OwM; omega) (by omega)) (fun k _ => mI 79 k (by unfold OwM; omega) (by omega)), ⟨v2, by omega, es1, by rw [cm_I (by omega) (by omega)]; exact es4, fun k hk => by rw [cm_I (by omega) (by omega)]; exact es5 k hk⟩, ⟨z2, z3, ?_, by rw [c29]; exact es3⟩, z1⟩, es6.trans c29.symm, (end_4 r8).1, (end_4 r8).2⟩
  · have := w3 (d + 8)
    rw [show 6 * (mkG x pg 0 a0 1).m + q = q from by show 6 * 0 + q = q; omega] at this
    exact this
  · obtain ⟨k1, c, k2, k3⟩ := h3 l hl o ho
    have ho80 := (brk_cnt hBk l hl o ho).1
    refine ⟨?_, c, by omega, ?_⟩
    · rw [cI o 3 (by omega), k1, mI 77 l (by unfold OwM; omega) (by omega)]
    · rw [cI o 3 (by omega)]; exact k3
  · rw [i8, cm_I (by omega) (by omega), um_o r4 (by unfold OwM; omega), um_o w4 (by unfold OwM; omega)]
    unfold gz9
    rw [hI_is, s32]
set_option maxRecDepth 100000 in
theorem go_all (hD : DK hc0) (hM12 : MI 12 hc0) (hM29 : MI 29 hc0) (hO : MO hm0) (hg : PRG x pg hc0 hm0) (hBk : ∀ l, l < 40 → BRK (arC x.r) B2 l hc0 hm0) (hDS : DST hc0) (h37 : hI hc0 3 7 = hI hm0 49 33) : ∀ (m B : Nat) (hc hm : Hp), GS x pg hc0 hm0 B hc hm → hI hc 12 4 = 1 → B + 20000 * m < 2 ^ 31 → ∃ a hc2 hm2, GO xs L (d + 59) k b m hc a hc2 ∧ MG xs L (d + 59) k b m hm a hm2 ∧ GS x pg hc0 hm0 (B + 18002 * m) hc2 hm2 := by
  intro m
  induction m with
  | zero => exact fun B hc hm hs hw hB => ⟨0, hc, hm, ⟨rfl, rfl⟩, ⟨rfl, rfl⟩, gs_up hs (by omega)⟩
  | succ m ih =>
    intro B hc hm hs hw hB
    obtain ⟨q, hmP, hp, code, hc2, p1, p2, p3, p4, p5, p6, p7, p8, p9, p10, p11⟩ := go_pass (xs := xs) (L := L) (d := d + 49) hM12 hO hg hBk hs hw (by omega)
    have Dc := gc_dk hs.1 hD
    have D2 := gc_dk p8.1 hD
    have M12c := hs.1.2.2.2.2.2.1 hM12
    have M122 := p8.1.2.2.2.2.2.1 hM12
    have M292 := p8.1.2.2.2.2.2.2 hM29
    have Oc := gm_mo hs.2.1 hO
    have O3 := gm_mo p8.2.1 hO
    have rcm := m_cm (xs := xs) (L := L) (d := d + 58) (w := code) p7
    by_cases e1 : code = 1
    · -- it waits
      have hP2 : PRG x pg hc2 (cmH code hp) := gc_prg p8.1 hg (gm_eqt p8.2.1)
      have hW : WAI (mkG x pg 0 a0 0) hc2 (cmH code hp) := by
        rcases p8.2.2.2.2.2.2 with ⟨z1, z2, z3⟩ | ⟨z1, z2⟩
        · exact z3
        · rw [p11, e1] at z1; exact absurd z1 (by decide)
      have hB2 : ∀ l, l < 40 → BRK (arC x.r) (B + 18001) l hc2 (cmH code hp) := fun l hl => gc_brk p8.1 p8.2.1 hl (hBk l hl) (p8.2.2.1 l hl)
      have hDS2 : DST hc2 := fun l l2 o q1 q2 q3 q4 => hDS l l2 o q1 q2 ((p8.1.2.2.2.1 48 l (by omega)).symm.trans q3) ((p8.1.2.2.2.1 48 l2 (by omega)).symm.trans q4)
      obtain ⟨sp, hc4, hm4, b1, b2, b3⟩ := bs_all (xs := xs) (L := L) (d := d + 39) D2 M122 M292 O3 hP2 hB2 hDS2 p8.2.2.2.1 hW p8.2.2.2.2.2.1.2.2.2 (by omega)
      have s4 := gs_bs hg hO p8 b3
      have D4 := gc_dk s4.1 hD
      have M124 := s4.1.2.2.2.2.2.1 hM12
      have O4 := gm_mo s4.2.1 hO
      have c12 := (b3.2.2.1 12 (by decide) (by decide)).2.2.2
      have i4 : hI hc4 12 4 = 1 := (c12 4).trans (p11.trans e1)
      have i9 : hI hc4 12 9 = hI hm4 49 29 := (c12 9).trans (p9.trans (b3.2.2.2.2.1 29 (by decide) (by decide) (by decide)).symm)
      have i6 : hI hc4 12 6 = hI hm4 62 0 := by
        obtain ⟨q', w1, w2, w3, -⟩ := wai_frm hg.1.1 hW
        rw [c12 6, b3.2.2.2.1.1, w2, w3]
      have i37 : hI hc4 3 7 = hI hm4 49 33 := (s4.1.2.2.2.2.1 3 7 (by omega) (by omega)).trans (h37.trans (gm_no s4.2.1 (by unfold OwG; omega)).symm)
      have ans := d_ans (xs := xs) (L := L) (d := d + 57) (k := k) (b := b) (sp := sp) D4 M124
      have ea : anV (hI hc4 12 4) (hI hc4 3 7) (hI hc4 12 9) sp k b (hI hc4 12 6) = mgA k b sp hm4 := by
        unfold anV mgA
        rw [i4, if_neg (by decide), if_neg (by decide), i37, i9, i6]
      rw [ea] at ans
      have i30 : hI (cmH code hp) 49 30 = 1 := p8.2.2.2.2.2.1.1.trans (p11.trans e1)
      by_cases e0 : mgA k b sp hm4 = 0
      · obtain ⟨a, hc5, hm5, r1, r2, r3⟩ := ih (B + 18001 + 1) hc4 hm4 s4 i4 (by omega)
        exact ⟨a, hc5, hm5, ⟨Dc.1, Dc.2.2.2.1, M12c.1, hc2, hc4, sp, mgA k b sp hm4, p3, D2.1, b1, D4.1, ans, Or.inr ⟨e0, r1⟩⟩, ⟨Oc, q, hmP, hp, cmH code hp, code, p1, p2, p4, p5, p6, p7, rcm, O3, Or.inr ⟨i30, sp, hm4, b2, O4, Or.inr ⟨e0, r2⟩⟩⟩, gs_up r3 (by omega)⟩
      · exact ⟨mgA k b sp hm4, hc4, hm4, ⟨Dc.1, Dc.2.2.2.1, M12c.1, hc2, hc4, sp, mgA k b sp hm4, p3, D2.1, b1, D4.1, ans, Or.inl ⟨e0, rfl, rfl⟩⟩, ⟨Oc, q, hmP, hp, cmH code hp, code, p1, p2, p4, p5, p6, p7, rcm, O3, Or.inr ⟨i30, sp, hm4, b2, O4, Or.inl ⟨e0, rfl, rfl⟩⟩⟩, gs_up s4 (by omega)⟩
    · -- it has ended
      have i6 : hI hc2 12 6 = nI 0 := by
        rcases p8.2.2.2.2.2.2 with ⟨z1, z2, z3⟩ | ⟨z1, z2⟩
        · rw [p11] at z1; exact absurd z1 e1
        · exact z2
      have i30 : hI (cmH code hp) 49 30 = code := cm_30
      have ans := d_ans (xs := xs) (L := L) (d := d + 57) (k := k) (b := b) (sp := 0) D2 M122
      have ea : anV (hI hc2 12 4) (hI hc2 3 7) (hI hc2 12 9) 0 k b (hI hc2 12 6) = if hI (cmH code hp) 49 30 = 3 then 5 else 4 := by
        unfold anV
        rw [p11, i30]
        rcases p10 with e | e | e
        · exact absurd e e1
        · subst e; rw [if_neg (by decide), if_pos rfl, if_neg (by decide)]
        · subst e; rw [if_pos rfl, if_pos rfl]
      have en : ¬ (if hI (cmH code hp) 49 30 = 3 then (5 : Int32) else 4) = 0 := by
        split <;> decide
      rw [ea] at ans
      exact ⟨_, hc2, cmH code hp, ⟨Dc.1, Dc.2.2.2.1, M12c.1, hc2, hc2, 0, _, p3, D2.1, d_bs_end (d := d + 57) D2 M122 i6, D2.1, ans, Or.inl ⟨en, rfl, rfl⟩⟩, ⟨Oc, q, hmP, hp, cmH code hp, code, p1, p2, p4, p5, p6, p7, rcm, O3, Or.inl ⟨by rw [i30]; exact e1, rfl, rfl⟩⟩, gs_up p8 (by omega)⟩
set_option maxRecDepth 100000 in
theorem k_go {w : Int32} (hi : i ≤ 512) : CAL xs L (d + 60) i 60 107 [.inl k, .inl w] := fun hc hm hv => by
  have hD := hv.1.1
  have hM12 := hv.1.2.1
  have hM29 := hv.1.2.2.1
  have hO := hv.1.2.2.2.2.2.2.2
  have s30 := hv.2.2.2.2.2.1.1
  by_cases hb : k < 0 ∨ 3 < k ∨ w < 1 ∨ 50 < w ∨ ¬ hI hc 12 4 = 1
  · exact ⟨_, hc, hm, d_go_no (d := d + 59) hD hM12 hb, m_go_no (d := d + 59) hO (by rw [s30]; exact hb), inv_up hv, agm_rfl, agc_rfl⟩
  · have k0 : ¬ k < 0 := fun z => hb (Or.inl z)
    have k3 : ¬ 3 < k := fun z => hb (Or.inr (Or.inl z))
    have w1 : ¬ w < 1 := fun z => hb (Or.inr (Or.inr (Or.inl z)))
    have w50 : ¬ 50 < w := fun z => hb (Or.inr (Or.inr (Or.inr (Or.inl z))))
    have h4 : hI hc 12 4 = 1 := Decidable.byContradiction (fun z => hb (Or.inr (Or.inr (Or.inr (Or.inr z)))))
    obtain ⟨n, n1, n2⟩ := i32_nat (t := 51) (b := w) (by omega) (fun z => z.elim (fun e => w1 (Int32.lt_trans e (by decide))) (fun e => w50 (Int32.lt_of_lt_of_le (by decide) e)))
    subst n2
    have hn1 : 1 ≤ n := by
      have : ¬ n = 0 := fun e => by subst e; exact w1 (by decide)
      omega
    rcases hv.2.2.2.2.2.2 with z | ⟨x, pg, g1, g2, g3, g4⟩
    · rw [z.2.2.1] at h4; exact absurd h4 (by decide)
    · have hs : GS x pg hc hm (1000000 * i) hc hm := ⟨gc_rfl, gm_rfl, fun l hl o ho => (brk_cnt g2 l hl o ho).2.2, hv.2.2.2.1, hv.2.2.2.2.1, ⟨s30, hv.2.2.2.2.2.1.2.1, hv.2.2.2.2.2.1.2.2.1, hv.2.2.2.2.2.1.2.2.2.1⟩, g4⟩
      have hW : WAI (mkG x pg 0 a0 0) hc hm := by
        rcases g4 with ⟨z1, z2, z3⟩ | ⟨z1, z2⟩
        · exact z3
        · rw [h4] at z1; exact absurd z1 (by decide)
      obtain ⟨q', f1, f2, f3, -⟩ := wai_frm g1.1.1 hW
      obtain ⟨a, hc2, hm2, r1, r2, r3⟩ := go_all (xs := xs) (L := L) (d := d) (k := k) (b := hI hc 12 6) hD hM12 hM29 hO g1 g2 g3 hv.2.2.1.1 n (1000000 * i) hc hm hs h4 (by omega)
      obtain ⟨y1, y2, y3, y4, y5, y6, y7⟩ := gs_up (B2 := 1000000 * (i + 1)) r3 (by omega)
      obtain ⟨v1, v2, v3⟩ := g_inv hv g1 g2 g3 y1 y2 y3 y4 y5 y6 y7
      have rm := m_go (xs := xs) (L := L) (d := d + 58) hO k0 k3 hn1 (by omega) (by rw [s30]; exact h4) (by rw [f3, ← f2]; exact r2)
      exact ⟨_, hc2, hm2, d_go (d := d + 59) hD hM12 k0 k3 hn1 (by omega) h4 r1, rm, v1, v2, v3⟩
end CG1

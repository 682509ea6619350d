-- AN ASIDE RUNS: workOut against aside
section AS3
variable {xs : Nat → Int32} {L d i : Nat} {h hc hm hc1 hm1 hc2 hm2 hc3 hm3 : Hp} {x : PDt} {pg B B2 l o row c t va : Nat} {ar : Nat → Int32} {v : Int32}
theorem mi_gen {μ : Nat} (hK2 : ∀ o, hK hc2 o = hK hc o ∧ hL hc2 o = hL hc o) (hR2 : ∀ o k, ¬ (o = μ ∧ k = 3) → ¬ (k = 1 ∧ ∃ j, j < 6 ∧ o = μ + (2 + 2 * j)) → hR hc2 o k = hR hc o k) (hM : MI μ hc) : MI μ hc2 := by
  obtain ⟨m0, m1, m2, m3, m4, m5, m6, m7, m8, m9, m10, m11, mf⟩ := hM
  have hK := fun o => (hK2 o).1
  have hL := fun o => (hK2 o).2
  refine ⟨by rw [hK]; exact m0, by rw [hR2 _ _ (by omega) (by omega)]; exact m1, by rw [hR2 _ _ (by omega) (by omega)]; exact m2, by rw [hR2 _ _ (by omega) (by omega)]; exact m3, by rw [hK]; exact m4, by rw [hL]; exact m5, by rw [hK]; exact m6, by rw [hL]; exact m7, by rw [hK]; exact m8, by rw [hR2 _ _ (by omega) (by omega)]; exact m9, by rw [hK]; exact m10, by rw [hL]; exact m11, fun i hi => ?_⟩
  obtain ⟨f1, f2, f3, f4, f5⟩ := mf i hi
  exact ⟨by rw [hR2 _ _ (by omega) (by omega)]; exact f1, by rw [hK]; exact f2, by rw [hR2 _ _ (by omega) (by omega)]; exact f3, by rw [hK]; exact f4, by rw [hL]; exact f5⟩
/-- only the aside's machine changed -/
def UA (h g : Hp) : Prop := hN g = hN h ∧ hU g = hU h ∧ (∀ o, hK g o = hK h o ∧ hL g o = hL h o) ∧ (∀ o, ¬ (29 ≤ o ∧ o < 46) → Sm1 h g o) ∧ (MI 29 h → MI 29 g)
theorem ua_rfl : UA h h := ⟨rfl, rfl, fun _ => ⟨rfl, rfl⟩, fun _ _ => sm1_rfl, id⟩
theorem ua_tr (h1 : UA hc hc2) (h2 : UA hc2 hc3) : UA hc hc3 := ⟨h2.1.trans h1.1, h2.2.1.trans h1.2.1, fun o => ⟨(h2.2.2.1 o).1.trans (h1.2.2.1 o).1, (h2.2.2.1 o).2.trans (h1.2.2.1 o).2⟩, fun o ho => sm1_tr (h1.2.2.2.1 o ho) (h2.2.2.2.1 o ho), fun z => h2.2.2.2.2 (h1.2.2.2.2 z)⟩
theorem ua_uw (h : UW 29 hc hc2) : UA hc hc2 := by
  refine ⟨h.1, h.2.1, h.2.2.1, fun o ho => ⟨(h.2.2.1 o).1, (h.2.2.1 o).2, fun k => (h.2.2.2.1 o k).resolve_right (by omega), fun k => (h.2.2.2.2 o k).resolve_right (by omega)⟩, fun hM => mi_gen (hc := hc) (μ := 29) h.2.2.1 (fun o k q1 q2 => (h.2.2.2.1 o k).resolve_right q2) hM⟩
theorem wo_R {o k : Nat} (hn : ¬ (o = 29 ∧ k = 3)) (hn2 : ¬ (o = 31 ∧ k = 1)) : hR (woH 29 pg va c h) o k = hR h o k := by
  unfold woH
  rw [hR_sI, hR_sI, hR_sR, if_neg hn2, hR_sA, hR_sR, if_neg hn]
  rfl
theorem wo_I {o k : Nat} (hn : ¬ (29 ≤ o ∧ o < 46)) : hI (woH 29 pg va c h) o k = hI h o k := by
  unfold woH fgH
  rw [hI_ne (by omega), hI_ne (by omega), hI_sR, hI_sA, if_neg (by omega), hI_sR, hI_ne (by omega), hI_ne (by omega), hI_ne (by omega), hI_ne (by omega), hI_ne (by omega), hI_ne (by omega)]
theorem wo_K {o : Nat} : hK (woH 29 pg va c h) o = hK h o ∧ hL (woH 29 pg va c h) o = hL h o := by
  unfold woH fgH
  rw [hK_sI, hK_sI, hK_sR, hK_sA, hK_sR, hK_sI, hK_sI, hK_sI, hK_sI, hK_sI, hK_sI, hL_sI, hL_sI, hL_sR, hL_sA, hL_sR, hL_sI, hL_sI, hL_sI, hL_sI, hL_sI, hL_sI]
  exact ⟨rfl, rfl⟩
theorem wo_N : hN (woH 29 pg va c h) = hN h ∧ hU (woH 29 pg va c h) = hU h := by
  unfold woH fgH
  rw [hN_sI, hN_sI, hN_sR, hN_sA, hN_sR, hN_sI, hN_sI, hN_sI, hN_sI, hN_sI, hN_sI, hU_sI, hU_sI, hU_sR, hU_sA, hU_sR, hU_sI, hU_sI, hU_sI, hU_sI, hU_sI, hU_sI]
  exact ⟨rfl, rfl⟩
theorem ua_wo : UA h (woH 29 pg va c h) := ⟨wo_N.1, wo_N.2, fun _ => wo_K, fun o ho => ⟨wo_K.1, wo_K.2, fun k => wo_R (by omega) (by omega), fun k => wo_I ho⟩, fun hM => mi_gen (hc := h) (μ := 29) (fun _ => wo_K) (fun o k q1 q2 => wo_R q1 (fun z => q2 ⟨z.2, 0, by decide, z.1⟩)) hM⟩
theorem smh_mk1 (hx : PDok x) (hO : MO hm) (hH : HPD hm x) {a : ADt} {tf : Nat} (hA : ∀ j, j < 152 → hI hm 51 (a.2.2.2.2.1 + j) = a.2.1 j) : SMh (mkG x pg 1 a tf) hm := by
  obtain ⟨a1, a2, a3, a4, a5, a6, a7, a8, a9⟩ := hH
  refine ⟨hO, fun al hal => ?_, fun f hf hne => ?_, a6, a7, a8, a9⟩
  · cases al with
    | true => exact fun j hj => hA j hj
    | false => exact fun j hj => by rw [show gb (mkG x pg 1 a tf) false + j = j from Nat.zero_add j]; exact a2 j hj
  · have hne : ¬ arC x.r f = -1 := hne
    unfold arC at hne
    rw [if_pos hf] at hne
    have hb := hx.2.2.2.2.1 f hf
    have h0 : 0 < x.bd f := Nat.pos_of_ne_zero (fun z => hne (hb.2.mpr z))
    rw [mk_bd hf]
    refine ⟨a3 f hf, (a4 f hf h0).trans ?_⟩
    show aP x.r f = arC x.r f
    unfold arC
    rw [if_pos hf]
theorem as_run (hg : PRG x pg hc hm) (hM12 : MI 12 hc) (hM : MI 29 hc) (hO : MO hm) (h29 : hI hm 49 29 = 0 ∨ hI hm 49 29 = 1) (hA : ASD (arC x.r) row c hc hm) (hc80 : 80 ≤ c) (hrow : row < 42) (ht : t < 6) (hv : ∀ v, v < 6 → hI hc (12 + (3 + 2 * t)) v = hI hm 66 (6 * t + v)) : ∃ hc2 hm2 code, Rn xs L (d + 5) 10 [.inr (some 29), .inr (some pg), .inr (some (12 + (2 + 2 * t))), .inr (some c)] hc (none, hc2) ∧ Rn xs L (d + 6) 105 [.inr (some 49), .inl (nI row), .inl (nI t)] hm (some (.inl (asA code)), hm2) ∧ UA hc hc2 ∧ UM 1 0 hm hm2 ∧ (code = 1 ∨ code = 2 ∨ code = 3) ∧ hI hc2 29 4 = code ∧ (code = 2 → hI hc2 29 5 = hI hm2 49 28) := by
  have hu := ua_wo (h := hc) (pg := pg) (va := 12 + (3 + 2 * t)) (c := c)
  obtain ⟨f0, f1, f2, f3, f4⟩ := hM12.2.2.2.2.2.2.2.2.2.2.2.2 t ht
  have hp80 := hg.2.2.2.2.1
  have hPR := pro_fr (hc2 := woH 29 pg (12 + (3 + 2 * t)) c hc) hg.2.2.2.2.2.2.1 (fun o q1 q2 => hu.2.2.2.1 o (by omega))
  have hA2 := asd_fr (hc2 := woH 29 pg (12 + (3 + 2 * t)) c hc) (hm2 := hm) hA (fun o q1 q2 => hu.2.2.2.1 o (by omega)) (fun j _ => rfl)
  clear hA
  obtain ⟨TA, IA, n, z, J, a1, a2, a3, a4, a5, a6, a7, a8, a9, a10⟩ := hA2
  obtain ⟨p1, p2, p3, p4, p5, p6, p7⟩ := hPR
  have hP : PU (mkG x pg 1 (IA, TA, c, z, 152 * row, n) 0) := pu_mk hg.1 (Or.inr rfl) hp80 (fun _ => ⟨a2, hc80⟩) a3 (by show 152 * row + 152 ≤ 6384; omega)
  have hS : SCh (mkG x pg 1 (IA, TA, c, z, 152 * row, n) 0) (woH 29 pg (12 + (3 + 2 * t)) c hc) := by
    refine ⟨hu.2.2.2.2 hM, ?_, p1, fun al _ => ?_, p5, fun _ => a6, p6, fun f hf => (p7 f hf).trans ?_⟩
    · show hR (woH 29 pg (12 + (3 + 2 * t)) c hc) 29 3 = some pg
      unfold woH
      rw [hR_sI, hR_sI, hR_sR, if_neg (by decide), hR_sA, hR_sR, if_pos ⟨rfl, rfl⟩]
    · cases al with
      | true => exact ⟨a4, a5⟩
      | false => exact ⟨p2, p4⟩
    · show _ = arC x.r f
      unfold arC
      rw [if_pos hf]
  have hSM : SMh (mkG x pg 1 (IA, TA, c, z, 152 * row, n) 0) hm := smh_mk1 hg.1 hO hg.2.2.1 a1
  have z1 : hI (sI (woH 29 pg (12 + (3 + 2 * t)) c hc) 29 9 0) 44 1 = nI 0 := by
    unfold woH fgH
    rw [hI_ne (by decide), hI_ne (by decide), hI_ne (by decide), hI_sR, hI_sA, if_neg (by decide), hI_sR, hI_is]
    rfl
  have z2 : hI (woH 29 pg (12 + (3 + 2 * t)) c hc) 29 6 = nI 1 := by
    unfold woH
    rw [hI_is]
    rfl
  have z3 : hI (woH 29 pg (12 + (3 + 2 * t)) c hc) 29 7 = nI 0 := by
    unfold woH fgH
    rw [hI_ne (by decide), hI_ne (by decide), hI_sR, hI_sA, if_neg (by decide), hI_sR, hI_ne (by decide), hI_ne (by decide), hI_is]
    rfl
  have z4 : hR (woH 29 pg (12 + (3 + 2 * t)) c hc) 31 1 = some c := by
    unfold woH
    rw [hR_sI, hR_sI, hR_sR, if_pos ⟨rfl, rfl⟩]
  have z5 : hI (woH 29 pg (12 + (3 + 2 * t)) c hc) 31 2 = nI 0 := by
    unfold woH
    rw [hI_ne (by decide), hI_is]
    rfl
  have z6 : ∀ v, v < 6 → hI (woH 29 pg (12 + (3 + 2 * t)) c hc) 32 v = hI hm 66 (6 * t + v) := fun v hv' => by
    rw [← hv v hv']
    unfold woH
    rw [hI_ne (by omega), hI_ne (by omega), hI_sR, hI_sA, if_pos rfl]
    unfold va_cpy
    rw [if_pos (by omega), show 0 + (v - 0) = v by omega]
  obtain ⟨hc1, hc2, hm2, code, r1, r2, r3, r4, r5, r6⟩ := a_all (xs := xs) (L := L) (d := d) (u := 0) (row := row) (t := t) (hw := woH 29 pg (12 + (3 + 2 * t)) c hc) hP rfl ⟨J, a7, a8, a9, a10⟩ hS hSM ⟨z1, fun e => absurd (show (1 : Nat) = 0 from e) (by decide), h29⟩ (by decide) z2 z3 z4 z5 hrow ht rfl z6
  refine ⟨hc2, hm2, code, r_workOut (d := d + 2) hM f1 f2 f3 f4 (by omega) (by omega) (by omega) (by omega) r1 r2, r3, ua_tr hu (ua_uw r4), r5, (end_4 r6).1, (end_4 r6).2, fun e => ?_⟩
  rcases r6 with ⟨q, -⟩ | ⟨-, q⟩ | ⟨q, -⟩
  · rw [e] at q; exact absurd q (by decide)
  · exact q.2.2
  · rw [e] at q; exact absurd q (by decide)
/-- what evaluating may change in the model -/
def OwE (o k : Nat) : Prop := (o = 49 ∧ (k = 0 ∨ k = 27 ∨ k = 28 ∨ k = 34)) ∨ (o = 51 ∧ 6232 ≤ k) ∨ o = 60 ∨ o = 61 ∨ (o = 62 ∧ k = 1) ∨ ((o = 63 ∨ o = 64 ∨ o = 65 ∨ o = 67) ∧ 6 ≤ k) ∨ ((o = 66 ∨ o = 68 ∨ o = 69 ∨ o = 70 ∨ o = 71) ∧ 36 ≤ k) ∨ (o = 72 ∧ 108 ≤ k)
def FM (h g : Hp) : Prop := hN g = hN h ∧ hU g = hU h ∧ (∀ o, hK g o = hK h o ∧ hL g o = hL h o ∧ ∀ k, hR g o k = hR h o k) ∧ ∀ o k, hI g o k = hI h o k ∨ OwE o k
theorem fm_rfl : FM h h := ⟨rfl, rfl, fun _ => ⟨rfl, rfl, fun _ => rfl⟩, fun _ _ => Or.inl rfl⟩
theorem fm_tr (h1 : FM hm hm2) (h2 : FM hm2 hm3) : FM hm hm3 := ⟨h2.1.trans h1.1, h2.2.1.trans h1.2.1, fun o => ⟨(h2.2.2.1 o).1.trans (h1.2.2.1 o).1, (h2.2.2.1 o).2.1.trans (h1.2.2.1 o).2.1, fun k => ((h2.2.2.1 o).2.2 k).trans ((h1.2.2.1 o).2.2 k)⟩, fun o k => by
  rcases h2.2.2.2 o k with e | e
  · rw [e]; exact h1.2.2.2 o k
  · exact Or.inr e⟩
theorem fm_sI {o k : Nat} {w : Int32} (ho : OwE o k) : FM hm (sI hm o k w) := ⟨rfl, rfl, fun _ => ⟨rfl, rfl, fun _ => rfl⟩, fun a b => by
  by_cases e : a = o ∧ b = k
  · rw [e.1, e.2]; exact Or.inr ho
  · exact Or.inl (hI_ne e)⟩
theorem fm_um (h : UM 1 0 hm hm2) : FM hm hm2 := ⟨h.1, h.2.1, fun o => ⟨(h.2.2.1 o).1, (h.2.2.1 o).2, h.2.2.2.1 o⟩, fun o k => (h.2.2.2.2 o k).imp id (fun z => by unfold OwM at z; unfold OwE; omega)⟩
theorem fm_rw (h : RwM hm hm2) : FM hm hm2 := ⟨h.1, h.2.1, h.2.2.1, fun o k => by
  by_cases c : OwE o k
  · exact Or.inr c
  · unfold OwE at c
    exact Or.inl (h.2.2.2.1 o k (by omega) (by omega) (by omega) (by omega))⟩
theorem fm_no (h : FM hm hm2) {o k : Nat} (ho : ¬ OwE o k) : hI hm2 o k = hI hm o k := (h.2.2.2 o k).resolve_right ho
theorem fm_eqt (h : FM hm hm2) : EqT hm hm2 := ⟨fun k hk => fm_no h (by unfold OwE; omega), fun j hj => fm_no h (by unfold OwE; omega), fun o k q1 q2 => fm_no h (by unfold OwE; omega)⟩
theorem fm_eqm (h : FM hm hm2) : EqM hm hm2 := ⟨fm_no h (by unfold OwE; omega), fun o k q1 q2 => fm_no h (by unfold OwE; omega), fun o k q1 q2 => fm_no h (by unfold OwE; omega), fun k q => fm_no h (by unfold OwE; omega)⟩
theorem fm_eqb (h : FM hm hm2) : EqB hm hm2 := ⟨fun o l q1 q2 => fm_no h (by unfold OwE; omega), fun j q1 q2 => fm_no h (by unfold OwE; omega)⟩
theorem fm_mo (h : FM hm hm2) (hO : MO hm) : MO hm2 := mo_ag (fun o _ _ => h.2.2.1 o) hO
theorem fm_agc (h : FM hm hm2) : AgC hm hm2 := ⟨h.1, h.2.1, fun o ho => ⟨(h.2.2.1 o).1, (h.2.2.1 o).2.1, (h.2.2.1 o).2.2, fun k => fm_no h (by unfold OwE; omega)⟩⟩
/-- what evaluating may change in the class -/
def FC (h g : Hp) : Prop := hN h ≤ hN g ∧ hN g ≤ hN h + 3 ∧ hU g ≤ hU h + 305 ∧ (∀ o, o < hN h → hK g o = hK h o ∧ hL g o = hL h o) ∧ (∀ o, o < hN h → ¬ o = 3 → ¬ o = 4 → ¬ (6 ≤ o ∧ o < 12) → ¬ (29 ≤ o ∧ o < 46) → Sm1 h g o) ∧ (∀ k, hR g 3 k = hR h 3 k) ∧ hR g 4 0 = hR h 4 0 ∧ hI g 3 7 = hI h 3 7 ∧ TSh g ∧ MI 29 g
theorem fc_0 (hT : TSh hc) (hM : MI 29 hc) : FC hc (sI hc 4 1 0) := ⟨Nat.le_refl _, Nat.le_add_right _ _, Nat.le_add_right _ _, fun _ _ => ⟨rfl, rfl⟩, fun o _ _ q _ _ => sm1_sI q, fun _ => rfl, rfl, hI_ne (by decide), hT, hM⟩
theorem fc_ra (hN80 : 80 ≤ hN hc) (hM : MI 29 hc) (h : RaC hc hc1) : FC hc (sI hc1 4 1 0) := ⟨h.2.2.2.1, h.2.2.2.2.1, h.2.2.2.2.2, h.2.1, fun o q1 q2 q3 q4 q5 => sm1_tr (h.1 o q1 q4) (sm1_sI q3), fun k => (h.1 3 (by omega) (by decide)).2.2.1 k, (h.1 4 (by omega) (by decide)).2.2.1 0, (hI_ne (by decide)).trans ((h.1 3 (by omega) (by decide)).2.2.2 7), h.2.2.1, mi_same (h := hc) (fun o q1 q2 => ⟨(h.1 o (by omega) (by omega)).1, (h.1 o (by omega) (by omega)).2.1, (h.1 o (by omega) (by omega)).2.2.1⟩) hM⟩
theorem fc_ua (hN80 : 80 ≤ hN hc) (h1 : FC hc hc1) (h2 : UA hc1 hc2) : FC hc hc2 := by
  obtain ⟨a1, a2, a3, a4, a5, a6, a7, a8, a9, a10⟩ := h1
  obtain ⟨b1, b2, b3, b4, b5⟩ := h2
  exact ⟨by omega, by omega, by omega, fun o ho => ⟨(b3 o).1.trans (a4 o ho).1, (b3 o).2.trans (a4 o ho).2⟩, fun o q1 q2 q3 q4 q5 => sm1_tr (a5 o q1 q2 q3 q4 q5) (b4 o q5), fun k => ((b4 3 (by decide)).2.2.1 k).trans (a6 k), ((b4 4 (by decide)).2.2.1 0).trans a7, ((b4 3 (by decide)).2.2.2 7).trans a8, kp_tsh (h := hc1) (N := 12) (by decide) (fun o q1 q2 => ⟨(b4 o (by omega)).1, (b4 o (by omega)).2.1, (b4 o (by omega)).2.2.1⟩) a9, b5 a10⟩
theorem fc_8 (h1 : FC hc hc1) : FC hc (sI hc1 3 8 v) := by
  obtain ⟨a1, a2, a3, a4, a5, a6, a7, a8, a9, a10⟩ := h1
  exact ⟨a1, a2, a3, a4, fun o q1 q2 q3 q4 q5 => sm1_tr (a5 o q1 q2 q3 q4 q5) (sm1_sI q2), a6, a7, (hI_ne (by decide)).trans a8, a9, a10⟩
theorem fc_dk (hN80 : 80 ≤ hN hc) (h : FC hc hc2) (hD : DK hc) : DK hc2 := by
  obtain ⟨a1, a2, a3, a4, a5, a6, a7, a8, a9, a10⟩ := h
  exact dk_ag (fun o ho => a4 o (by omega)) (fun k _ => a6 k) a7 ((a5 46 (by omega) (by decide) (by decide) (by decide) (by decide)).2.2.1 0) hD
theorem fc_old (h : FC hc hc2) : Old hc hc2 := ⟨h.1, fun o q1 q2 => h.2.2.2.2.1 o q2 (by omega) (by omega) (by omega) (by omega)⟩
theorem fc_12 (hN80 : 80 ≤ hN hc) (h : FC hc hc2) : ∀ o, 12 ≤ o → o < 29 → Sm1 hc hc2 o := fun o q1 q2 => h.2.2.2.2.1 o (by omega) (by omega) (by omega) (by omega) (by omega)
theorem fc_mi (hN80 : 80 ≤ hN hc) (h : FC hc hc2) (hM : MI 12 hc) : MI 12 hc2 := mi_same (h := hc) (fun o q1 q2 => ⟨(fc_12 hN80 h o q1 q2).1, (fc_12 hN80 h o q1 q2).2.1, (fc_12 hN80 h o q1 q2).2.2.1⟩) hM
set_option maxRecDepth 4000 in
theorem nat_b {a b i : Nat} (h1 : a ≤ b + 305) (h2 : b ≤ 20000 + 1000 * i) : a ≤ 20000 + 1000 * (i + 1) := by omega
/-- the invariant after an evaluation -/
theorem ev_inv (hv : INV i hc hm) (hC : FC hc hc2) (hM : FM hm hm2) (h41 : hI hc2 4 1 = 0) (h490 : hI hm2 49 0 = 0) (h38 : hI hc2 3 8 = hI hm2 49 34) : INV (i + 1) hc2 hm2 ∧ AgM hc hc2 ∧ AgC hm hm2 := by
  have hN0 := hv.1.2.2.2.2.1
  obtain ⟨⟨a1, a2, a3, a4, a5, a6, a7, a8⟩, h2, ⟨w1, w2, w3⟩, h4, h5, h6, h7⟩ := hv
  have h12 := fc_12 hN0 hC
  have S : ∀ o, o < hN hc → ¬ o = 3 → ¬ o = 4 → ¬ (6 ≤ o ∧ o < 12) → ¬ (29 ≤ o ∧ o < 46) → Sm1 hc hc2 o := hC.2.2.2.2.1
  have hR3 := hC.2.2.2.2.2.1
  have u1 := hC.1
  have u2 := hC.2.1
  have u3 := hC.2.2.1
  have v1 : 80 ≤ hN hc2 := by omega
  have v2 : hN hc2 ≤ 80 + 10 * (i + 1) := by omega
  have v3 : hU hc2 ≤ 20000 + 1000 * (i + 1) := nat_b u3 a7
  refine ⟨⟨⟨fc_dk hN0 hC a1, fc_mi hN0 hC a2, hC.2.2.2.2.2.2.2.2.2, hC.2.2.2.2.2.2.2.2.1, v1, v2, v3, fm_mo hM a8⟩, ⟨0, by decide, h41, h490, fun j hj => absurd hj (by omega)⟩, ⟨?_, ?_, h38⟩, ?_, ?_, stt_fr h6 h12 (fun k hk => fm_no hM (by unfold OwE; omega)) (fm_eqt hM), ?_⟩, fun o q1 q2 => S o (by omega) (by omega) (by omega) (by omega) (by omega), fm_agc hM⟩
  · rw [hC.2.2.2.2.2.2.2.1, fm_no hM (by unfold OwE; omega)]; exact w1
  · rw [hC.2.2.2.2.2.2.2.1]; exact w2
  · exact nts_fr h4 (by omega) ((S 46 (by omega) (by decide) (by decide) (by decide) (by decide)).2.2.2 1) (fun k _ => (S 47 (by omega) (by decide) (by decide) (by decide) (by decide)).2.2.2 k) (fm_no hM (by unfold OwE; omega)) (fun k _ => fm_no hM (by unfold OwE; omega))
  · exact out_fr h5 (by omega) h12 (fm_no hM (by unfold OwE; omega)) (fun k _ => fm_no hM (by unfold OwE; omega))
  · have h48 := (S 48 (by omega) (by decide) (by decide) (by decide) (by decide)).2.2.1
    exact h7.imp (fun z => nop_fr (hc := hc) (hm := hm) z (hR3 6) h48 h12 (fm_no hM (by unfold OwE; omega))) (fun z => ldd_fr (hc := hc) (hm := hm) z (by omega) (fm_mo hM a8) (fc_old hC) (hR3 6) h48 h12 (fm_eqt hM) (fm_eqm hM) (fm_eqb hM))
theorem k_evaluate {b : Int32} : CAL xs L (d + 60) i 67 123 [.inl b] := fun hc hm hv => by
  have hN0 := hv.1.2.2.2.2.1
  have hO := hv.1.2.2.2.2.2.2.2
  have hD := hv.1.1
  have hM := hv.1.2.1
  have hM29 := hv.1.2.2.1
  have hT := hv.1.2.2.2.1
  have h38 := hv.2.2.1.2.2
  have h29 := hv.2.2.2.2.2.1.2.2.2.1
  rcases inv_b hv b with ⟨t, h1, h2, h3, h4⟩ | ⟨x, pg, t, k, h1, h2, h3, h4, h5, h6, h7, h8, h9, h10, f1, f2, p, f3, f4, f5⟩
  · have r1 := d_ev_no (xs := xs) (L := L) (d := d + 58) hD hM h1 h3
    have rf := m_frame_no (xs := xs) (L := L) (d := d + 58) hO h4
    have key : ∃ good hm1, ((hI hm 49 4 = 0 ∧ good = false ∧ hm1 = hm) ∨ (hI hm 49 4 = 1 ∧ Rn xs L (d + 59) 109 [.inr (some 49), .inl (nI 41)] hm (some (.inl (bI good)), hm1))) ∧ FM hm hm1 ∧ hI hm1 49 34 = hI hm 49 34 := by
      rcases hv.2.2.2.2.2.2 with z | ⟨x, pg, g1, -⟩
      · exact ⟨false, hm, Or.inl ⟨z.2.1, rfl, rfl⟩, fm_rfl, rfl⟩
      · obtain ⟨c, hc1, hm1, good, q1, q2, q3, q4, -⟩ := as_read (xs := xs) (L := L) hv g1
        exact ⟨good, hm1, Or.inr ⟨g1.2.2.2.2.2.2.2, rn_le (by omega) (q2 d)⟩, fm_rw q4, q4.2.2.2.1 49 34 (by omega) (by omega) (by omega) (by omega)⟩
    obtain ⟨good, hm1, q1, q2, q3⟩ := key
    have r2 := m_ev_pre (xs := xs) (L := L) (d := d + 55) (res := (some (.inl (-1)), sI hm1 49 0 0)) hO rf q1 (fm_mo q2 hO) (fun _ => rfl) (fun z => absurd (show (-1 : Int32) < 0 by decide) z)
    obtain ⟨e1, e2, e3⟩ := ev_inv hv (fc_0 hT hM29) (fm_tr q2 (fm_sI (o := 49) (k := 0) (w := 0) (by unfold OwE; omega))) hI_is hI_is (by rw [hI_ne (by decide), hI_ne (by decide), q3]; exact h38)
    exact ⟨_, _, _, r1, r2, e1, e2, e3⟩
  · subst h8
    have rf := m_frame (xs := xs) (L := L) (d := d + 58) hO h5 h10 h6 h7
    have h36 : hR hc 3 6 = some pg := h1.2.2.2.1
    have h494 := h1.2.2.2.2.2.2.2
    obtain ⟨c, hc1, hm1, good, q1, q2, q3, q4, q5⟩ := as_read (xs := xs) (L := L) hv h1
    have fm1 : FM hm (sI hm1 49 0 0) := fm_tr (fm_rw q4) (fm_sI (by unfold OwE; omega))
    have fc1 : FC hc (sI hc1 4 1 0) := fc_ra hN0 hM29 q3
    have hD1 : DK hc1 := dk_ag (hc := hc) (fun o ho => q3.2.1 o (by omega)) (fun k _ => (q3.1 3 (by omega) (by decide)).2.2.1 k) ((q3.1 4 (by omega) (by decide)).2.2.1 0) ((q3.1 46 (by omega) (by decide)).2.2.1 0) hD
    have hO1 : MO hm1 := fm_mo (fm_rw q4) hO
    have hneg : ¬ nI (t - 1 - k) < 0 := Int32.not_lt.mpr (nI_le (a := 0) (Nat.zero_le _) (by omega))
    have i38 : hI (sI hc1 4 1 0) 3 8 = hI (sI hm1 49 0 0) 49 34 := by
      rw [hI_ne (by decide), hI_ne (by decide), (q3.1 3 (by omega) (by decide)).2.2.2 8, q4.2.2.2.1 49 34 (by omega) (by omega) (by omega) (by omega)]; exact h38
    rcases q5 with ⟨rfl, rfl⟩ | ⟨rfl, rfl, q6, q7⟩
    · have r1 := d_ev_bad (xs := xs) (L := L) (d := d + 58) hD hM hT.1.1 h9 h6 h7 (by rw [h36]; exact rn_le (by omega) (q1 d)) hD1
      have r2 := m_ev_pre (xs := xs) (L := L) (d := d + 55) (res := (some (.inl (-1)), sI hm1 49 0 0)) hO rf (Or.inr ⟨h494, rn_le (by omega) (q2 d)⟩) hO1 (fun _ => rfl) (fun _ z => absurd z (by decide))
      obtain ⟨e1, e2, e3⟩ := ev_inv hv fc1 fm1 hI_is hI_is i38
      exact ⟨_, _, _, r1, r2, e1, e2, e3⟩
    · have hgP : PRG x pg (sI hc1 4 1 0) (sI hm1 49 0 0) := prg_fr h1 (fc_old fc1) (fc1.2.2.2.2.2.1 6) (fm_eqt fm1)
      have hA : ASD (arC x.r) 41 (hN hc) (sI hc1 4 1 0) (sI hm1 49 0 0) := asd_fr q7 (fun o z1 z2 => sm1_sI (by omega)) (fun j hj => hI_ne (by omega))
      obtain ⟨hc2, hm2, code, s1, s2, s3, s4, s5, s6, s7⟩ := as_run (xs := xs) (L := L) (d := d + 50) (row := 41) (c := hN hc) (t := t - 1 - k) hgP (fc_mi hN0 fc1 hM) fc1.2.2.2.2.2.2.2.2.2 (fm_mo fm1 hO) (by rw [fm_no fm1 (by unfold OwE; omega)]; exact h29) hA hN0 (by decide) (by omega) (fun v hv' => by
        rw [(fc_12 hN0 fc1 (12 + (3 + 2 * (t - 1 - k))) (by omega) (by omega)).2.2.2 v, f1 v hv', fm_no fm1 (by unfold OwE; omega)])
      have fc2 := fc_ua hN0 fc1 s3
      have fm2 := fm_tr fm1 (fm_um s4)
      have r1 := d_ev (xs := xs) (L := L) (d := d + 58) hD hM hT.1.1 h9 h6 h7 (by rw [h36]; exact rn_le (by omega) (q1 d)) hD1 (fc1.2.2.2.2.2.1 6 |>.trans h36) (fc1.2.2.2.2.2.2.2.2.2).1 (rn_le (by omega) s1) (fc_dk hN0 fc2 hD) (fc2.2.2.2.2.2.2.2.2.2).1
      have r2 := m_ev (xs := xs) (L := L) (d := d + 55) hO rf h494 (rn_le (by omega) (q2 d)) hO1 hneg (rn_le (by omega) s2) (fm_mo fm2 hO)
      have i41 : hI hc2 4 1 = 0 := ((s3.2.2.2.1 4 (by decide)).2.2.2 1).trans hI_is
      have i490 : hI hm2 49 0 = 0 := (um_o s4 (by unfold OwM; omega)).trans hI_is
      have j38 : hI hc2 3 8 = hI hm2 49 34 := ((s3.2.2.2.1 3 (by decide)).2.2.2 8).trans (i38.trans (um_o s4 (by unfold OwM; omega)).symm)
      rw [s6] at r1
      rcases s5 with e | e | e
      · subst e
        rw [if_neg (by decide), if_neg (by decide)] at r1
        rw [show asA 1 = -3 from by decide, if_neg (by decide)] at r2
        obtain ⟨e1, e2, e3⟩ := ev_inv hv fc2 fm2 i41 i490 j38
        exact ⟨_, _, _, r1, r2, e1, e2, e3⟩
      · subst e
        rw [if_pos rfl] at r1
        rw [show asA 2 = 0 from by decide, if_pos rfl] at r2
        obtain ⟨e1, e2, e3⟩ := ev_inv hv (fc_8 (v := hI hc2 29 5) fc2) (fm_tr fm2 (fm_sI (o := 49) (k := 34) (w := hI hm2 49 28) (by unfold OwE; omega))) ((hI_ne (by decide)).trans i41) ((hI_ne (by decide)).trans i490) (by rw [hI_is, hI_is]; exact s7 rfl)
        exact ⟨_, _, _, r1, r2, e1, e2, e3⟩
      · subst e
        rw [if_neg (by decide), if_pos rfl] at r1
        rw [show asA 3 = -2 from by decide, if_neg (by decide)] at r2
        obtain ⟨e1, e2, e3⟩ := ev_inv hv fc2 fm2 i41 i490 j38
        exact ⟨_, _, _, r1, r2, e1, e2, e3⟩
end AS3

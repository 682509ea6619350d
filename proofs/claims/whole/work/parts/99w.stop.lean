-- THE CALL stop
section CS1
variable {xs : Nat → Int32} {L d i : Nat} {h hc hm hc1 hm1 hc2 hm2 hc3 hm3 : Hp} {x y : PDt} {pg pg2 B B2 l o row c t va : Nat} {ar : Nat → Int32} {v : Int32}
theorem arC_eq (h1 : PRG x pg hc hm) (h2 : PRG y pg2 hc hm) : arC x.r = arC y.r := by
  have e := h1.2.2.2.1.symm.trans h2.2.2.2.1
  injection e with e
  subst e
  funext f
  unfold arC
  by_cases hf : f < 4
  · rw [if_pos hf, if_pos hf, ← h1.2.2.2.2.2.2.1.2.2.2.2.2.2 f hf, h2.2.2.2.2.2.2.1.2.2.2.2.2.2 f hf]
  · rw [if_neg hf, if_neg hf]
theorem asd_mv {r2 : Nat} (h : ASD ar row c hc hm) (hC : ∀ o, c ≤ o → o < c + 3 → Sm1 hc hc2 o) (hM : ∀ j, j < 152 → hI hm2 51 (152 * r2 + j) = hI hm 51 (152 * row + j)) : ASD ar r2 c hc2 hm2 := by
  obtain ⟨TA, IA, n, z, J, a1, a2, a3, ⟨q1, q2, q3, q4, q5, q6, q7, q8, q9⟩, a5, a6, a7⟩ := h
  have c0 := hC c (by omega) (by omega)
  have c1 := hC (c + 1) (by omega) (by omega)
  have c2 := hC (c + 2) (by omega) (by omega)
  exact ⟨TA, IA, n, z, J, fun j hj => (hM j hj).trans (a1 j hj), a2, a3, ⟨c0.1.trans q1, (c0.2.2.1 0).trans q2, (c0.2.2.1 1).trans q3, (c0.2.2.2 2).trans q4, c1.1.trans q5, c1.2.1.trans q6, c2.1.trans q7, c2.2.1.trans q8, q9⟩, fun k hk => (c1.2.2.2 k).trans (a5 k hk), fun k hk => (c2.2.2.2 k).trans (a6 k hk), a7⟩
theorem st_read (hv : INV i hc hm) : ∃ (n : Nat) (c : Option Nat) (hc1 hm1 : Hp) (good : Bool), n ≤ 150 ∧ hI hm 49 0 = nI n ∧ (∀ (ln ig lg : Int32) (res : Res), X xs L (d + 59) 56 (50, [some (.inr (some 3)), some (.inl ln), some (.inl ig), some (.inl lg), some (.inl (bI (decide (n = 0)))), some (.inr c)], [], hc1) res → Rn xs L (d + 60) 56 [.inr (some 3), .inl ln, .inl ig, .inl lg] hc res) ∧ ((hI hm 49 4 = 0 ∧ good = false ∧ hm1 = hm) ∨ (hI hm 49 4 = 1 ∧ Rn xs L (d + 59) 109 [.inr (some 49), .inl (nI 41)] hm (some (.inl (bI good)), hm1))) ∧ FC hc hc1 ∧ FM hm hm1 ∧ hI hc1 4 1 = 0 ∧ hI hc1 3 8 = hI hc 3 8 ∧ hI hm1 49 34 = hI hm 49 34 ∧ (hI hm 49 4 = 1 → ∀ j, j < 152 → 32 ≤ hI hm1 51 (6232 + j) ∧ hI hm1 51 (6232 + j) ≤ 126) ∧ ((n = 0 ∧ c = none) ∨ (¬ n = 0 ∧ c = none ∧ good = false) ∨ (¬ n = 0 ∧ good = true ∧ c = some (hN hc) ∧ hN hc1 = hN hc + 3 ∧ ∀ y pg2, PRG y pg2 hc1 (sI hm1 49 0 0) → ASD (arC y.r) 41 (hN hc) hc1 (sI hm1 49 0 0))) := by
  have hN0 := hv.1.2.2.2.2.1
  have hO := hv.1.2.2.2.2.2.2.2
  have hD := hv.1.1
  have hM29 := hv.1.2.2.1
  have hT := hv.1.2.2.2.1
  obtain ⟨n, t1, t2, t3, -⟩ := hv.2.1
  rcases hv.2.2.2.2.2.2 with z | ⟨x, pg, g1, -⟩
  · by_cases hn : n = 0
    · subst hn
      exact ⟨0, none, sI hc 4 1 0, hm, false, by decide, t3, fun ln ig lg res hX => d_stop_bare (d := d + 58) hD t2 hX, Or.inl ⟨z.2.1, rfl, rfl⟩, fc_0 hT hM29, fm_rfl, hI_is, hI_ne (by decide), rfl, fun e => absurd (z.2.1.symm.trans e) (by decide), Or.inl ⟨rfl, rfl⟩⟩
    · obtain ⟨m, rfl⟩ : ∃ m, n = m + 1 := ⟨n - 1, by omega⟩
      refine ⟨m + 1, none, sI hc 4 1 0, hm, false, t1, t3, fun ln ig lg res hX => d_stop_cond (d := d + 58) hD hT.1.1 t2 (by omega) (by rw [z.1]; exact t_ra_no (d := d + 58)) hD (by rw [decide_eq_false hn] at hX; exact hX), Or.inl ⟨z.2.1, rfl, rfl⟩, fc_0 hT hM29, fm_rfl, hI_is, hI_ne (by decide), rfl, fun e => absurd (z.2.1.symm.trans e) (by decide), Or.inr (Or.inl ⟨hn, rfl, rfl⟩)⟩
  · have h36 : hR hc 3 6 = some pg := g1.2.2.2.1
    have h494 := g1.2.2.2.2.2.2.2
    obtain ⟨c, hc1, hm1, good, q1, q2, q3, q4, q5⟩ := as_read (xs := xs) (L := L) hv g1
    by_cases hn : n = 0
    · subst hn
      exact ⟨0, none, sI hc 4 1 0, hm1, good, by decide, t3, fun ln ig lg res hX => d_stop_bare (d := d + 58) hD t2 hX, Or.inr ⟨h494, rn_le (by omega) (q2 d)⟩, fc_0 hT hM29, fm_rw q4, hI_is, hI_ne (by decide), q4.2.2.2.1 49 34 (by omega) (by omega) (by omega) (by omega), fun _ => q4.2.2.2.2.2, Or.inl ⟨rfl, rfl⟩⟩
    · obtain ⟨m, rfl⟩ : ∃ m, n = m + 1 := ⟨n - 1, by omega⟩
      have hD1 : DK hc1 := dk_ag (hc := hc) (fun o ho => q3.2.1 o (by omega)) (fun k _ => (q3.1 3 (by omega) (by decide)).2.2.1 k) ((q3.1 4 (by omega) (by decide)).2.2.1 0) ((q3.1 46 (by omega) (by decide)).2.2.1 0) hD
      have fc1 : FC hc (sI hc1 4 1 0) := fc_ra hN0 hM29 q3
      have fm1 : FM hm (sI hm1 49 0 0) := fm_tr (fm_rw q4) (fm_sI (by unfold OwE; omega))
      refine ⟨m + 1, c, sI hc1 4 1 0, hm1, good, t1, t3, fun ln ig lg res hX => d_stop_cond (d := d + 58) hD hT.1.1 t2 (by omega) (by rw [h36]; exact rn_le (by omega) (q1 d)) hD1 (by rw [decide_eq_false hn] at hX; exact hX), Or.inr ⟨h494, rn_le (by omega) (q2 d)⟩, fc1, fm_rw q4, hI_is, (hI_ne (by decide)).trans ((q3.1 3 (by omega) (by decide)).2.2.2 8), q4.2.2.2.1 49 34 (by omega) (by omega) (by omega) (by omega), fun _ => q4.2.2.2.2.2, Or.inr ?_⟩
      rcases q5 with ⟨e1, e2⟩ | ⟨e1, e2, e3, e4⟩
      · exact Or.inl ⟨hn, e1, e2⟩
      · refine Or.inr ⟨hn, e1, e2, e3, fun y pg2 hy => ?_⟩
        rw [← arC_eq (prg_fr g1 (fc_old fc1) (fc1.2.2.2.2.2.1 6) (fm_eqt fm1)) hy]
        exact asd_fr e4 (fun o z1 z2 => sm1_sI (by omega)) (fun j hj => hI_ne (by omega))
theorem sm1_nw {a b s : Nat} (ho : o < hN h) : Sm1 h (nw h a b s) o := ⟨by rw [hK_nw, if_neg (by omega)], by rw [hL_nw, if_neg (by omega)], fun k => by rw [hR_nw, if_neg (by omega)], fun k => by rw [hI_nw, if_neg (by omega)]⟩
theorem sm_bk {c : Option Nat} {ig lg : Int32} (ho : o < hN h) (h48 : ¬ o = 48) : Sm1 h (bkN l c ig lg h) o := by
  unfold bkN
  refine sm1_tr (sm1_nw (a := 0) (b := 0) (s := 4) ho) (sm1_tr (sm1_sR (by omega)) (sm1_tr (sm1_sI (by omega)) (sm1_tr (sm1_sI (by omega)) (sm1_sR h48))))
theorem stp_I {o k : Nat} {cond lg ig : Int32} (h1 : ¬ ((o = 73 ∨ o = 74 ∨ o = 75 ∨ o = 76 ∨ o = 77) ∧ k = l)) (h2 : ¬ (o = 51 ∧ 152 * (1 + l) ≤ k ∧ k < 152 * (1 + l) + 152)) : hI (stpH l cond lg ig h) o k = hI h o k := by
  unfold stpH
  by_cases e : o = 51
  · subst e
    rw [hI_sA, if_pos rfl, if_neg (by omega)]
  · rw [hI_sA, if_neg e, hI_ne (by omega), hI_ne (by omega), hI_ne (by omega), hI_ne (by omega), hI_ne (by omega)]
theorem stp_inv {c : Option Nat} {ig lg : Int32} {n : Nat} (hv : INV i hc hm) (hN1 : hN hc + 1 ≤ 80 + 10 * i) (hU1 : hU hc + 4 ≤ 20000 + 1000 * i) (hg : PRG x pg hc hm) (hB : ∀ l, l < 40 → BRK (arC x.r) B l hc hm) (hBi : B ≤ 1000000 * i) (hDS : DST hc) (hRn : RUN x pg hc hm) (hl : l < 40) (hcn : (n = 0 ∧ c = none) ∨ (¬ n = 0 ∧ ∃ c0, c = some c0 ∧ 80 ≤ c0 ∧ c0 + 2 < hN hc ∧ ASD (arC x.r) 41 c0 hc hm)) : INV i (bkN l c ig lg hc) (stpH l (if n = 0 then 0 else 1) lg ig hm) ∧ AgM hc (bkN l c ig lg hc) ∧ AgC hm (stpH l (if n = 0 then 0 else 1) lg ig hm) := by
  have hN0 := hv.1.2.2.2.2.1
  obtain ⟨⟨a1, a2, a3, a4, a5, a6, a7, a8⟩, ⟨tn, t1, t2, t3, t4⟩, ⟨w1, w2, w3⟩, h4, h5, h6, h7⟩ := hv
  generalize hcd : (if n = 0 then (0 : Int32) else 1) = cond
  have C : ∀ o, o < hN hc → ¬ o = 48 → Sm1 hc (bkN l c ig lg hc) o := fun o q1 q2 => sm_bk q1 q2
  have CK : ∀ o, o < hN hc → hK (bkN l c ig lg hc) o = hK hc o ∧ hL (bkN l c ig lg hc) o = hL hc o := fun o q1 => by
    show hK (nw hc 0 0 4) o = _ ∧ hL (nw hc 0 0 4) o = _
    rw [hK_nw, hL_nw, if_neg (by omega), if_neg (by omega)]
    exact ⟨rfl, rfl⟩
  have M : ∀ o k, ¬ ((o = 73 ∨ o = 74 ∨ o = 75 ∨ o = 76 ∨ o = 77) ∧ k = l) → ¬ (o = 51 ∧ 152 * (1 + l) ≤ k ∧ k < 152 * (1 + l) + 152) → hI (stpH l cond lg ig hm) o k = hI hm o k := fun o k q1 q2 => stp_I q1 q2
  have h12 : ∀ o, 12 ≤ o → o < 29 → Sm1 hc (bkN l c ig lg hc) o := fun o q1 q2 => C o (by omega) (by omega)
  have hOl : Old hc (bkN l c ig lg hc) := ⟨Nat.le_succ _, fun o q1 q2 => C o q2 (by omega)⟩
  have hE : EqT hm (stpH l cond lg ig hm) := ⟨fun k hk => M _ _ (by omega) (by omega), fun j _ => M _ _ (by omega) (by omega), fun o k _ _ => M _ _ (by omega) (by omega)⟩
  have hM : EqM hm (stpH l cond lg ig hm) := ⟨M _ _ (by omega) (by omega), fun o k _ _ => M _ _ (by omega) (by omega), fun o k _ _ => M _ _ (by omega) (by omega), fun k _ => M _ _ (by omega) (by omega)⟩
  have hOM : MO (stpH l cond lg ig hm) := mo_ag (hm := hm) (fun o _ _ => ⟨rfl, rfl, fun _ => rfl⟩) a8
  have r48 : ∀ k, hR (bkN l c ig lg hc) 48 k = if k = l then some (hN hc) else hR hc 48 k := fun k => by
    unfold bkN
    rw [hR_sR]
    by_cases e : k = l
    · rw [if_pos ⟨rfl, e⟩, if_pos e]
    · rw [if_neg (fun z => e z.2), if_neg e, hR_sI, hR_sI, hR_sR, if_neg (by omega), hR_nw, if_neg (by omega)]
  have hlt : ∀ l2 o, l2 < 40 → hR hc 48 l2 = some o → o < hN hc := fun l2 o q1 q2 => by
    rcases hB l2 q1 with ⟨z, -⟩ | ⟨o', z, -, z3, -⟩
    · rw [z] at q2; cases q2
    · rw [z] at q2; injection q2 with q2; omega
  have hp80 := hg.2.2.2.2.1
  have hpN := hg.2.2.2.2.2.1
  refine ⟨⟨⟨dk_ag (hc := hc) (fun o ho => CK o (by omega)) (fun k _ => (C 3 (by omega) (by decide)).2.2.1 k) ((C 4 (by omega) (by decide)).2.2.1 0) ((C 46 (by omega) (by decide)).2.2.1 0) a1, mi_same (h := hc) (fun o q1 q2 => ⟨(CK o (by omega)).1, (CK o (by omega)).2, (C o (by omega) (by omega)).2.2.1⟩) a2, mi_same (h := hc) (fun o q1 q2 => ⟨(CK o (by omega)).1, (CK o (by omega)).2, (C o (by omega) (by omega)).2.2.1⟩) a3, kp_tsh (h := hc) (N := 12) (by decide) (fun o q1 q2 => ⟨(CK o (by omega)).1, (CK o (by omega)).2, (C o (by omega) (by omega)).2.2.1⟩) a4, by show 80 ≤ hN hc + 1; omega, hN1, hU1, hOM⟩, ⟨tn, t1, ((C 4 (by omega) (by decide)).2.2.2 1).trans t2, (M _ _ (by omega) (by omega)).trans t3, fun j hj => ?_⟩, ⟨((C 3 (by omega) (by decide)).2.2.2 7).trans (w1.trans (M _ _ (by omega) (by omega)).symm), ?_, ((C 3 (by omega) (by decide)).2.2.2 8).trans (w3.trans (M _ _ (by omega) (by omega)).symm)⟩, nts_fr h4 (Nat.le_refl _) ((C 46 (by omega) (by decide)).2.2.2 1) (fun k _ => (C 47 (by omega) (by decide)).2.2.2 k) (M _ _ (by omega) (by omega)) (fun k _ => M _ _ (by omega) (by omega)), out_fr h5 (Nat.le_refl _) h12 (M _ _ (by omega) (by omega)) (fun k _ => M _ _ (by omega) (by omega)), stt_fr h6 h12 (fun k hk => M _ _ (by omega) (by omega)) hE, Or.inr ⟨x, pg, prg_fr hg hOl ((C 3 (by omega) (by decide)).2.2.1 6) hE, fun l2 hl2 => ?_, fun l1 l2 o' q1 q2 q3 q4 => ?_, run_fr hg hOM hE hRn (fun o' ho' => C o' (by omega) (by omega)) hM⟩⟩, fun o q1 q2 => C o (by omega) (by omega), ⟨rfl, rfl, fun o ho => ⟨rfl, rfl, fun _ => rfl, fun k => M _ _ (by omega) (by omega)⟩⟩⟩
  · rw [M _ _ (by omega) (by omega), (C 5 (by omega) (by decide)).2.2.2]
    exact t4 j hj
  · rw [(C 3 (by omega) (by decide)).2.2.2]
    exact w2
  · by_cases e : l2 = l
    · subst e
      have nI1 : hI (bkN l2 c ig lg hc) (hN hc) 1 = ig := by
        unfold bkN
        rw [hI_sR, hI_ne (by omega), hI_is]
      have nI2 : hI (bkN l2 c ig lg hc) (hN hc) 2 = lg := by
        unfold bkN
        rw [hI_sR, hI_is]
      have nI3 : hI (bkN l2 c ig lg hc) (hN hc) 3 = 0 := by
        unfold bkN
        rw [hI_sR, hI_ne (by omega), hI_ne (by omega), hI_sR, hI_nw, if_pos rfl]
      have nR0 : hR (bkN l2 c ig lg hc) (hN hc) 0 = c := by
        unfold bkN
        rw [hR_sR, if_neg (by omega), hR_sI, hR_sI, hR_sR, if_pos ⟨rfl, rfl⟩]
      have m73 : hI (stpH l2 cond lg ig hm) 73 l2 = 1 := by unfold stpH; rw [hI_sA, if_neg (by decide), hI_ne (by omega), hI_ne (by omega), hI_ne (by omega), hI_ne (by omega), hI_is]
      have m74 : hI (stpH l2 cond lg ig hm) 74 l2 = cond := by unfold stpH; rw [hI_sA, if_neg (by decide), hI_ne (by omega), hI_ne (by omega), hI_ne (by omega), hI_is]
      have m75 : hI (stpH l2 cond lg ig hm) 75 l2 = lg := by unfold stpH; rw [hI_sA, if_neg (by decide), hI_ne (by omega), hI_ne (by omega), hI_is]
      have m76 : hI (stpH l2 cond lg ig hm) 76 l2 = ig := by unfold stpH; rw [hI_sA, if_neg (by decide), hI_ne (by omega), hI_is]
      have m77 : hI (stpH l2 cond lg ig hm) 77 l2 = 0 := by unfold stpH; rw [hI_sA, if_neg (by decide), hI_is]
      refine Or.inr ⟨hN hc, by rw [r48, if_pos rfl], by omega, Nat.lt_succ_self _, ?_, m73, nI1.trans m76.symm, nI2.trans m75.symm, nI3.trans m77.symm, ⟨0, Nat.zero_le _, nI3⟩, ?_⟩
      · show hK (nw hc 0 0 4) (hN hc) = 0
        rw [hK_nw, if_pos rfl]
      · rcases hcn with ⟨c1, c2⟩ | ⟨c1, c0, c2, c3, c4, c5⟩
        · rw [if_pos c1] at hcd
          exact Or.inl ⟨nR0.trans c2, m74.trans hcd.symm⟩
        · rw [if_neg c1] at hcd
          refine Or.inr ⟨c0, nR0.trans c2, c3, by show c0 + 2 < hN hc + 1; omega, m74.trans hcd.symm, asd_mv c5 (fun o q1 q2 => C o (by omega) (by omega)) (fun j hj => ?_)⟩
          unfold stpH
          rw [hI_sA, if_pos rfl, if_pos (by omega), show 152 * (1 + l2) + j - 152 * (1 + l2) = j from by omega, show 6232 + j = 152 * 41 + j from by omega]
    · exact brk_fr (hB l2 hl2) hBi hOl (by rw [r48, if_neg e]) (fun o' ho' => M _ _ (by omega) (by omega)) (fun j hj => M _ _ (by omega) (by omega))
  · rw [r48] at q3 q4
    by_cases e1 : l1 = l
    · by_cases e2 : l2 = l
      · omega
      · rw [if_pos e1] at q3
        rw [if_neg e2] at q4
        injection q3 with q3
        have := hlt l2 o' q2 q4
        omega
    · by_cases e2 : l2 = l
      · rw [if_neg e1] at q3
        rw [if_pos e2] at q4
        injection q4 with q4
        have := hlt l1 o' q1 q3
        omega
      · rw [if_neg e1] at q3
        rw [if_neg e2] at q4
        exact hDS l1 l2 o' q1 q2 q3 q4
theorem k_stop {ln ig lg : Int32} (hlg : lg = 0 ∨ lg = 1) : CAL xs L (d + 60) i 56 110 [.inl ln, .inl ig, .inl lg] := fun hc hm hv => by
  have hO := hv.1.2.2.2.2.2.2.2
  have hN6 := hv.1.2.2.2.2.2.1
  have hU6 := hv.1.2.2.2.2.2.2.1
  obtain ⟨n, c, hc1, hm1, good, s1, s2, s3, s4, s5, s6, s7, s8, s8', s9, s10⟩ := st_read (xs := xs) (L := L) (d := d) hv
  obtain ⟨v1, v2, v3⟩ := ev_inv hv s5 (fm_tr s6 (fm_sI (o := 49) (k := 0) (w := 0) (by unfold OwE; omega))) s7 hI_is (by rw [hI_ne (by decide), s8', s8]; exact hv.2.2.1.2.2)
  have hO1 := fm_mo s6 hO
  have hD1 := v1.1.1
  have e4 : hI (sI hm1 49 0 0) 49 4 = hI hm1 49 4 := hI_ne (by decide)
  have e5 : hI (sI hm1 49 0 0) 49 5 = hI hm1 49 5 := hI_ne (by decide)
  have f4 : hI hm1 49 4 = hI hm 49 4 := fm_no s6 (by unfold OwE; omega)
  rcases inv_line (xs := xs) (L := L) v1 ln with ⟨h1, h2⟩ | ⟨x, pg, l, g1, g2, g3, g4, hl, rfl, h1, h2, h3, h5⟩
  · rw [e4, e5] at h2
    exact ⟨_, _, _, s3 _ _ _ _ (d_stop_no hD1.1 (h1 (d + 58)) (Or.inl rfl)), m_stop_no (d := d + 55) hO s2 s1 s4 hO1 (Or.inl h2), v1, v2, v3⟩
  · rw [e4] at h2
    rw [e5] at h5
    by_cases c1 : ig < 0
    · exact ⟨_, _, _, s3 _ _ _ _ (d_stop_no hD1.1 (h1 (d + 58)) (Or.inr (Or.inl c1))), m_stop_no (d := d + 55) hO s2 s1 s4 hO1 (Or.inr (Or.inl c1)), v1, v2, v3⟩
    · have hld : hI hm 49 4 = 1 ∧ Rn xs L (d + 59) 109 [.inr (some 49), .inl (nI 41)] hm (some (.inl (bI good)), hm1) := s4.resolve_left (fun z => h2 (f4.trans z.1))
      have yes : ∀ (hcn : (n = 0 ∧ c = none) ∨ (¬ n = 0 ∧ ∃ c0, c = some c0 ∧ 80 ≤ c0 ∧ c0 + 2 < hN hc1 ∧ ASD (arC x.r) 41 c0 hc1 (sI hm1 49 0 0))), (n = 0 ∨ good = true) → ∃ a hc2 hm2, Rn xs L (d + 60) 56 [.inr (some 3), .inl (nI l), .inl ig, .inl lg] hc (a, hc2) ∧ Rn xs L (d + 60) 110 [.inr (some 49), .inl (nI l), .inl ig, .inl lg] hm (a, hm2) ∧ INV (i + 1) hc2 hm2 ∧ AgM hc hc2 ∧ AgC hm hm2 := fun hcn hgd => by
        obtain ⟨w1, w2, w3⟩ := stp_inv (ig := ig) (lg := lg) (l := l) v1 (by have := s5.2.1; omega) (by have := s5.2.2.1; omega) g1 g2 (Nat.le_refl _) g3 g4 hl hcn
        refine ⟨_, _, _, s3 _ _ _ _ (d_stop_yes (d := d + 58) hD1 v1.1.2.2.2.2.1 hl (h1 (d + 58)) c1 (fun e => ?_) hlg), m_stop_yes (d := d + 55) hO s2 s1 hld hO1 ⟨h2, h3, h5⟩ hl c1 hgd hlg (s9 hld.1), w1, agm_tr v2 w2, agc_tr v3 w3⟩
        rcases hcn with ⟨z1, -⟩ | ⟨-, c0, z1, -⟩
        · rw [z1]; decide
        · rw [e] at z1; cases z1
      rcases s10 with ⟨z1, z2⟩ | ⟨z1, z2, z3⟩ | ⟨z1, z2, z3, z4, z5⟩
      · exact yes (Or.inl ⟨z1, z2⟩) (Or.inl z1)
      · exact ⟨_, _, _, s3 _ _ _ _ (d_stop_no hD1.1 (h1 (d + 58)) (Or.inr (Or.inr ⟨z2, by rw [decide_eq_false z1]; rfl⟩))), m_stop_no (d := d + 55) hO s2 s1 s4 hO1 (Or.inr (Or.inr ⟨z1, z3⟩)), v1, v2, v3⟩
      · exact yes (Or.inr ⟨z1, hN hc, z3, hv.1.2.2.2.2.1, by omega, z5 x pg g1⟩) (Or.inr z2)
end CS1

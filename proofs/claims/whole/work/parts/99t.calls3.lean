-- CALLS: unstop, set
section CN
variable {xs : Nat → Int32} {L d i : Nat} {h hc hm hc2 hm2 : Hp} {x : PDt} {pg tf B B2 l o : Nat} {ar : Nat → Int32} {a : ADt}
theorem k_unstop {b : Int32} (hi : i ≤ 512) : CAL xs L (d + 60) i 57 111 [.inl b] := fun hc hm hv => by
  have hO := hv.1.2.2.2.2.2.2.2
  rcases inv_line (xs := xs) (L := L) hv b with ⟨h1, h2⟩ | ⟨x, pg, l, g1, g2, g3, g4, hl, rfl, h1, h2⟩
  · exact ⟨some (.inl (-1)), hc, hm, d_unstop_no (d := d + 58) hv.1.1 (h1 _), m_unstop_no (d := d + 57) hO (m_hits_no (d := d + 57) hO h2), inv_up hv, agm_rfl, agc_rfl⟩
  · have hm1 := m_hits (xs := xs) (L := L) (d := d + 57) hO h2 hl
    rcases g2 l hl with ⟨b1, b2⟩ | ⟨o, b1, b2, b3, b4, b5, b6, b7, b8, ⟨c, b9, b10⟩, b11⟩
    · rw [if_pos b2] at hm1
      exact ⟨some (.inl (-1)), hc, hm, d_unstop0 (d := d + 58) hv.1.1 (h1 _) hl b1, m_unstop_no (d := d + 57) hO hm1, inv_up hv, agm_rfl, agc_rfl⟩
    · rw [if_neg (by rw [b5]; decide), ← b8] at hm1
      have hneg : ¬ hI hc o 3 < 0 := by
        rw [b10]
        exact Int32.not_lt.mpr (nI_le (a := 0) (b := c) (Nat.zero_le _) (by omega))
      obtain ⟨⟨a1, a2, a3, a4, a5, a6, a7, a8⟩, t2, w3, h4, h5, h6, h7⟩ := inv_up hv
      have C : ∀ o, ¬ o = 48 → Sm1 hc (sR hc 48 l none) o := fun o ho => sm1_sR ho
      have h12 : ∀ o, 12 ≤ o → o < 29 → Sm1 hc (sR hc 48 l none) o := fun o q1 q2 => C o (by omega)
      have hOl : Old hc (sR hc 48 l none) := ⟨Nat.le_refl _, fun o q1 q2 => C o (by omega)⟩
      have M : ∀ o k, ¬ (o = 73 ∧ k = l) → hI (sI hm 73 l 0) o k = hI hm o k := fun o k hn => hI_ne hn
      have hE : EqT hm (sI hm 73 l 0) := ⟨fun k hk => M _ _ (by omega), fun j _ => M _ _ (by omega), fun o k _ _ => M _ _ (by omega)⟩
      have hM : EqM hm (sI hm 73 l 0) := ⟨M _ _ (by omega), fun o k _ _ => M _ _ (by omega), fun o k _ _ => M _ _ (by omega), fun k _ => M _ _ (by omega)⟩
      have r48 : ∀ k, hR (sR hc 48 l none) 48 k = if k = l then none else hR hc 48 k := fun k => by
        rw [hR_sR]
        by_cases e : k = l
        · rw [if_pos ⟨rfl, e⟩, if_pos e]
        · rw [if_neg (fun z => e z.2), if_neg e]
      refine ⟨some (.inl (hI hc o 3)), sR hc 48 l none, sI hm 73 l 0, d_unstop (d := d + 58) a1 (h1 _) hl b1 b4, m_unstop (d := d + 57) a8 hl hm1 hneg, ⟨⟨dk_ag (fun _ _ => ⟨rfl, rfl⟩) (fun k hk => (C 3 (by decide)).2.2.1 k) ((C 4 (by decide)).2.2.1 0) ((C 46 (by decide)).2.2.1 0) a1, mi_same (h := hc) (fun o q1 q2 => ⟨rfl, rfl, (C o (by omega)).2.2.1⟩) a2, mi_same (h := hc) (fun o q1 q2 => ⟨rfl, rfl, (C o (by omega)).2.2.1⟩) a3, kp_tsh (h := hc) (N := 12) (by decide) (fun o q1 q2 => ⟨rfl, rfl, (C o (by omega)).2.2.1⟩) a4, a5, a6, a7, a8⟩, ?_, ?_, nts_fr h4 (Nat.le_refl _) rfl (fun k _ => rfl) (M _ _ (by omega)) (fun k _ => M _ _ (by omega)), out_fr h5 (Nat.le_refl _) h12 (M _ _ (by omega)) (fun k _ => M _ _ (by omega)), stt_fr h6 h12 (fun k hk => M _ _ (by omega)) hE, Or.inr ⟨x, pg, prg_fr g1 hOl ((C 3 (by decide)).2.2.1 6) hE, fun l2 hl2 => ?_, fun l1 l2 o' q1 q2 q3 q4 => ?_, run_fr g1 a8 hE g4 (fun o' ho' => C o' (by have := g1.2.2.2.2.1; omega)) hM⟩⟩, agm_sR agm_rfl (by omega), agc_sI agc_rfl (by omega)⟩
      · obtain ⟨n, t1, t2, t3, t4⟩ := t2
        exact ⟨n, t1, t2, (M _ _ (by omega)).trans t3, fun j hj => by rw [M _ _ (by omega)]; exact t4 j hj⟩
      · obtain ⟨w1, w2, w3⟩ := w3
        exact ⟨w1.trans (M _ _ (by omega)).symm, w2, w3.trans (M _ _ (by omega)).symm⟩
      · by_cases e : l2 = l
        · subst e
          exact Or.inl ⟨by rw [r48, if_pos rfl], hI_is⟩
        · exact brk_fr (g2 l2 hl2) (by omega) hOl (by rw [r48, if_neg e]) (fun o' ho' => M _ _ (by omega)) (fun j hj => M _ _ (by omega))
      · rw [r48] at q3 q4
        by_cases e1 : l1 = l
        · rw [if_pos e1] at q3; cases q3
        · by_cases e2 : l2 = l
          · rw [if_pos e2] at q4; cases q4
          · rw [if_neg e1] at q3
            rw [if_neg e2] at q4
            exact g3 l1 l2 o' q1 q2 q3 q4
theorem fv_set {q j0 v0 : Nat} {w : Int32} (hj : j0 < 6) (hv0 : v0 < 6) (hq : q < 6) (h : FV (mkG x pg 0 a tf) hc hm q) : FV (mkG x pg 0 a tf) (sI hc (12 + (3 + 2 * j0)) v0 w) (sI hm 66 (6 * j0 + v0) w) q := by
  obtain ⟨a1, a2, a3⟩ := h
  refine ⟨a1, fun v hv => ?_, fun z => ?_⟩
  · show hI (sI hc (12 + (3 + 2 * j0)) v0 w) (12 + (3 + 2 * q)) v = hI (sI hm 66 (6 * j0 + v0) w) 66 (6 * (6 * 0 + q) + v)
    by_cases e : q = j0 ∧ v = v0
    · obtain ⟨rfl, rfl⟩ := e
      rw [hI_is, show 6 * (6 * 0 + q) + v = 6 * q + v from by omega, hI_is]
    · rw [hI_ne (by omega), hI_ne (by omega)]
      exact a2 v hv
  · show hI (sI hc (12 + (3 + 2 * j0)) v0 w) (12 + (2 + 2 * q)) 4 = hI (sI hm 66 (6 * j0 + v0) w) 63 (6 * 0 + q)
    rw [hI_ne (by omega), hI_ne (by omega)]
    exact a3 z
theorem xf_set {q j0 v0 : Nat} {w : Int32} {bq p e i : Nat} {wb : Bool} {lv : LV} {st : List LV} {J : List Int32} (hj : j0 < 6) (hq : q < 6) (h : XF (mkG x pg 0 a tf) hc hm q bq wb p lv st e J i) : XF (mkG x pg 0 a tf) (sI hc (12 + (3 + 2 * j0)) v0 w) (sI hm 66 (6 * j0 + v0) w) q bq wb p lv st e J i := by
  obtain ⟨a1, a2, a3, a4, a5, a6, a7, a8, a9, a10⟩ := h
  refine ⟨a1, a2, a3, a4, a5, lr_congr (μ := 12) (t := 6 * 0 + q) (lv :: st) (fun k _ => hI_ne (by omega)) (fun o k ho hk => hI_ne (by omega)) (fun k hk => hI_ne (by omega)) (fun l hl2 => by have := wl_seen _ a5 l hl2; omega) a6, (hI_ne (by omega)).trans a7, (hI_ne (by omega)).trans a8, ?_, fun z => ?_⟩
  · show hI (sI hc (12 + (3 + 2 * j0)) v0 w) (12 + (2 + 2 * q)) 2 = _
    rw [hI_ne (by omega)]; exact a9
  · show hI (sI hc (12 + (3 + 2 * j0)) v0 w) (12 + (2 + 2 * q)) 3 = _
    rw [hI_ne (by omega)]; exact a10 z
theorem low_set {j0 v0 : Nat} {w : Int32} (hj : j0 < 6) (hv0 : v0 < 6) : ∀ (q b M : Nat), q ≤ 6 → LOW (mkG x pg 0 a tf) hc hm q b M → LOW (mkG x pg 0 a tf) (sI hc (12 + (3 + 2 * j0)) v0 w) (sI hm 66 (6 * j0 + v0) w) q b M := by
  intro q
  induction q with
  | zero => exact fun _ _ _ h => h
  | succ q ih =>
    intro b M hq h
    obtain ⟨bq, lv, st, p, e, J, i, M', h1, h2, h3, h4, h5, h6⟩ := h
    refine ⟨bq, lv, st, p, e, J, i, M', ih bq M' (by omega) h1, fv_set hj hv0 (by omega) h2, xf_set hj (by omega) h3, ?_, h5, h6⟩
    rcases h4 with ⟨k1, -⟩ | ⟨k1, pl, hd, oh, k2, k3, k4, k5⟩
    · rw [fl_m0] at k1; cases k1
    · refine Or.inr ⟨k1, pl, hd, oh, (hI_ne (by omega)).trans k2, k3, ?_, k5⟩
      show hI (sI hc (12 + (3 + 2 * j0)) v0 w) (12 + (2 + 2 * q)) 5 = _
      rw [hI_ne (by omega)]; exact k4
theorem wai_set {j0 v0 : Nat} {w : Int32} (hP : PU (mkG x pg 0 a tf)) (hj : j0 < 6) (hv0 : v0 < 6) (h : WAI (mkG x pg 0 a tf) hc hm) : WAI (mkG x pg 0 a tf) (sI hc (12 + (3 + 2 * j0)) v0 w) (sI hm 66 (6 * j0 + v0) w) := by
  obtain ⟨h4, q, b, M, pl, i, hd, oh, ⟨t1, t2, t3, t4, t5, t6, t7, t8⟩, ha, hf, h125, h65, h5, h2, h7⟩ := h
  have C : ∀ o k, ¬ o = 12 + (3 + 2 * j0) → hI (sI hc (12 + (3 + 2 * j0)) v0 w) o k = hI hc o k := fun o k hn => hI_ne (by omega)
  refine ⟨(C 12 4 (by omega)).trans h4, q, b, M, pl, i, hd, oh, ⟨sc_uc (q := 0) (b := 0) hP (uc_sI uc_rfl (Or.inr (Or.inr (Or.inr (Or.inl ⟨j0, by omega, hj, Or.inr rfl⟩))))) t1, sm_um (m := 0) (q := 0) (um_sI um_rfl (by unfold OwM; omega)) t2, t3, (C 12 6 (by omega)).trans t4, (hI_ne (by omega)).trans t5, low_set hj hv0 q b M (by omega) t6, fv_set hj hv0 t3 t7, fun z => (C (12 + (2 + 2 * q)) 3 (by omega)).trans (t8 z)⟩, ha, hf, h125, (hI_ne (by omega)).trans h65, (C (12 + (2 + 2 * q)) 5 (by omega)).trans h5, (C (12 + (2 + 2 * q)) 2 (by omega)).trans h2, (C 12 7 (by omega)).trans h7⟩
theorem pu_0 (hg : PRG x pg hc hm) {tf : Nat} : PU (mkG x pg 0 a0 tf) := pu_mk hg.1 (Or.inl rfl) hg.2.2.2.2.1 (fun z => absurd z (by decide)) (by decide) (by decide)
theorem k_set {b v w : Int32} : CAL xs L (d + 60) i 66 122 [.inl b, .inl v, .inl w] := fun hc hm hv => by
  have hO := hv.1.2.2.2.2.2.2.2
  rcases inv_b hv b with ⟨t, h1, h2, h3, h4⟩ | ⟨x, pg, t, k, h1, h2, h3, h4, h5, h6, h7, h8, h9, h10, f1, f2, p, f3, f4, f5⟩
  · exact ⟨_, hc, hm, d_set_no (d := d + 58) hv.1.1 hv.1.2.1 h1 h3, m_set_no (d := d + 58) hO h4, inv_up hv, agm_rfl, agc_rfl⟩
  · subst h8
    have r1 := d_set (xs := xs) (L := L) (d := d + 58) (v := v) (w := w) hv.1.1 hv.1.2.1 h9 h6 h7
    have r2 := m_set (xs := xs) (L := L) (d := d + 58) (v := v) (w := w) hO h5 h10 h6 h7
    by_cases c1 : v < 0
    · rw [if_pos c1] at r1 r2
      exact ⟨_, hc, hm, r1, r2, inv_up hv, agm_rfl, agc_rfl⟩
    · by_cases c2 : 6 ≤ v
      · rw [if_neg c1, if_pos c2] at r1 r2
        exact ⟨_, hc, hm, r1, r2, inv_up hv, agm_rfl, agc_rfl⟩
      · obtain ⟨-, j, j1, j2⟩ := v_lim c1 c2
        have e : v.toNatClampNeg = j := by rw [j2]; exact nI_cl (by omega)
        rw [if_neg c1, if_neg c2, e] at r1 r2
        obtain ⟨⟨a1, a2, a3, a4, a5, a6, a7, a8⟩, t2, w3, k4, k5, k6, k7⟩ := inv_up hv
        generalize hj0 : t - 1 - k = j0 at *
        have hj6 : j0 < 6 := by omega
        have C : ∀ o k, ¬ o = 12 + (3 + 2 * j0) → hI (sI hc (12 + (3 + 2 * j0)) j w) o k = hI hc o k := fun o k hn => hI_ne (by omega)
        have M : ∀ o k, ¬ o = 66 → hI (sI hm 66 (6 * j0 + j) w) o k = hI hm o k := fun o k hn => hI_ne (by omega)
        have hOl : Old hc (sI hc (12 + (3 + 2 * j0)) j w) := ⟨Nat.le_refl _, fun o q1 q2 => sm1_sI (by omega)⟩
        have hE : EqT hm (sI hm 66 (6 * j0 + j) w) := ⟨fun k hk => M _ _ (by omega), fun j _ => M _ _ (by omega), fun o k _ _ => M _ _ (by omega)⟩
        refine ⟨_, _, _, r1, r2, ⟨⟨a1, a2, a3, a4, a5, a6, a7, a8⟩, ?_, ?_, ?_, ?_, ?_, Or.inr ?_⟩, agm_sI agm_rfl (by omega), agc_sI agc_rfl (by omega)⟩
        · obtain ⟨n, s1, s2, s3, s4⟩ := t2
          exact ⟨n, s1, (C _ _ (by omega)).trans s2, (M _ _ (by omega)).trans s3, fun j hj => by rw [M _ _ (by omega), C _ _ (by omega)]; exact s4 j hj⟩
        · obtain ⟨w1, w2, w3⟩ := w3
          exact ⟨(C _ _ (by omega)).trans (w1.trans (M _ _ (by omega)).symm), by rw [C _ _ (by omega)]; exact w2, (C _ _ (by omega)).trans (w3.trans (M _ _ (by omega)).symm)⟩
        · exact nts_fr k4 (Nat.le_refl _) (C _ _ (by omega)) (fun k _ => C _ _ (by omega)) (M _ _ (by omega)) (fun k _ => M _ _ (by omega))
        · obtain ⟨u, e1, e2, e3, e4⟩ := k5
          exact ⟨u, e1, (C _ _ (by omega)).trans e2, (M _ _ (by omega)).trans e3, fun k hk => by rw [C _ _ (by omega), M _ _ (by omega)]; exact e4 k hk⟩
        · obtain ⟨s1, s2, s3, s4, s5, s6, s7⟩ := k6
          refine ⟨?_, ?_, ?_, ?_, fun f hf => ?_, ?_, fun j hj => ?_⟩
          · rw [C _ _ (by omega), M _ _ (by omega)]; exact s1
          · rw [C _ _ (by omega), M _ _ (by omega)]; exact s2
          · rw [C _ _ (by omega), M _ _ (by omega)]; exact s3
          · rw [M _ _ (by omega)]; exact s4
          · rw [M _ _ (by omega)]; exact s5 f hf
          · rw [M _ _ (by omega)]; exact s6
          · rw [M _ _ (by omega)]; exact s7 j hj
        · rcases k7 with ⟨z1, -⟩ | ⟨x', pg', g1, g2, g3, g4⟩
          · rw [h1.2.2.2.1] at z1; cases z1
          · refine ⟨x', pg', prg_fr g1 hOl rfl hE, fun l hl => brk_fr (g2 l hl) (Nat.le_refl _) hOl rfl (fun o ho => M _ _ (by omega)) (fun j _ => M _ _ (by omega)), g3, Or.inl ⟨(C _ _ (by omega)).trans h4, (C _ _ (by omega)).trans h3, ?_⟩⟩
            rcases g4 with ⟨g5, g6, g7⟩ | ⟨g5, g6⟩
            · exact wai_set (pu_0 g1) hj6 j1 g7
            · rw [h4] at g5
              exact absurd g5 (by decide)
end CN

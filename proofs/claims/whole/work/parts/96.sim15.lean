-- THE RUN: both run to the same end
section RQ
variable {xs : Nat → Int32} {L d : Nat} {g : CTX} {hc hm hc2 hm2 hcV : Hp} {q b M N : Nat} {u : Nat} {v w : Int32}
theorem step_A (hP : PU g) {p i : Nat} {hd oh : Int32} (hA : StA g u hc hm q b M p i hd oh)
    (ihA : ∀ hc2 hm2 p3 i hd oh, StA g u hc2 hm2 q b M p3 i hd oh → p < p3 → p3 ≤ 152 → DNE xs L d g u hc2 hm2 (8 * (M + (153 - p3))))
    (ihC : ∀ hc2 hm2 q2 b2 M2 lv st p3 e J i2 v2, StC g u hc2 hm2 q2 b2 M2 lv st p3 e J i2 v2 → M2 + (353 - p3) ≤ M → DNE xs L d g u hc2 hm2 (8 * (M2 + (353 - p3)))) : DNE xs L d g u hc hm (8 * (M + (153 - p))) := by
  obtain ⟨hT, hE, ha, hf, h2, h64, h7, h27⟩ := id hA
  by_cases h125 : g.T p = 125
  · obtain ⟨t1, t2, t3, t4, t5, t6, t7, t8⟩ := id hT
    obtain ⟨hpn, hiz⟩ := fr_p hP.2.1 hf
    have hn := hP.2.1.1
    have hz := hP.2.2.2.1
    have hm2 := pu_m hP
    have hO := t2.1
    have hbb := (low_b q b M t6).1
    obtain ⟨e1, e2, -⟩ := gz_f ha
    obtain ⟨-, o, o1, o2, o3⟩ := fr_cl hP.2.1 hf h125
    have hcp : hI hm 51 p = 125 := by
      have := t2.2.1 false (fun z => by cases z) p (by omega)
      rw [show gb g false + p = p from Nat.zero_add p] at this
      rw [this]; exact h125
    have h52 : hI hm 52 p = nI o := by rw [t2.2.2.2.2.2.2]; exact o1
    have hsk := fun hm3 hr => m_seek (xs := xs) (L := L) (d := d + 3) (h := hm) (t := 6 * g.m + q) (p := p) (o := o) (h2 := hm3) hO (by omega) h64 (by omega) hcp h52 o2 hr
    have turn : ∀ hm3, Rn xs L (d + 4) 93 [.inr (some 49), .inl (nI (6 * g.m + q))] hm (some (.inl 0), hm3) → ∀ res, PX xs L (d + 4) g.m hm3 res → PX xs L (d + 4) g.m hm res := fun hm3 hr res hp2 => p_seek0 (d := d + 3) hO hm2 t5 t3 h27 hr hp2
    have hf2 := (t1.1.2.2.2.2.2.2.2.2.2.2.2.2 q t3).2.1
    rcases o3 with ⟨w1, w2, w3, w4⟩ | ⟨w1, w2⟩ | ⟨w1, wp, i0, w2, w3, w4, w5⟩ | ⟨w1, e4, i4, hd2, oh2, w2, w3, w4, w5⟩
    · have hr := hsk (sI (sI hm 49 27 4) 49 28 0) (Or.inl ⟨by rw [t2.2.2.2.1]; exact w1, rfl⟩)
      have u3 : UC g.u q b hc (puH g.u b 0 (sI hc (g.u + (2 + 2 * q)) 2 (nI (i + 1)))) := uc_u (uc_v (Nat.le_refl _) (uc_f t3 uc_rfl))
      have u4 : UM g.m q hm (sI (sI hm 49 27 4) 49 28 0) := um_sI (um_sI um_rfl (by unfold OwM; omega)) (by unfold OwM; omega)
      refine dne_1 (u2 := u) (M2 := 8 * M + 1) (hc2 := puH g.u b 0 (sI hc (g.u + (2 + 2 * q)) 2 (nI (i + 1)))) ?_ (mi_uc u3 t1.1) (uc_w u3) (um_w u4) (turn _ hr) ⟨Nat.le_refl _, by omega⟩ (by omega) (s_ret (i := i + 1) (v := 0) hP (es_same hE ?_ (fun k => ?_) ?_ ?_ (fun k => ?_) ?_) (tp_mk hP hT u3 u4 ?_ ?_ (fv_same t7 rfl (fun k => ?_) (fun k _ => ?_) ?_ ?_) ?_) ha ?_ w4 w3 ?_ ?_ ?_ ?_ ihC)
      · exact cs_mk (op := 1) (k := 0) t1 t3 t4 fl_m t7.1 h2 (by rw [e1]; omega) (by rw [e2]; exact w2) (by decide) (by decide) (x_num (h := sI hc (g.u + (2 + 2 * q)) 2 (nI (i + 1))) t1.1 (by rw [hI_ne (by omega)]; exact h7) (by omega))
      all_goals (try unfold puH)
      · rw [hI_ne (by omega), hI_ne (by omega), hI_ne (by omega)]
      · rw [hI_ne (by omega), hI_ne (by omega), hI_ne (by omega)]
      · rw [hI_ne (by omega), hI_ne (by omega), hI_ne (by omega)]
      · rw [hI_ne (by omega), hI_ne (by omega)]
      · rw [hI_ne (by omega), hI_ne (by omega)]
      · rw [hI_ne (by omega), hI_ne (by omega)]
      · rw [hI_ne (by omega), hI_ne (by omega), hI_ne (by omega)]
      · rw [hI_ne (by omega), hI_ne (by omega)]
      · rw [hI_ne (by omega), hI_ne (by omega), hI_ne (by omega)]
      · rw [hI_ne (by omega), hI_ne (by omega)]
      · rw [hI_ne (by omega), hI_ne (by omega), hI_ne (by omega)]
      · rw [hI_ne (by omega), hI_ne (by omega)]
      · rw [hI_ne (by omega), hI_ne (by omega), hI_ne (by omega)]
      · rw [hI_ne (by omega), hI_ne (by omega), hI_is]
      · rw [hI_is]
      · rw [hI_ne (by omega), hI_is]
      · rw [hI_ne (by omega), hI_is]
      · rw [hI_is]
    · have hr := hsk (sI hm 64 (6 * g.m + q) (nI (p + 1))) (Or.inr (Or.inr (Or.inr ⟨by rw [t2.2.2.2.1]; exact w1, rfl⟩)))
      have u4 : UM g.m q hm (sI hm 64 (6 * g.m + q) (nI (p + 1))) := um_sI um_rfl (by unfold OwM; omega)
      refine dne_0 (u2 := u) (M2 := 8 * (M + (153 - (p + 1)))) (um_w u4) (turn _ hr) ⟨Nat.le_refl _, by omega⟩ (by omega) (ihA _ _ (p + 1) i hd oh ⟨tp_mk hP hT uc_rfl u4 rfl ?_ (fv_same t7 rfl (fun _ => rfl) (fun k _ => ?_) rfl ?_) rfl, es_same hE rfl (fun _ => rfl) rfl ?_ (fun k => ?_) ?_, ha, w2, h2, hI_is, h7, ?_⟩ (by omega) (by omega))
      · rw [hI_ne (by omega)]
      · rw [hI_ne (by omega)]
      · rw [hI_ne (by omega)]
      · rw [hI_ne (by omega)]
      · rw [hI_ne (by omega)]
      · rw [hI_ne (by omega)]
      · rw [hI_ne (by omega)]; exact h27
    · have hr := hsk (sI hm 64 (6 * g.m + q) (hI hm 54 o)) (Or.inr (Or.inl ⟨by rw [t2.2.2.2.1]; exact w1, rfl⟩))
      rw [t2.2.2.2.2.1, w2] at hr
      have hi0 := (fr_p hP.2.1 w5).2
      have u3 : UC g.u q b hc (sI (sI hc (g.u + (2 + 2 * q)) 2 (nI (i + 1))) (g.u + (2 + 2 * q)) 2 (nI i0)) := uc_f t3 (uc_f t3 uc_rfl)
      have u4 : UM g.m q hm (sI hm 64 (6 * g.m + q) (nI wp)) := um_sI um_rfl (by unfold OwM; omega)
      refine dne_1 (u2 := u) (M2 := 0) (hc2 := sI (sI hc (g.u + (2 + 2 * q)) 2 (nI (i + 1))) (g.u + (2 + 2 * q)) 2 (nI i0)) ?_ (mi_uc u3 t1.1) (uc_w u3) (um_w u4) (turn _ hr) ⟨Nat.le_refl _, by omega⟩ (by omega) (s_point (p := wp) (i := i0) (hd := hd) (oh := oh) hP (tp_mk hP hT u3 u4 ?_ ?_ (fv_same t7 rfl (fun k => ?_) (fun k _ => ?_) ?_ ?_) ?_) (es_same hE ?_ (fun k => ?_) ?_ ?_ (fun k => ?_) ?_) ha w5 w4 hI_is hI_is ?_ ?_)
      · exact cs_mk (op := 10) (k := i0) t1 t3 t4 fl_m t7.1 h2 (by rw [e1]; omega) (by rw [e2]; exact w3) (by decide) (by omega) (x_jump (h := sI hc (g.u + (2 + 2 * q)) 2 (nI (i + 1))) hf2)
      · rw [hI_ne (by omega), hI_ne (by omega)]
      · rw [hI_ne (by omega)]
      · rw [hI_ne (by omega), hI_ne (by omega)]
      · rw [hI_ne (by omega)]
      · rw [hI_ne (by omega), hI_ne (by omega)]
      · rw [hI_ne (by omega)]
      · rw [hI_ne (by omega), hI_ne (by omega)]
      · rw [hI_ne (by omega), hI_ne (by omega)]
      · rw [hI_ne (by omega), hI_ne (by omega)]
      · rw [hI_ne (by omega), hI_ne (by omega)]
      · rw [hI_ne (by omega)]
      · rw [hI_ne (by omega)]
      · rw [hI_ne (by omega)]
      · rw [hI_ne (by omega), hI_ne (by omega)]; exact h7
      · rw [hI_ne (by omega)]; exact h27
    · have hr := hsk (sI hm 64 (6 * g.m + q) (hI hm 52 (p + 1) + 1)) (Or.inr (Or.inr (Or.inl ⟨by rw [t2.2.2.2.1]; exact w1, rfl⟩)))
      rw [t2.2.2.2.2.2.2, w2, nI_1] at hr
      have hi0 := fr_p hP.2.1 w5
      have u3 : UC g.u q b hc (sI (sI hc (g.u + (2 + 2 * q)) 2 (nI (i + 1))) (g.u + (2 + 2 * q)) 2 (nI i4)) := uc_f t3 (uc_f t3 uc_rfl)
      have u4 : UM g.m q hm (sI hm 64 (6 * g.m + q) (nI (e4 + 1))) := um_sI um_rfl (by unfold OwM; omega)
      refine dne_1 (u2 := u) (M2 := 8 * (M + (153 - (e4 + 1)))) (hc2 := sI (sI hc (g.u + (2 + 2 * q)) 2 (nI (i + 1))) (g.u + (2 + 2 * q)) 2 (nI i4)) ?_ (mi_uc u3 t1.1) (uc_w u3) (um_w u4) (turn _ hr) ⟨Nat.le_refl _, by omega⟩ (by omega) (ihA _ _ (e4 + 1) i4 hd2 oh2 ⟨tp_mk hP hT u3 u4 ?_ ?_ (fv_same t7 rfl (fun k => ?_) (fun k _ => ?_) ?_ ?_) ?_, es_same hE ?_ (fun k => ?_) ?_ ?_ (fun k => ?_) ?_, ha, w5, hI_is, hI_is, ?_, ?_⟩ (by omega) (by omega))
      · exact cs_mk (op := 10) (k := i4) t1 t3 t4 fl_m t7.1 h2 (by rw [e1]; omega) (by rw [e2]; exact w4) (by decide) (by omega) (x_jump (h := sI hc (g.u + (2 + 2 * q)) 2 (nI (i + 1))) hf2)
      · rw [hI_ne (by omega), hI_ne (by omega)]
      · rw [hI_ne (by omega)]
      · rw [hI_ne (by omega), hI_ne (by omega)]
      · rw [hI_ne (by omega)]
      · rw [hI_ne (by omega), hI_ne (by omega)]
      · rw [hI_ne (by omega)]
      · rw [hI_ne (by omega), hI_ne (by omega)]
      · rw [hI_ne (by omega), hI_ne (by omega)]
      · rw [hI_ne (by omega), hI_ne (by omega)]
      · rw [hI_ne (by omega), hI_ne (by omega)]
      · rw [hI_ne (by omega)]
      · rw [hI_ne (by omega)]
      · rw [hI_ne (by omega)]
      · rw [hI_ne (by omega), hI_ne (by omega)]; exact h7
      · rw [hI_ne (by omega)]; exact h27
  · exact dne_le (s_point hP hT hE ha hf h125 h2 h64 h7 h27) (Nat.zero_le _)
theorem sim_all (hP : PU g) : ∀ N : Nat,
    (∀ u hc hm q b M p i hd oh, StA g u hc hm q b M p i hd oh → M + (153 - p) ≤ N → u + N + 1 < 2 ^ 31 → DNE xs L d g u hc hm (8 * (M + (153 - p))))
    ∧ (∀ u hc hm q b M lv st p e J i, StB g u hc hm q b M lv st p e J i → M + (353 - p) ≤ N → u + N + 1 < 2 ^ 31 → DNE xs L d g u hc hm (8 * (M + (353 - p))))
    ∧ (∀ u hc hm q b M lv st p e J i v, StC g u hc hm q b M lv st p e J i v → M + (353 - p) ≤ N → u + N + 1 < 2 ^ 31 → DNE xs L d g u hc hm (8 * (M + (353 - p)))) := by
  intro N
  induction N with
  | zero =>
    refine ⟨fun u hc hm q b M p i hd oh h1 h2 => ?_, fun u hc hm q b M lv st p e J i h1 h2 => ?_, fun u hc hm q b M lv st p e J i v h1 h2 => ?_⟩
    · have := (fr_p hP.2.1 h1.2.2.2.1).1
      have := hP.2.1.1
      omega
    · have := h1.2.2.1.2.2.1
      have := (pu_tx (q := q) hP).1.1
      omega
    · have := h1.2.2.1.2.2.1
      have := (pu_tx (q := q) hP).1.1
      omega
  | succ N ih =>
    obtain ⟨iA, iB, iC⟩ := ih
    refine ⟨fun u hc hm q b M p i hd oh h1 h2 h3 => ?_, fun u hc hm q b M lv st p e J i h1 h2 h3 => ?_, fun u hc hm q b M lv st p e J i v h1 h2 h3 => ?_⟩
    · have hp := (fr_p hP.2.1 h1.2.2.2.1).1
      have hn := hP.2.1.1
      exact step_A hP h1 (fun hc2 hm2 p3 i hd oh hS k1 k2 => iA _ _ _ _ _ _ _ _ _ _ hS (by omega) (by omega)) (fun hc2 hm2 q2 b2 M2 lv st p3 e J i2 v2 hS k1 => iC _ _ _ _ _ _ _ _ _ _ _ _ _ hS (by omega) (by omega))
    · have hp := h1.2.2.1.2.2.1
      have hn := (pu_tx (q := q) hP).1.1
      exact step_B hP h1 (fun hc2 hm2 j bj Mj p3 i hd oh hS k1 => iA _ _ _ _ _ _ _ _ _ _ hS (by omega) (by omega)) (fun hc2 hm2 q2 b2 M2 lv st p3 e J i2 hS k1 => iB _ _ _ _ _ _ _ _ _ _ _ _ hS (by omega) (by omega)) (fun hc2 hm2 q2 b2 M2 lv st p3 e J i2 v2 hS k1 => iC _ _ _ _ _ _ _ _ _ _ _ _ _ hS (by omega) (by omega))
    · have hp := h1.2.2.1.2.2.1
      have hn := (pu_tx (q := q) hP).1.1
      by_cases c : ¬ st = [] ∨ isOp (gT g (fl g q) p) = true
      · exact step_C1 hP h1 c (fun hc2 hm2 j bj Mj p3 i hd oh hS k1 => iA _ _ _ _ _ _ _ _ _ _ hS (by omega) (by omega)) (fun hc2 hm2 q2 b2 M2 lv st p3 e J i2 hS k1 => iB _ _ _ _ _ _ _ _ _ _ _ _ hS (by omega) (by omega)) (fun hc2 hm2 q2 b2 M2 lv st p3 e J i2 v2 hS k1 => iC _ _ _ _ _ _ _ _ _ _ _ _ _ hS (by omega) (by omega))
      · have hst : st = [] := Decidable.not_not.mp (fun z => c (Or.inl z))
        subst hst
        exact step_E hP h1 (by omega) (fun z => c (Or.inr z)) (fun u2 hc2 hm2 j bj Mj p3 i hd oh k0 k00 hS k1 => iA _ _ _ _ _ _ _ _ _ _ hS (by omega) (by omega)) (fun hc2 hm2 q2 b2 M2 lv st p3 e J i2 v2 hS k1 => iC _ _ _ _ _ _ _ _ _ _ _ _ _ hS (by omega) (by omega))
end RQ

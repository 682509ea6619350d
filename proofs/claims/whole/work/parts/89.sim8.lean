-- THE RUN: a frame goes
section RJ
variable {xs : Nat → Int32} {L d : Nat} {g : CTX} {hc hm hc2 hm2 : Hp} {q b M N : Nat} {u : Nat} {v : Int32}
theorem s_ret (hP : PU g) (hE : ESt g u hc hm) (hT : TP g hc hm q b M) (ha : fl g q = false) {i : Nat} (h2 : hI hc (g.u + (2 + 2 * q)) 2 = nI i) (hi : i < g.z) (hw : g.I i = iw 0 0) (h7 : hI hc g.u 7 = nI (b + 1)) (hv : hI hc (g.u + 14) b = v) (h27 : hI hm 49 27 = 4) (h28 : hI hm 49 28 = v) (ih : ∀ hc2 hm2 q2 b2 M2 lv st p e J i2 v2, StC g u hc2 hm2 q2 b2 M2 lv st p e J i2 v2 → M2 + (353 - p) ≤ M → DNE xs L d g u hc2 hm2 (8 * (M2 + (353 - p)))) : DNE xs L d g u hc hm (8 * M + 1) := by
  obtain ⟨t1, t2, t3, t4, t5, t6, t7, t8⟩ := id hT
  obtain ⟨e1, e2, -⟩ := gz_f ha
  have hO := t2.1
  have hm2 := pu_m hP
  have hb := (low_b q b M t6).1
  have h1M : MI g.u (sI hc (g.u + (2 + 2 * q)) 2 (nI (i + 1))) := t1.1
  have hpop : hI (sI hc (g.u + (2 + 2 * q)) 2 (nI (i + 1))) (g.u + 14) b = v := by rw [hI_ne (by omega)]; exact hv
  cases q with
  | zero =>
    have hm0 : g.m = 0 := by
      have : ¬ (g.m = 1 ∧ 0 = 0) := of_decide_eq_false ha
      omega
    have hr := r_leave0 (xs := xs) (L := L) (d := d) (v := v) (h := sI (sI hc (g.u + (2 + 2 * 0)) 2 (nI (i + 1))) g.u 7 (nI b)) h1M (by rw [hI_ne (by omega), hI_ne (by omega)]; exact t4)
    have hcs : CS xs L (d + 3) g.u hc 0 (sI (sI (sI (sI (sI hc (g.u + (2 + 2 * 0)) 2 (nI (i + 1))) g.u 7 (nI b)) g.u 6 (nI 0)) g.u 4 2) g.u 5 v) := cs_mk (op := 0) (k := 0) t1 t3 t4 fl_m t7.1 h2 (by rw [e1]; exact hi) (by rw [e2]; exact hw) (by decide) (by decide) (x_return (d := d) (v := 0) (n := b) h1M (by rw [hI_ne (by omega)]; exact h7) (by omega) (Or.inl rfl) rfl (by rw [hpop]; exact hr))
    have hpx := p_ret0 (xs := xs) (L := L) (d := d + 3) hO hm2 t5 h27
    refine ⟨1, _, _, 2, u, by omega, Or.inl hcs, hpx, ud_sI (ud_uc (uc_u (uc_u (uc_u (uc_f (by decide) uc_rfl))))) (Or.inr ⟨rfl, rfl, by decide⟩), um_sI (um_sI um_rfl (by unfold OwM; omega)) (by unfold OwM; omega), by omega, by omega, es_same hE ?_ (fun k => ?_) ?_ ?_ (fun k => ?_) ?_, Or.inr (Or.inl ⟨rfl, ?_, ?_, ?_⟩)⟩
    · rw [hI_ne (by omega), hI_ne (by omega), hI_ne (by omega), hI_ne (by omega), hI_ne (by omega)]
    · rw [hI_ne (by omega), hI_ne (by omega), hI_ne (by omega), hI_ne (by omega), hI_ne (by omega)]
    · rw [hI_ne (by omega), hI_ne (by omega), hI_ne (by omega), hI_ne (by omega), hI_ne (by omega)]
    · rw [hI_ne (by omega), hI_ne (by omega)]
    · rw [hI_ne (by omega), hI_ne (by omega)]
    · rw [hI_ne (by omega), hI_ne (by omega)]
    · rw [hI_ne (by omega), hI_is]
    · rw [hI_ne (by omega), hI_ne (by omega), hI_is]; rfl
    · rw [hI_is, hI_ne (by omega), hI_ne (by omega)]; exact h28.symm
  | succ q =>
    obtain ⟨bq, lv, st, p, e, J, i2, M', a1, a2, a3, a4, a5, a6⟩ := t6
    have hr := r_leave (xs := xs) (L := L) (d := d) (v := v) (t := q) (n := b) (h := sI (sI hc (g.u + (2 + 2 * (q + 1))) 2 (nI (i + 1))) g.u 7 (nI b)) h1M (by rw [hI_ne (by omega), hI_ne (by omega)]; exact t4) hI_is (by omega) (by omega)
    have hcs : CS xs L (d + 3) g.u hc 1 (sI (sI (sI (sI (sI hc (g.u + (2 + 2 * (q + 1))) 2 (nI (i + 1))) g.u 7 (nI b)) g.u 6 (nI (q + 1))) (g.u + 14) b v) g.u 7 (nI (b + 1))) := cs_mk (op := 0) (k := 0) t1 t3 t4 fl_m t7.1 h2 (by rw [e1]; exact hi) (by rw [e2]; exact hw) (by decide) (by decide) (x_return (d := d) (v := 1) (n := b) h1M (by rw [hI_ne (by omega)]; exact h7) (by omega) (Or.inr rfl) rfl (by rw [hpop]; exact hr))
    have u1 : UC g.u (q + 1) b hc (sI (sI (sI (sI (sI hc (g.u + (2 + 2 * (q + 1))) 2 (nI (i + 1))) g.u 7 (nI b)) g.u 6 (nI (q + 1))) (g.u + 14) b v) g.u 7 (nI (b + 1))) := uc_u (uc_v (Nat.le_refl _) (uc_u (uc_u (uc_f t3 uc_rfl))))
    have u2 : UM g.m (q + 1) hm (sI (sI hm 62 g.m (nI (q + 1))) 49 27 2) := um_sI (um_sI um_rfl (by unfold OwM; omega)) (by unfold OwM; omega)
    have u3 : UC g.u q bq hc (sI (sI (sI (sI (sI hc (g.u + (2 + 2 * (q + 1))) 2 (nI (i + 1))) g.u 7 (nI b)) g.u 6 (nI (q + 1))) (g.u + 14) b v) g.u 7 (nI (b + 1))) := ⟨u1.1, u1.2.1, u1.2.2.1, fun o k => (u1.2.2.2.1 o k).imp id (fun ⟨z1, j, z2, z3, z4⟩ => ⟨z1, j, by omega, z3, z4⟩), fun o k => (u1.2.2.2.2 o k).imp id (fun z => owc_le z (by omega) (by omega))⟩
    have u4 : UM g.m q hm (sI (sI hm 62 g.m (nI (q + 1))) 49 27 2) := ⟨u2.1, u2.2.1, u2.2.2.1, u2.2.2.2.1, fun o k => (u2.2.2.2.2 o k).imp id (fun z => owm_le z (by omega))⟩
    have hx := xf_uc (g := g) (by omega) (by omega) (by omega) u1 u2 a3
    have hC : StC g u (sI (sI (sI (sI (sI hc (g.u + (2 + 2 * (q + 1))) 2 (nI (i + 1))) g.u 7 (nI b)) g.u 6 (nI (q + 1))) (g.u + 14) b v) g.u 7 (nI (b + 1))) (sI (sI hm 62 g.m (nI (q + 1))) 49 27 2) q bq M' lv st p e J (i2 + 1) v := by
      refine ⟨⟨sc_uc hP u1 t1, sm_um u2 t2, by omega, ?_, ?_, low_uc q bq M' _ _ _ _ (by omega) u3 u4 a1, fv_uc (by omega) (by omega) u1 u2 a2, hx.2.2.2.2.2.2.2.2.2⟩, es_same hE ?_ (fun k => ?_) ?_ ?_ (fun k => ?_) ?_, hx, ?_, ?_, ?_, ?_, ?_⟩
      · rw [hI_ne (by omega), hI_ne (by omega), hI_is]
      · rw [hI_ne (by omega), hI_is]
      · rw [hI_ne (by omega), hI_ne (by omega), hI_ne (by omega), hI_ne (by omega), hI_ne (by omega)]
      · rw [hI_ne (by omega), hI_ne (by omega), hI_ne (by omega), hI_ne (by omega), hI_ne (by omega)]
      · rw [hI_ne (by omega), hI_ne (by omega), hI_ne (by omega), hI_ne (by omega), hI_ne (by omega)]
      · rw [hI_ne (by omega), hI_ne (by omega)]
      · rw [hI_ne (by omega), hI_ne (by omega)]
      · rw [hI_ne (by omega), hI_ne (by omega)]
      · exact af_same (by omega) (af_uc (by omega) (by omega) u1 u2 a4) rfl rfl
      · rw [hI_is, a5]
      · rw [← a5, hI_ne (by omega), hI_is]
      · rw [hI_ne (by omega), hI_ne (by omega)]; exact h28
      · rw [hI_is]
    exact dne_1 (u2 := u) (M2 := 8 * (M' + (353 - p))) hcs (mi_uc u1 t1.1) (uc_w u1) (um_w u2) (fun res hp2 => p_ret (d := d + 3) hO hm2 t5 t3 (by omega) h27 hp2) ⟨Nat.le_refl _, by omega⟩ (by omega) (ih _ _ _ _ _ _ _ _ _ _ _ _ hC (by omega))
end RJ

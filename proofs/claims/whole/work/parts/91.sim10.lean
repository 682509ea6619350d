-- THE RUN: throwing, calling
section RL
variable {xs : Nat → Int32} {L d : Nat} {g : CTX} {hc hm hc2 hm2 : Hp} {q b M N : Nat} {u : Nat} {v what : Int32}
theorem s_throw (hP : PU g) {hcx hmx : Hp} {i e ie : Nat} (hT : TP g hcx hmx q b M) (hE : ESt g u hcx hmx) (hA : AF g hcx hmx q i e ie) (hi : i ≤ ie) (h2 : hI hcx (g.u + (2 + 2 * q)) 2 = nI (i + 1)) (h27 : hI hmx 49 27 = 3) (h28 : hI hmx 49 28 = what) (huc : UC g.u q b hc hcx) (hum : UM g.m q hm hmx) (hcs : ∀ on hc2, on = 0 ∨ on = 1 → (∀ d2, Rn xs L (d2 + 1) 17 [.inr (some g.u), .inl what] hcx (some (.inl on), hc2)) → CS xs L (d + 3) g.u hc on hc2) (hturn : ∀ res, PX xs L (d + 4) g.m hmx res → PX xs L (d + 4) g.m hm res) (hN : M + 200 ≤ N) (ihA : ∀ hc2 hm2 j bj Mj p i hd oh, StA g u hc2 hm2 j bj Mj p i hd oh → Mj + 200 ≤ N → DNE xs L d g u hc2 hm2 (8 * (Mj + (153 - p)))) : DNE xs L d g u hc hm (8 * N - 1) := by
  obtain ⟨t1, t2, t3, t4, t5, t6, t7, t8⟩ := id hT
  obtain ⟨pf, pl, bf, Mf, hf, of, h1⟩ := ti_low hP t1 q b M (by omega) t6
  obtain ⟨pl0, hd0, oh0, h3⟩ := ti_af hP t1 t3 hA hi t6 t7 h2 t8
  obtain ⟨on, hc2, r1, r3⟩ := s_thr (xs := xs) (L := L) (d := d) (N := N) hP hE t1 t2 t3 t4 t5 h27 h28 (fun j => if j = q then i else pf j) (fun j => if j = q then pl0 else pl j) (fun j => if j = q then b else bf j) (fun j => if j = q then M else Mf j) (fun j => if j = q then hd0 else hf j) (fun j => if j = q then oh0 else of j) (fun j hj => by
    by_cases c : j = q
    · subst c
      simp only [if_true]
      exact ⟨h3, hN⟩
    · simp only [c, if_false]
      obtain ⟨h4, h5⟩ := h1 j (by omega)
      exact ⟨h4, by omega⟩) ihA
  rcases r3 with ⟨rfl, r2, r3⟩ | ⟨rfl, r2, hm3, r4, r5, r6, r7⟩
  · exact dne_1 (u2 := u) (M2 := 8 * N - 8) (hcs 1 hc2 (Or.inr rfl) r1) (mi_uc r2 t1.1) (uc_trans (uc_w huc) r2 (Nat.le_refl _) (Nat.le_refl _)) (um_w hum) hturn ⟨Nat.le_refl _, by omega⟩ (by omega) r3
  · exact ⟨1, hc2, hm3, 3, u, by omega, Or.inl (hcs 0 hc2 (Or.inl rfl) r1), hturn _ r4, ud_tr (uc_w huc) r2, um_trans (um_w hum) r5 (Nat.le_refl _), by omega, by omega, r6, Or.inr (Or.inr ⟨rfl, r7⟩)⟩
theorem s_call (hP : PU g) {hm1 : Hp} {lv : LV} {st : List LV} {p p2 e i f k fr : Nat} {J : List Int32} (hT : TP g hc hm q b M) (hE : ESt g u hc hm) (hum : UM g.m q hm hm1) (e62 : hI hm1 62 g.m = hI hm 62 g.m) (e40 : hI hm1 49 40 = hI hm 49 40) (e78 : ∀ k, hI hm1 78 k = hI hm 78 k) (e29 : hI hm1 49 29 = hI hm 49 29) (hV : FV g (sI hc (g.u + (2 + 2 * q)) 2 (nI (i + 1))) hm1 q) (hX : XF g (sI hc (g.u + (2 + 2 * q)) 2 (nI (i + 1))) hm1 q b false p2 lv st e J (i + 1)) (hA : AF g (sI hc (g.u + (2 + 2 * q)) 2 (nI (i + 1))) hm1 q i e (i + 1 + J.length)) (h2 : hI hc (g.u + (2 + 2 * q)) 2 = nI i) (hw : gI g (fl g q) i = iw 4 (nI f)) (hf : f < 4) (hk : g.ar f = nI k) (hk3 : k ≤ 3) (h7 : hI hc g.u 7 = nI (b + off (lv :: st) + k)) (hag : ∀ a, a < k → hI hc (g.u + 14) (b + off (lv :: st) + a) = hI hm1 72 (fr + a)) (hfr : fr + k ≤ 216) (hturn : ∀ hm2, Rn xs L (d + 3) 92 [.inr (some 49), .inl (nI g.m), .inl (nI f), .inl (nI fr)] hm1 (none, hm2) → ∀ res, PX xs L (d + 4) g.m hm2 res → PX xs L (d + 4) g.m hm res) (hpp : p < p2) (hp2 : p2 ≤ 152)
    (ihA : ∀ hc2 hm2 j bj Mj p3 i hd oh, StA g u hc2 hm2 j bj Mj p3 i hd oh → Mj + 200 ≤ M + (353 - p) → DNE xs L d g u hc2 hm2 (8 * (Mj + (153 - p3)))) (ihC : ∀ hc2 hm2 q2 b2 M2 lv st p3 e J i2 v2, StC g u hc2 hm2 q2 b2 M2 lv st p3 e J i2 v2 → M2 + (353 - p3) < M + (353 - p) → DNE xs L d g u hc2 hm2 (8 * (M2 + (353 - p3)))) : DNE xs L d g u hc hm (8 * (M + (353 - p)) - 1) := by
  obtain ⟨t1, t2, t3, t4, t5, t6, t7, t8⟩ := id hT
  have hm2 := pu_m hP
  have hu1 : UC g.u q b hc (sI hc (g.u + (2 + 2 * q)) 2 (nI (i + 1))) := uc_f t3 uc_rfl
  have hEx : ESt g u (sI hc (g.u + (2 + 2 * q)) 2 (nI (i + 1))) hm1 := es_same hE (by rw [hI_ne (by omega)]) (fun k => by rw [hI_ne (by omega)]) (by rw [hI_ne (by omega)]) e40 e78 e29
  have hTx : TP g (sI hc (g.u + (2 + 2 * q)) 2 (nI (i + 1))) hm1 q b M := tp_mk hP hT hu1 hum (by rw [hI_ne (by omega)]) e62 hV (by rw [hI_ne (by omega)])
  have hz := af_z hA
  have hht := tp_x hP hT hX.2.2.2.2.1 hX.2.2.2.1
  have hne : ¬ g.ar f = -1 := by rw [hk]; exact nI_m1 (by omega)
  obtain ⟨p1, p2', -⟩ := hP.2.2.2.2.2.2.1 f hf hne
  obtain ⟨m56, m57⟩ := hTx.2.1.2.2.1 f hf hne
  by_cases c : q + 1 < 6
  · have hL : LOW g (sI hc (g.u + (2 + 2 * q)) 2 (nI (i + 1))) hm1 (q + 1) (b + off (lv :: st)) (M + (353 - p2)) := ⟨b, lv, st, p2, e, J, i, M, hTx.2.2.2.2.2.1, hV, hX, hA, rfl, rfl⟩
    obtain ⟨w1, w2, w3⟩ := n_frame (xs := xs) (L := L) (d := d) (fr := fr) hP hEx hTx.1 hTx.2.1 hL c hf hk hk3 (fun a ha => by rw [hI_ne (by omega)]; exact hag a ha) (fun hc2 hm2 q2 b2 M2 lv st p3 e J i2 v2 hC hM => ihC _ _ _ _ _ _ _ _ _ _ _ _ hC (by omega))
    have hids := pu_ids hP
    have hu : g.u = 12 ∨ g.u = 29 := by rcases hP.1 with e | e <;> omega
    have hen := r_enter (xs := xs) (L := L) (d := d) (h := sI hc (g.u + (2 + 2 * q)) 2 (nI (i + 1))) (n := b + off (lv :: st) + k) (f := f) (k := k) (t := q + 1) hTx.1.1 hTx.1.2.1 hTx.1.2.2.1 hTx.2.2.2.1 c (by rw [hI_ne (by omega)]; exact h7) (by omega) hf (by rw [hTx.1.2.2.2.2.2.2.2 f hf]; exact hk) hk3 (by omega) (by omega) (by omega) (by omega)
    rw [hTx.1.2.2.2.2.2.2.1 f hf] at hen
    have hcs := cs_mk (xs := xs) (L := L) (d := d) (op := 4) (k := f) (on := 1) t1 t3 t4 fl_m t7.1 h2 (by omega) hw (by decide) (by omega) (x_call (d := d) (t := q + 1) t1.1.1 hTx.2.2.2.1 c hen)
    have hmc := m_call (xs := xs) (L := L) (d := d) (q := q + 1) (f := f) (b := g.bd f) (k := k) (fr := fr) hTx.2.1.1 hm2 hTx.2.2.2.2.1 c hf m56 (by omega) (by rw [m57]; exact hk) hk3 hfr
    have w4 : UC g.u q b (sI hc (g.u + (2 + 2 * q)) 2 (nI (i + 1))) (entH g.u (q + 1) f (b + off (lv :: st) + k) k g.c (g.S f) (sI hc (g.u + (2 + 2 * q)) 2 (nI (i + 1)))) := ⟨w2.1, w2.2.1, w2.2.2.1, fun o k => (w2.2.2.2.1 o k).imp id (fun ⟨z1, j, z2, z3, z4⟩ => ⟨z1, j, by omega, z3, z4⟩), fun o k => (w2.2.2.2.2 o k).imp id (fun z => owc_le z (by omega) (by omega))⟩
    exact dne_1 (u2 := u) (M2 := 8 * (M + (353 - p2)) + 4) hcs (mi_uc w2 hTx.1.1) (uc_w (uc_trans hu1 w4 (Nat.le_refl _) (Nat.le_refl _))) (um_trans (um_w hum) (um_w w3) (Nat.le_refl _)) (hturn _ hmc) ⟨Nat.le_refl _, by omega⟩ (by omega) w1
  · have hq5 : q = 5 := by omega
    have hmc := m_call6 (xs := xs) (L := L) (d := d) (f := nI f) (fr := nI fr) hTx.2.1.1 hm2 (by rw [hTx.2.2.2.2.1, hq5])
    have hu3 : UM g.m q hm1 (sI (sI hm1 49 27 3) 49 28 1002) := um_sI (um_sI um_rfl (by unfold OwM; omega)) (by unfold OwM; omega)
    refine s_throw (hcx := sI hc (g.u + (2 + 2 * q)) 2 (nI (i + 1))) (hmx := sI (sI hm1 49 27 3) 49 28 1002) (i := i) (e := e) (ie := i + 1 + J.length) (what := 1002) hP (tp_mk hP hTx uc_rfl hu3 rfl ?_ (fv_same hV rfl (fun _ => rfl) (fun k _ => ?_) rfl ?_) rfl) (es_same hEx rfl (fun _ => rfl) rfl ?_ (fun k => ?_) ?_) (af_same (Nat.le_refl _) hA ?_ rfl) (by omega) hI_is ?_ hI_is hu1 (um_trans hum hu3 (Nat.le_refl _)) (fun on hc2 hon hr => ?_) (hturn _ hmc) (by omega) ihA
    · rw [hI_ne (by omega), hI_ne (by omega)]
    · rw [hI_ne (by omega), hI_ne (by omega)]
    · rw [hI_ne (by omega), hI_ne (by omega)]
    · rw [hI_ne (by omega), hI_ne (by omega)]
    · rw [hI_ne (by omega), hI_ne (by omega)]
    · rw [hI_ne (by omega), hI_ne (by omega)]
    · rw [hI_ne (by omega), hI_ne (by omega)]
    · rw [hI_ne (by omega), hI_is]
    · exact cs_mk (op := 4) (k := f) t1 t3 t4 fl_m t7.1 h2 (by omega) hw (by decide) (by omega) (x_call6 (d := d) (v := on) t1.1.1 (by rw [hTx.2.2.2.1, hq5]) hon rfl (hr (d + 1)))
end RL

-- THE RUN: terms
section RG
variable {xs : Nat → Int32} {L d : Nat} {g : CTX} {hc hm hc2 hm2 : Hp} {q b M : Nat} {u : Nat}
def opH (t l : Nat) (P : Nat) (by_ : Int32) (h : Hp) : Hp := sI (sI (sI (sI (sI h 64 t (nI P)) 67 t (nI l)) 69 (6 * t + l) 0) 70 (6 * t + l) by_) 71 (6 * t + l) 0
/-- a bracket is opened -/
theorem b_open (hP : PU g) {lv : LV} {st : List LV} {p e i p2 by_ : Nat} {J : List Int32} (hB : StB g u hc hm q b M lv st p e J i) (hl : st.length < 5) (hby : by_ = 1 ∨ ∃ f k, f < 4 ∧ by_ = 2 + f ∧ g.ar f = nI k ∧ k ≤ 3 ∧ 0 < k) (hs : sm g.ar (gT g (fl g q)) p2 true (by_, 0, 0) (lv :: st) = some (e, J)) (hp2 : p2 ≤ gn g (fl g q)) : StB g u hc (opH (6 * g.m + q) (st.length + 1) (gb g (fl g q) + p2) (nI by_) hm) q b M (by_, 0, 0) (lv :: st) p2 e J i ∧ UM g.m q hm (opH (6 * g.m + q) (st.length + 1) (gb g (fl g q) + p2) (nI by_) hm) := by
  obtain ⟨hT, hE, hX, hA, h7, h27⟩ := hB
  obtain ⟨x1, x2, x3, x4, x5, x6, x7, x8, x9, x10⟩ := hX
  have hq := hT.2.2.1
  have h2 : UM g.m q hm (opH (6 * g.m + q) (st.length + 1) (gb g (fl g q) + p2) (nI by_) hm) := by
    unfold opH
    exact um_sI (um_sI (um_sI (um_sI (um_sI um_rfl (by unfold OwM; omega)) (by unfold OwM; omega)) (by unfold OwM; omega)) (by unfold OwM; omega)) (by unfold OwM; omega)
  unfold opH at h2 ⊢
  have ho : off ((by_, 0, 0) :: lv :: st) = off (lv :: st) := by show off (lv :: st) + 0 + 0 = _; omega
  refine ⟨⟨tp_mk hP hT uc_rfl h2 rfl ?_ (fv_same hT.2.2.2.2.2.2.1 rfl (fun k => rfl) (fun k _ => ?_) rfl ?_) rfl, es_same hE rfl (fun k => rfl) rfl ?_ (fun k => ?_) ?_, ⟨hs, x2, hp2, hl, ⟨Or.inl rfl, Or.inr ⟨?_, x5⟩⟩, ⟨?_, ?_, ?_, fun a ha => absurd ha (Nat.not_lt_zero _), fun z => absurd rfl z, lr_congr _ (fun k hk => rfl) (fun o k ho hk => ?_) (fun k hk => ?_) (fun l hl => by have := wl_seen _ x5 l hl; omega) x6⟩, ?_, ?_, x9, x10⟩, af_same (Nat.le_refl _) hA ?_ rfl, by rw [ho]; exact h7, ?_⟩, h2⟩
  · rw [hI_ne (by omega), hI_ne (by omega), hI_ne (by omega), hI_ne (by omega), hI_ne (by omega)]
  · rw [hI_ne (by omega), hI_ne (by omega), hI_ne (by omega), hI_ne (by omega), hI_ne (by omega)]
  · rw [hI_ne (by omega), hI_ne (by omega), hI_ne (by omega), hI_ne (by omega), hI_ne (by omega)]
  · rw [hI_ne (by omega), hI_ne (by omega), hI_ne (by omega), hI_ne (by omega), hI_ne (by omega)]
  · rw [hI_ne (by omega), hI_ne (by omega), hI_ne (by omega), hI_ne (by omega), hI_ne (by omega)]
  · rw [hI_ne (by omega), hI_ne (by omega), hI_ne (by omega), hI_ne (by omega), hI_ne (by omega)]
  · rcases hby with e | ⟨f, k, k1, k2, k3, k4, k5⟩
    · exact Or.inl ⟨e, rfl⟩
    · exact Or.inr ⟨f, k, k1, k2, k3, k4, k5⟩
  · rw [List.length_cons, hI_ne (by omega), hI_is]
  · rw [List.length_cons, hI_is]; rfl
  · rw [List.length_cons, hI_ne (by omega), hI_ne (by omega), hI_is]
  · rw [List.length_cons] at hk
    rw [hI_ne (by omega), hI_ne (by omega), hI_ne (by omega), hI_ne (by omega), hI_ne (by omega)]
  · rw [hI_ne (by omega), hI_ne (by omega), hI_ne (by omega), hI_ne (by omega), hI_ne (by omega)]
  · rw [hI_ne (by omega), hI_ne (by omega), hI_ne (by omega), hI_ne (by omega), hI_is]
  · rw [List.length_cons, hI_ne (by omega), hI_ne (by omega), hI_ne (by omega), hI_is]
  · rw [hI_ne (by omega), hI_ne (by omega), hI_ne (by omega), hI_ne (by omega), hI_ne (by omega)]
  · rw [hI_ne (by omega), hI_ne (by omega), hI_ne (by omega), hI_ne (by omega), hI_ne (by omega)]; exact h27
theorem dv_sh {tx T : Nat → Int32} {P p : Nat} : ∀ j, (∀ i, i < j → tx (P + i) = T (p + i)) → dvI tx P j = dvI T p j := by
  intro j
  induction j with
  | zero => exact fun _ => rfl
  | succ j ih =>
    intro h
    show 10 * dvI tx P j + tx (P + j) - 48 = 10 * dvI T p j + T (p + j) - 48
    rw [ih (fun i hi => h i (by omega)), h j (by omega)]
theorem dg_ix {c : Int32} (h : isDg c) : ∃ a, a ≤ 9 ∧ c = nI (48 + a) := by
  obtain ⟨h1, h2⟩ := h
  obtain ⟨j, hj, rfl⟩ := nI_of2 (x := c) (M := 57) (n := 57) (by decide) (Int32.not_lt.mpr (Int32.le_trans (by decide) h1)) h2
  have h3 : 48 ≤ j := by
    rcases Nat.lt_or_ge j 48 with q | q
    · exact absurd h1 (nI_ge (b := 48) q (by decide))
    · exact q
  exact ⟨j - 48, by omega, by congr 1; omega⟩
theorem dv_n {T : Nat → Int32} {p : Nat} : ∀ j, j ≤ 3 → (∀ i, i < j → isDg (T (p + i))) → ∃ v, v < 10 ^ j ∧ dvI T p j = nI v := by
  intro j
  induction j with
  | zero => exact fun _ _ => ⟨0, by decide, rfl⟩
  | succ j ih =>
    intro hj h
    obtain ⟨v, h1, h2⟩ := ih (by omega) (fun i hi => h i (by omega))
    obtain ⟨a, h3, h4⟩ := dg_ix (h j (by omega))
    refine ⟨10 * v + a, by rw [Nat.pow_succ]; omega, ?_⟩
    show 10 * dvI T p j + T (p + j) - 48 = _
    rw [h2, h4, show (10 : Int32) = nI 10 from rfl, pk_mul, nI_add, show (48 : Int32) = nI 48 from rfl, pk_sub (by omega)]
    congr 1
    omega
theorem var_ix {c : Int32} (h1 : 97 ≤ c) (h2 : c ≤ 102) : ∃ a, a < 6 ∧ c = nI (97 + a) := by
  obtain ⟨j, hj, rfl⟩ := nI_of2 (x := c) (M := 102) (n := 102) (by decide) (Int32.not_lt.mpr (Int32.le_trans (by decide) h1)) h2
  have h3 : 97 ≤ j := by
    rcases Nat.lt_or_ge j 97 with q | q
    · exact absurd h1 (nI_ge (b := 97) q (by decide))
    · exact q
  exact ⟨j - 97, by omega, by congr 1; omega⟩
theorem pu_tx (hP : PU g) : TX (gT g (fl g q)) (gn g (fl g q)) ∧ gb g (fl g q) + 152 ≤ 6384 := by
  cases h : fl g q with
  | true => exact ⟨hP.2.2.1 (fl_m h), hP.2.2.2.2.2.2.2.1⟩
  | false => exact ⟨hP.2.1, (show 0 + 152 ≤ 6384 by decide)⟩
theorem tp_tx (hT : TP g hc hm q b M) {j : Nat} (hj : j < 152) : hI hm 51 (gb g (fl g q) + j) = gT g (fl g q) j := hT.2.1.2.1 (fl g q) fl_m j hj
/-- numbers and variables -/
theorem b_lit (hP : PU g) {lv : LV} {st : List LV} {p e i : Nat} {J : List Int32} (hB : StB g u hc hm q b M lv st p e J i) (hv : isDg (gT g (fl g q) p) ∨ (97 ≤ gT g (fl g q) p ∧ gT g (fl g q) p ≤ 102)) (ih : ∀ hc2 hm2 p2 J2 i2 v, StC g u hc2 hm2 q b M lv st p2 e J2 i2 v → p < p2 → p2 ≤ 152 → DNE xs L d g u hc2 hm2 (8 * (M + (353 - p2)))) : DNE xs L d g u hc hm (8 * (M + (353 - p))) := by
  obtain ⟨hT, hE, hX, hA, h7, h27⟩ := id hB
  obtain ⟨x1, x2, x3, x4, x5, x6, x7, x8, x9, x10⟩ := id hX
  obtain ⟨hTX, hb⟩ := pu_tx (q := q) hP
  have hn := hTX.1
  have hq := hT.2.2.1
  have hp : p < 152 := by omega
  have hm2 := pu_m hP
  have hO := hT.2.1.1
  have hht := tp_x hP hT x5 x4
  have hf2 := (hT.1.1.2.2.2.2.2.2.2.2.2.2.2.2 q hq).2.1
  rcases hv with hd | hd
  · have hd2 : 48 ≤ gT g (fl g q) p ∧ gT g (fl g q) p ≤ 57 := hd
    have hj0 : 0 < nd (gT g (fl g q)) 200 p := Nat.pos_of_ne_zero (fun e => nd_0.mp e hd2)
    have hjn := nd_in hTX x3
    rw [sm_dig hp hj0] at x1
    by_cases h3 : nd (gT g (fl g q)) 200 p ≤ 3
    · rw [if_pos h3] at x1
      obtain ⟨K, y1, y2⟩ := prep_some x1
      have y2 : J = iw 1 (dvI (gT g (fl g q)) p (nd (gT g (fl g q)) 200 p)) :: K := y2
      subst y2
      obtain ⟨v, v1, v2⟩ := dv_n (T := gT g (fl g q)) (p := p) (nd (gT g (fl g q)) 200 p) h3 (fun k hk => nd_dig 200 p k hk)
      have v3 : v < 1000 := by
        have : 10 ^ nd (gT g (fl g q)) 200 p ≤ 10 ^ 3 := Nat.pow_le_pow_right (by decide) h3
        omega
      obtain ⟨z1, z2, z3⟩ := b_val (v := nI v) hP hB y1 hjn
      have hr := m_rt_dig (xs := xs) (L := L) (d := d + 2) (h := hm) (t := 6 * g.m + q) (p := gb g (fl g q) + p) (n := nd (gT g (fl g q)) 200 p) (mm := nI g.m) (tx := hI hm 51) hO (by omega) (fun _ _ => rfl) x7 hj0 (by omega) (fun j hj => by rw [Nat.add_assoc, tp_tx hT (by omega)]; exact nd_dig 200 p j hj) (by rw [Nat.add_assoc, tp_tx hT (by omega)]; exact nd_no hTX x3)
      rw [dv_sh (T := gT g (fl g q)) (p := p) _ (fun j hj => by rw [Nat.add_assoc, tp_tx hT (by omega)]), v2, Nat.add_assoc (gb g (fl g q)) p] at hr
      refine dne_1 (M2 := 8 * (M + (353 - (p + nd (gT g (fl g q)) 200 p)))) ?_ (mi_uc z2 hT.1.1) (uc_w z2) (um_w z3) (fun res hp2 => p_term hO hm2 hT.2.2.2.2.1 hq h27 hr hp2) ⟨Nat.le_refl _, by omega⟩ (by omega) (ih _ _ _ _ _ _ z1 (by omega) (by omega))
      exact cs_mk (op := 1) (k := v) hT.1 hq hT.2.2.2.1 fl_m hT.2.2.2.2.2.2.1.1 x9 (by have := af_z hA; rw [List.length_cons] at this; omega) (by rw [← v2]; exact x2.1) (by decide) (by omega) (x_num (h := sI hc (g.u + (2 + 2 * q)) 2 (nI (i + 1))) hT.1.1 (by rw [hI_ne (by omega)]; exact h7) (by omega))
    · rw [if_neg h3] at x1; cases x1
  · rw [sm_var hp hd] at x1
    obtain ⟨K, y1, y2⟩ := prep_some x1
    have y2 : J = iw 2 (gT g (fl g q) p - 97) :: K := y2
    subst y2
    obtain ⟨a, a1, a2⟩ := var_ix hd.1 hd.2
    have hpn : p < gn g (fl g q) := tx_lt hTX hp (fun e => by rw [e] at hd; exact absurd hd (by decide))
    obtain ⟨z1, z2, z3⟩ := b_val (v := hI hm 66 (6 * (6 * g.m + q) + a)) hP hB y1 hpn
    have hr := m_rt_var (xs := xs) (L := L) (d := d + 2) (h := hm) (t := 6 * g.m + q) (p := gb g (fl g q) + p) (v := a) (mm := nI g.m) hO (by omega) x7 (by omega) (by rw [tp_tx hT hp]; exact a2) a1
    refine dne_1 (M2 := 8 * (M + (353 - (p + 1)))) ?_ (mi_uc z2 hT.1.1) (uc_w z2) (um_w z3) (fun res hp2 => p_term hO hm2 hT.2.2.2.2.1 hq h27 hr hp2) ⟨Nat.le_refl _, by omega⟩ (by omega) (ih _ _ _ _ _ _ z1 (by omega) (by omega))
    have e3 : gT g (fl g q) p - 97 = nI a := by rw [a2, show (97 : Int32) = nI 97 from rfl, pk_sub (by omega)]; congr 1; omega
    have hx := x_var (xs := xs) (L := L) (d := d) (h := sI hc (g.u + (2 + 2 * q)) 2 (nI (i + 1))) (t := q) (k := a) (n := b + off (lv :: st)) hT.1.1 (by rw [hI_ne (by omega)]; exact h7) (by omega) hq a1
    rw [hI_ne (by omega), hT.2.2.2.2.2.2.1.2.1 a a1] at hx
    exact cs_mk (op := 2) (k := a) hT.1 hq hT.2.2.2.1 fl_m hT.2.2.2.2.2.2.1.1 x9 (by have := af_z hA; rw [List.length_cons] at this; omega) (by rw [← e3]; exact x2.1) (by decide) (by omega) hx
end RG

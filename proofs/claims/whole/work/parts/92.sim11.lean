-- THE RUN: a term is wanted
section RM
variable {xs : Nat → Int32} {L d : Nat} {g : CTX} {hc hm hc2 hm2 : Hp} {q b M N : Nat} {u : Nat} {v : Int32}
theorem step_B (hP : PU g) {lv : LV} {st : List LV} {p e i : Nat} {J : List Int32} (hB : StB g u hc hm q b M lv st p e J i)
    (ihA : ∀ hc2 hm2 j bj Mj p3 i hd oh, StA g u hc2 hm2 j bj Mj p3 i hd oh → Mj + 200 ≤ M + (353 - p) → DNE xs L d g u hc2 hm2 (8 * (Mj + (153 - p3))))
    (ihB : ∀ hc2 hm2 q2 b2 M2 lv st p3 e J i2, StB g u hc2 hm2 q2 b2 M2 lv st p3 e J i2 → M2 + (353 - p3) < M + (353 - p) → DNE xs L d g u hc2 hm2 (8 * (M2 + (353 - p3))))
    (ihC : ∀ hc2 hm2 q2 b2 M2 lv st p3 e J i2 v2, StC g u hc2 hm2 q2 b2 M2 lv st p3 e J i2 v2 → M2 + (353 - p3) < M + (353 - p) → DNE xs L d g u hc2 hm2 (8 * (M2 + (353 - p3)))) : DNE xs L d g u hc hm (8 * (M + (353 - p))) := by
  obtain ⟨hT, hE, hX, hA, h7, h27⟩ := id hB
  obtain ⟨x1, x2, x3, x4, x5, x6, x7, x8, x9, x10⟩ := id hX
  obtain ⟨hTX, hb⟩ := pu_tx (q := q) hP
  have hn := hTX.1
  have hq := hT.2.2.1
  have hp : p < 152 := by omega
  have hm2 := pu_m hP
  have hO := hT.2.1.1
  by_cases c1 : isDg (gT g (fl g q) p) ∨ (97 ≤ gT g (fl g q) p ∧ gT g (fl g q) p ≤ 102)
  · exact b_lit hP hB c1 (fun hc2 hm2 p2 J2 i2 v hC h1 h2 => ihC _ _ _ _ _ _ _ _ _ _ _ _ hC (by omega))
  have h0 : ¬ (48 ≤ gT g (fl g q) p ∧ gT g (fl g q) p ≤ 57) := fun z => c1 (Or.inl z)
  have hv : ¬ (97 ≤ gT g (fl g q) p ∧ gT g (fl g q) p ≤ 102) := fun z => c1 (Or.inr z)
  by_cases h5 : 5 ≤ st.length
  · rw [sm_5 hp h0 hv h5] at x1; cases x1
  have h5 : st.length < 5 := by omega
  have e67 : hI hm 67 (6 * g.m + q) = nI (st.length + 1) - 1 := by rw [nI_pred]; exact x8
  by_cases h40 : gT g (fl g q) p = 40
  · rw [sm_open hp h40 h5] at x1
    have hpn : p < gn g (fl g q) := tx_lt hTX hp (by rw [h40]; decide)
    obtain ⟨z1, z2⟩ := b_open (by_ := 1) hP hB h5 (Or.inl rfl) x1 hpn
    have hr := m_rt_open (xs := xs) (L := L) (d := d + 2) (h := hm) (t := 6 * g.m + q) (p := gb g (fl g q) + p) (l := st.length + 1) (mm := nI g.m) hO (by omega) x7 (by omega) (by rw [tp_tx hT hp]; exact h40) e67 (by omega)
    exact dne_0 (u2 := u) (M2 := 8 * (M + (353 - (p + 1)))) (um_w z2) (fun res hp2 => p_term (d := d + 3) hO hm2 hT.2.2.2.2.1 hq h27 hr hp2) ⟨Nat.le_refl _, by omega⟩ (by omega) (ihB _ _ _ _ _ _ _ _ _ _ _ z1 (by omega))
  by_cases hf : 65 ≤ gT g (fl g q) p ∧ gT g (fl g q) p ≤ 68
  · obtain ⟨f, hf4, hfc⟩ := fun_ix hf.1 (Int32.lt_of_le_of_lt hf.2 (by decide))
    have hpn : p < gn g (fl g q) := tx_lt hTX hp (fun e => by rw [e] at hf; exact absurd hf (by decide))
    rw [sm_fun hp hf4 hfc h5] at x1
    by_cases c2 : g.ar f = -1 ∨ ¬ gT g (fl g q) (p + 1) = 40
    · rw [if_pos c2] at x1; cases x1
    rw [if_neg c2] at x1
    have c40 : gT g (fl g q) (p + 1) = 40 := Decidable.not_not.mp (fun z => c2 (Or.inr z))
    have hpn2 : p + 1 < gn g (fl g q) := tx_lt hTX (by omega) (by rw [c40]; decide)
    have hcp : hI hm 51 (gb g (fl g q) + p) = nI (65 + f) := by rw [tp_tx hT hp]; exact hfc
    have hcp2 : hI hm 51 (gb g (fl g q) + p + 2) = gT g (fl g q) (p + 2) := by rw [Nat.add_assoc, tp_tx hT (by omega)]
    obtain ⟨k, hk3, hk⟩ := (hP.2.2.2.2.2.1 f hf4).resolve_left (fun z => c2 (Or.inl z))
    by_cases c0 : g.ar f = 0
    · rw [if_pos c0] at x1
      by_cases c41 : gT g (fl g q) (p + 2) = 41
      · rw [if_pos c41] at x1
        have hpn3 : p + 2 < gn g (fl g q) := tx_lt hTX (by omega) (by rw [c41]; decide)
        obtain ⟨K, y1, y2⟩ := prep_some x1
        have y2 : J = iw 4 (nI f) :: K := y2
        subst y2
        have hl : (iw 4 (nI f) :: K).length = K.length + 1 := rfl
        have hk0 : g.ar f = nI 0 := c0
        have hum : UM g.m q hm (sI hm 64 (6 * g.m + q) (nI (gb g (fl g q) + p + 3))) := um_sI um_rfl (by unfold OwM; omega)
        refine dne_le (M := 8 * (M + (353 - p)) - 1) (s_call (hm1 := sI hm 64 (6 * g.m + q) (nI (gb g (fl g q) + p + 3))) (lv := lv) (st := st) (p2 := p + 3) (e := e) (i := i) (f := f) (k := 0) (fr := 0) (J := K) hP hT hE hum (by rw [hI_ne (by omega)]) (by rw [hI_ne (by omega)]) (fun k => by rw [hI_ne (by omega)]) (by rw [hI_ne (by omega)]) (fv_same hT.2.2.2.2.2.2.1 rfl (fun k => by rw [hI_ne (by omega)]) (fun k _ => by rw [hI_ne (by omega)]) (by rw [hI_ne (by omega)]) (by rw [hI_ne (by omega)])) ⟨y1, x2.2, by omega, x4, x5, lr_congr _ (fun k _ => by rw [hI_ne (by omega)]) (fun o k ho _ => by rw [hI_ne (by omega)]) (fun k _ => by rw [hI_ne (by omega)]) (fun l hl => by have := wl_seen _ x5 l hl; omega) x6, by rw [hI_is, Nat.add_assoc], by rw [hI_ne (by omega)]; exact x8, hI_is, fun z => by rw [hI_ne (by omega)]; exact x10 z⟩ ?_ x9 x2.1 hf4 hk0 (by omega) h7 (fun a ha => absurd ha (Nat.not_lt_zero _)) (by omega) (fun hm2' hr res hp2 => ?_) (by omega) (by omega) ihA ihC) (by omega)
        · rw [show i + 1 + K.length = i + (iw 4 (nI f) :: K).length by rw [hl]; omega]
          exact af_same (Nat.le_refl _) hA (by rw [hI_ne (by omega)]) (by rw [hI_ne (by omega)])
        · exact p_term (d := d + 3) hO hm2 hT.2.2.2.2.1 hq h27 (m_rt_call (d := d) hO (by omega) x7 (by omega) hcp hf4 (by rw [hcp2]; exact c41) hr) hp2
      · rw [if_neg c41] at x1; cases x1
    · rw [if_neg c0] at x1
      have hk0 : 0 < k := Nat.pos_of_ne_zero (fun z => c0 (by rw [hk, z]; rfl))
      obtain ⟨z1, z2⟩ := b_open (by_ := 2 + f) hP hB h5 (Or.inr ⟨f, k, hf4, rfl, hk, hk3, hk0⟩) x1 hpn2
      have c41 : ¬ gT g (fl g q) (p + 2) = 41 := fun z => by
        rw [sm_no (by omega) (by rw [z]; decide) (by rw [z]; decide) (by rw [z]; decide) (by rw [z]; decide)] at x1
        cases x1
      have hr := m_rt_fun (xs := xs) (L := L) (d := d + 2) (h := hm) (t := 6 * g.m + q) (p := gb g (fl g q) + p) (f := f) (l := st.length + 1) (mm := nI g.m) hO (by omega) x7 (by omega) hcp hf4 (by rw [hcp2]; exact c41) e67 (by omega)
      exact dne_0 (u2 := u) (M2 := 8 * (M + (353 - (p + 2)))) (um_w z2) (fun res hp2 => p_term (d := d + 3) hO hm2 hT.2.2.2.2.1 hq h27 hr hp2) ⟨Nat.le_refl _, by omega⟩ (by omega) (ihB _ _ _ _ _ _ _ _ _ _ _ z1 (by omega))
  · rw [sm_no hp h0 hv h40 hf] at x1; cases x1
end RM

-- THE RUN: a value is there, the next sign
section RO
variable {xs : Nat → Int32} {L d : Nat} {g : CTX} {hc hm hc2 hm2 hcV : Hp} {q b M N : Nat} {u : Nat} {v w : Int32}
theorem dne_v {M2 : Nat} (hcs : hcV = hc ∨ CS xs L (d + 3) g.u hc 1 hcV) (hMI : MI g.u hc) (hc1 : UC g.u q b hc hcV) (hm1 : UM g.m 0 hm hm2) (hp : ∀ res, PX xs L (d + 4) g.m hm2 res → PX xs L (d + 4) g.m hm res) (hM : M2 < M) (h : DNE xs L d g u hcV hm2 M2) : DNE xs L d g u hc hm M := by
  rcases hcs with e | hcs
  · subst e
    exact dne_0 (u2 := u) hm1 hp ⟨Nat.le_refl _, by omega⟩ hM h
  · exact dne_1 (u2 := u) hcs (mi_uc hc1 hMI) (uc_w hc1) hm1 hp ⟨Nat.le_refl _, by omega⟩ hM h
theorem dne_w {M2 : Nat} (hcs : hcV = hc ∨ CS xs L (d + 3) g.u hc 1 hcV) (hMI : MI g.u hc) (hc1 : UC g.u q b hc hcV) (hM : M2 < M) (h : DNE xs L d g u hcV hm M2) : DNE xs L d g u hc hm M := dne_v hcs hMI hc1 um_rfl (fun _ z => z) hM h
/-- what the class's values and the model's rows below the innermost bracket need -/
theorem lr_low {lv : LV} {st : List LV} {t b0 iV : Nat} (h0 : C0 g hc hcV q b0 iV w) (hb : b + off st ≤ b0) (hm69 : ∀ o k, (o = 69 ∨ o = 70 ∨ o = 71 ∨ o = 68) → k < 6 * t + st.length → hI hm2 o k = hI hm o k) (hm72 : ∀ k, k < 3 * (6 * t + st.length) → hI hm2 72 k = hI hm 72 k) (hs : ∀ l, l ∈ st → l.2.1 ≤ 3) (h : LR g.u t b hc hm st) : LR g.u t b hcV hm2 st := lr_congr st (fun k hk => h0.2.2.2.1 k (by omega)) hm69 hm72 hs h
theorem tp_v (hP : PU g) {b0 iV : Nat} (hT : TP g hc hm q b M) (hu1 : UC g.u q b hc hcV) (h0 : C0 g hc hcV q b0 iV w) (hu2 : UM g.m q hm hm2) (e1 : hI hm2 62 g.m = hI hm 62 g.m) (e2 : ∀ k, k < 6 → hI hm2 66 (6 * (6 * g.m + q) + k) = hI hm 66 (6 * (6 * g.m + q) + k)) (e3 : hI hm2 63 (6 * g.m + q) = hI hm 63 (6 * g.m + q)) : TP g hcV hm2 q b M := tp_mk hP hT hu1 hu2 (h0.2.2.2.2.2.2.1 6 (by decide)) e1 (fv_same hT.2.2.2.2.2.2.1 (h0.2.2.2.2.2.2.2.2.2 _ _) h0.2.2.2.2.2.1 e2 (h0.2.2.2.2.1 4 (by decide)) e3) (h0.2.2.2.2.1 3 (by decide))
theorem es_v {b0 iV : Nat} (hE : ESt g u hc hm) (h0 : C0 g hc hcV q b0 iV w) (e1 : hI hm2 49 40 = hI hm 49 40) (e2 : ∀ k, hI hm2 78 k = hI hm 78 k) (e3 : hI hm2 49 29 = hI hm 49 29) : ESt g u hcV hm2 := es_same hE (h0.2.2.2.2.2.2.2.1 1) h0.2.2.2.2.2.2.2.2.1 (h0.2.2.2.2.2.2.1 9 (by decide)) e1 e2 e3
theorem step_C1 (hP : PU g) {lv : LV} {st : List LV} {p e i : Nat} {J : List Int32} (hC : StC g u hc hm q b M lv st p e J i v)
    (hin : ¬ st = [] ∨ isOp (gT g (fl g q) p) = true)
    (ihA : ∀ hc2 hm2 j bj Mj p3 i hd oh, StA g u hc2 hm2 j bj Mj p3 i hd oh → Mj + 200 ≤ M + (353 - p) → DNE xs L d g u hc2 hm2 (8 * (Mj + (153 - p3))))
    (ihB : ∀ hc2 hm2 q2 b2 M2 lv st p3 e J i2, StB g u hc2 hm2 q2 b2 M2 lv st p3 e J i2 → M2 + (353 - p3) < M + (353 - p) → DNE xs L d g u hc2 hm2 (8 * (M2 + (353 - p3))))
    (ihC : ∀ hc2 hm2 q2 b2 M2 lv st p3 e J i2 v2, StC g u hc2 hm2 q2 b2 M2 lv st p3 e J i2 v2 → M2 + (353 - p3) < M + (353 - p) → DNE xs L d g u hc2 hm2 (8 * (M2 + (353 - p3)))) : DNE xs L d g u hc hm (8 * (M + (353 - p))) := by
  by_cases hz : lv.2.2 = 47 ∧ v = 0
  · exact c_div0 hP hC hz ihA
  obtain ⟨hT, hE, hX, hA, h7, hv, h28, h27⟩ := id hC
  obtain ⟨x1, x2, x3, x4, x5, x6, x7, x8, x9, x10⟩ := id hX
  obtain ⟨hcV, iV, J1, k1, k2, k3, k4, k5, k6, k7, h0⟩ := c_opr (xs := xs) (L := L) (d := d) hP hC hz
  obtain ⟨hTX, hb⟩ := pu_tx (q := q) hP
  have hn := hTX.1
  have hq := hT.2.2.1
  have hp : p < 152 := by omega
  have hm2 := pu_m hP
  have hO := hT.2.1.1
  obtain ⟨l1, l2, l3, l4, l5, l6⟩ := id x6
  have hzm : ¬ (hI hm 69 (6 * (6 * g.m + q) + st.length) = 47 ∧ hI hm 49 28 = 0) := by rw [l3, h28]; exact hz
  have hcp : hI hm 51 (gb g (fl g q) + p) = gT g (fl g q) p := tp_tx hT hp
  have hws := wl_seen _ x5
  have hseen := hws lv List.mem_cons_self
  have hws2 : ∀ l, l ∈ st → l.2.1 ≤ 3 := fun l hl => by have := hws l (List.mem_cons_of_mem _ hl); omega
  by_cases ho : isOp (gT g (fl g q) p) = true
  · have hpn : p < gn g (fl g q) := tx_lt hTX hp (fun e => by rw [e] at ho; exact absurd ho (by decide))
    rw [sm_op hp ho] at k7
    have k7 : prep [] (sm g.ar (gT g (fl g q)) (p + 1) true (lv.1, lv.2.1, gT g (fl g q) p) st) = some (e, J1) := k7
    rw [prep_nil] at k7
    have hr := m_cb_op (xs := xs) (L := L) (d := d + 2) (mm := nI g.m) (p := gb g (fl g q) + p) hO (by omega) x8 (by omega) hzm x7 (by omega) (by rw [hcp]; exact ho)
    rw [hcp] at hr
    generalize hw : cbV (6 * g.m + q) st.length hm = w at *
    have hcb : cbH (6 * g.m + q) st.length hm = sI (sI hm 68 (6 * (6 * g.m + q) + st.length) w) 49 28 w := by unfold cbH; rw [hw]
    rw [hcb] at hr
    have u2 : UM g.m q hm (sI (sI (sI (sI (sI hm 68 (6 * (6 * g.m + q) + st.length) w) 49 28 w) 69 (6 * (6 * g.m + q) + st.length) (gT g (fl g q) p)) 64 (6 * g.m + q) (nI (gb g (fl g q) + p + 1))) 49 27 1) := um_sI (um_sI (um_sI (um_sI (um_sI um_rfl (by unfold OwM; omega)) (by unfold OwM; omega)) (by unfold OwM; omega)) (by unfold OwM; omega)) (by unfold OwM; omega)
    have hop0 : ¬ gT g (fl g q) p = 0 := fun e => by rw [e] at ho; exact absurd ho (by decide)
    refine dne_v (M2 := 8 * (M + (353 - (p + 1)))) k1 hT.1.1 k2 (um_w u2) (fun res hp2 => p_comb0 (d := d + 3) hO hm2 hT.2.2.2.2.1 hq h27 hr hp2) (by omega) (ihB _ _ q b M (lv.1, lv.2.1, gT g (fl g q) p) st (p + 1) e J1 iV ⟨tp_v hP hT k2 h0 u2 ?_ (fun k _ => ?_) ?_, es_v hE h0 ?_ (fun k => ?_) ?_, ⟨k7, k6, hpn, x4, ⟨Or.inr ho, x5.2⟩, ⟨?_, ?_, ?_, fun a ha => ?_, fun _ => ?_, lr_low (lv := lv) h0 (by omega) (fun o k hok hk => ?_) (fun k hk => ?_) hws2 l6⟩, ?_, ?_, h0.1, fun z => (h0.2.2.2.2.1 3 (by decide)).trans (x10 z)⟩, ?_, ?_, ?_⟩ (by omega))
    · rw [hI_ne (by omega), hI_ne (by omega), hI_ne (by omega), hI_ne (by omega), hI_ne (by omega)]
    · rw [hI_ne (by omega), hI_ne (by omega), hI_ne (by omega), hI_ne (by omega), hI_ne (by omega)]
    · rw [hI_ne (by omega), hI_ne (by omega), hI_ne (by omega), hI_ne (by omega), hI_ne (by omega)]
    · rw [hI_ne (by omega), hI_ne (by omega), hI_ne (by omega), hI_ne (by omega), hI_ne (by omega)]
    · rw [hI_ne (by omega), hI_ne (by omega), hI_ne (by omega), hI_ne (by omega), hI_ne (by omega)]
    · rw [hI_ne (by omega), hI_ne (by omega), hI_ne (by omega), hI_ne (by omega), hI_ne (by omega)]
    · rw [hI_ne (by omega), hI_ne (by omega), hI_ne (by omega), hI_ne (by omega), hI_ne (by omega)]; exact l1
    · rw [hI_ne (by omega), hI_ne (by omega), hI_ne (by omega), hI_ne (by omega), hI_ne (by omega)]; exact l2
    · rw [hI_ne (by omega), hI_ne (by omega), hI_is]
    · rw [h0.2.2.2.1 _ (by have : a < lv.2.1 := ha; omega), hI_ne (by omega), hI_ne (by omega), hI_ne (by omega), hI_ne (by omega), hI_ne (by omega)]; exact l4 a ha
    · rw [hI_ne (by omega), hI_ne (by omega), hI_ne (by omega), hI_ne (by omega), hI_is]; exact h0.2.2.1
    · rw [hI_ne (by omega), hI_ne (by omega), hI_ne (by omega), hI_ne (by omega), hI_ne (by omega)]
    · rw [hI_ne (by omega), hI_ne (by omega), hI_ne (by omega), hI_ne (by omega), hI_ne (by omega)]
    · rw [hI_ne (by omega), hI_is, Nat.add_assoc]
    · rw [hI_ne (by omega), hI_ne (by omega), hI_ne (by omega), hI_ne (by omega), hI_ne (by omega)]; exact x8
    · rw [k4]
      exact af_same k5 hA (by rw [hI_ne (by omega), hI_ne (by omega), hI_ne (by omega), hI_ne (by omega), hI_ne (by omega)]) (h0.2.2.2.2.1 5 (by decide))
    · rw [h0.2.1]
      show nI (b + off st + lv.2.1 + 1) = nI (b + (off st + lv.2.1 + (if gT g (fl g q) p = 0 then 0 else 1)))
      rw [if_neg hop0]
      congr 1
      omega
    · rw [hI_is]
  obtain ⟨l2', st2, rfl⟩ : ∃ l2' st2, st = l2' :: st2 := by
    cases st with
    | nil => exact absurd rfl (hin.resolve_right ho)
    | cons a s => exact ⟨a, s, rfl⟩
  have hlen : (l2' :: st2).length = st2.length + 1 := rfl
  have hwl2 : WL g.ar (l2' :: st2) := by
    rcases x5.2 with ⟨z, -, -⟩ | ⟨-, z⟩
    · cases z
    · exact z
  have hkind := x5.2.resolve_left (fun z => by cases z.1)
  by_cases c41 : gT g (fl g q) p = 41
  · have hpn : p < gn g (fl g q) := tx_lt hTX hp (by rw [c41]; decide)
    rw [sm_close hp c41] at k7
    have k7 : prep [] (if lv.1 = 1 then sm g.ar (gT g (fl g q)) (p + 1) false l2' st2 else if g.ar (lv.1 - 2) = nI (lv.2.1 + 1) then prep [iw 4 (nI (lv.1 - 2))] (sm g.ar (gT g (fl g q)) (p + 1) false l2' st2) else none) = some (e, J1) := k7
    rw [prep_nil] at k7
    rcases hkind.1 with ⟨q1, q2⟩ | ⟨f, k, q1, q2, q3, q4, q5⟩
    · rw [if_pos q1] at k7
      have hr := m_cb_close (xs := xs) (L := L) (d := d + 2) (mm := nI g.m) (p := gb g (fl g q) + p) (l0 := st2.length) hO (by omega) x8 (by omega) hzm x7 (by omega) (Or.inr (by rw [hcp]; exact c41)) (by rw [show st2.length + 1 = (l2' :: st2).length from rfl, l1, q1]; rfl)
      rw [show st2.length + 1 = (l2' :: st2).length from rfl] at hr
      generalize hw : cbV (6 * g.m + q) (l2' :: st2).length hm = w at *
      have hcb : cbH (6 * g.m + q) (l2' :: st2).length hm = sI (sI hm 68 (6 * (6 * g.m + q) + (l2' :: st2).length) w) 49 28 w := by unfold cbH; rw [hw]
      rw [hcb] at hr
      have u2 : UM g.m q hm (sI (sI (sI (sI hm 68 (6 * (6 * g.m + q) + (l2' :: st2).length) w) 49 28 w) 64 (6 * g.m + q) (nI (gb g (fl g q) + p + 1))) 67 (6 * g.m + q) (nI st2.length)) := um_sI (um_sI (um_sI (um_sI um_rfl (by unfold OwM; omega)) (by unfold OwM; omega)) (by unfold OwM; omega)) (by unfold OwM; omega)
      have hb0 : b + off (l2' :: st2) + lv.2.1 = b + off (l2' :: st2) := by omega
      rw [hb0] at h0
      refine dne_v (M2 := 8 * (M + (353 - (p + 1)))) k1 hT.1.1 k2 (um_w u2) (fun res hp2 => p_comb0 (d := d + 3) hO hm2 hT.2.2.2.2.1 hq h27 hr hp2) (by omega) (ihC _ _ q b M l2' st2 (p + 1) e J1 iV w ⟨tp_v hP hT k2 h0 u2 ?_ (fun k _ => ?_) ?_, es_v hE h0 ?_ (fun k => ?_) ?_, ⟨k7, k6, hpn, by rw [hlen] at x4; omega, hwl2, lr_low (lv := lv) h0 (Nat.le_refl _) (fun o k hok hk => ?_) (fun k hk => ?_) hws2 l6, ?_, hI_is, h0.1, fun z => (h0.2.2.2.2.1 3 (by decide)).trans (x10 z)⟩, ?_, h0.2.1, h0.2.2.1, ?_, ?_⟩ (by omega))
      · rw [hI_ne (by omega), hI_ne (by omega), hI_ne (by omega), hI_ne (by omega)]
      · rw [hI_ne (by omega), hI_ne (by omega), hI_ne (by omega), hI_ne (by omega)]
      · rw [hI_ne (by omega), hI_ne (by omega), hI_ne (by omega), hI_ne (by omega)]
      · rw [hI_ne (by omega), hI_ne (by omega), hI_ne (by omega), hI_ne (by omega)]
      · rw [hI_ne (by omega), hI_ne (by omega), hI_ne (by omega), hI_ne (by omega)]
      · rw [hI_ne (by omega), hI_ne (by omega), hI_ne (by omega), hI_ne (by omega)]
      · rw [hI_ne (by omega), hI_ne (by omega), hI_ne (by omega), hI_ne (by omega)]
      · rw [hI_ne (by omega), hI_ne (by omega), hI_ne (by omega), hI_ne (by omega)]
      · rw [hI_ne (by omega), hI_is, Nat.add_assoc]
      · rw [k4]
        exact af_same k5 hA (by rw [hI_ne (by omega), hI_ne (by omega), hI_ne (by omega), hI_ne (by omega)]) (h0.2.2.2.2.1 5 (by decide))
      · rw [hI_ne (by omega), hI_ne (by omega), hI_is]
      · rw [hI_ne (by omega), hI_ne (by omega), hI_ne (by omega), hI_ne (by omega)]; exact h27
    · rw [if_neg (by omega), show lv.1 - 2 = f by omega, q3] at k7
      by_cases c2 : nI k = nI (lv.2.1 + 1)
      · rw [if_pos c2] at k7
        have c3 : k = lv.2.1 + 1 := (nI_eq (by omega) (by omega)).mp c2
        obtain ⟨K, y1, y2⟩ := prep_some k7
        have y2 : J1 = iw 4 (nI f) :: K := y2
        subst y2
        have hl : (iw 4 (nI f) :: K).length = K.length + 1 := rfl
        have hlen2 : st2.length + 1 = (l2' :: st2).length := rfl
        generalize hw : cbV (6 * g.m + q) (l2' :: st2).length hm = w at *
        have hcb : cbH (6 * g.m + q) (l2' :: st2).length hm = sI (sI hm 68 (6 * (6 * g.m + q) + (l2' :: st2).length) w) 49 28 w := by unfold cbH; rw [hw]
        have hag : agH (6 * g.m + q) (l2' :: st2).length lv.2.1 (gb g (fl g q) + p) hm = sI (sI (sI (sI (sI (sI (sI hm 68 (6 * (6 * g.m + q) + (l2' :: st2).length) w) 49 28 w) 64 (6 * g.m + q) (nI (gb g (fl g q) + p + 1))) 72 (3 * (6 * (6 * g.m + q) + (l2' :: st2).length) + lv.2.1) w) 71 (6 * (6 * g.m + q) + (l2' :: st2).length) (nI (lv.2.1 + 1))) 69 (6 * (6 * g.m + q) + (l2' :: st2).length) 0) 49 27 1 := by unfold agH; rw [hcb, hw]
        have u2 : UM g.m q hm (sI (sI (sI (sI (sI (sI (sI (sI hm 68 (6 * (6 * g.m + q) + (l2' :: st2).length) w) 49 28 w) 64 (6 * g.m + q) (nI (gb g (fl g q) + p + 1))) 72 (3 * (6 * (6 * g.m + q) + (l2' :: st2).length) + lv.2.1) w) 71 (6 * (6 * g.m + q) + (l2' :: st2).length) (nI (lv.2.1 + 1))) 69 (6 * (6 * g.m + q) + (l2' :: st2).length) 0) 49 27 1) 67 (6 * g.m + q) (nI st2.length)) := um_sI (um_sI (um_sI (um_sI (um_sI (um_sI (um_sI (um_sI um_rfl (by unfold OwM; omega)) (by unfold OwM; omega)) (by unfold OwM; omega)) (by unfold OwM; omega)) (by unfold OwM; omega)) (by unfold OwM; omega)) (by unfold OwM; omega)) (by unfold OwM; omega)
        have hTV : TP g hcV hm q b M := tp_v hP hT k2 h0 um_rfl rfl (fun _ _ => rfl) rfl
        have hEV : ESt g u hcV hm := es_v hE h0 rfl (fun _ => rfl) rfl
        refine dne_w (M2 := 8 * (M + (353 - p)) - 1) k1 hT.1.1 k2 (by omega) (s_call (hm1 := sI (sI (sI (sI (sI (sI (sI (sI hm 68 (6 * (6 * g.m + q) + (l2' :: st2).length) w) 49 28 w) 64 (6 * g.m + q) (nI (gb g (fl g q) + p + 1))) 72 (3 * (6 * (6 * g.m + q) + (l2' :: st2).length) + lv.2.1) w) 71 (6 * (6 * g.m + q) + (l2' :: st2).length) (nI (lv.2.1 + 1))) 69 (6 * (6 * g.m + q) + (l2' :: st2).length) 0) 49 27 1) 67 (6 * g.m + q) (nI st2.length)) (lv := l2') (st := st2) (p2 := p + 1) (e := e) (i := iV) (f := f) (k := k) (fr := 3 * (6 * (6 * g.m + q) + (l2' :: st2).length)) (J := K) hP hTV hEV u2 ?_ ?_ (fun k => ?_) ?_ (fv_same hTV.2.2.2.2.2.2.1 rfl (fun k => ?_) (fun k _ => ?_) ?_ ?_) ⟨y1, k6.2, hpn, by rw [hlen] at x4; omega, hwl2, lr_congr _ (fun k hk => ?_) (fun o k hok hk => ?_) (fun k hk => ?_) hws2 l6, ?_, hI_is, hI_is, ?_⟩ ?_ h0.1 k6.1 q1 q3 q4 ?_ (fun a ha => ?_) (by omega) (fun hm2' hr res hp2 => ?_) (by omega) (by omega) ihA ihC)
        · rw [hI_ne (by omega), hI_ne (by omega), hI_ne (by omega), hI_ne (by omega), hI_ne (by omega), hI_ne (by omega), hI_ne (by omega), hI_ne (by omega)]
        · rw [hI_ne (by omega), hI_ne (by omega), hI_ne (by omega), hI_ne (by omega), hI_ne (by omega), hI_ne (by omega), hI_ne (by omega), hI_ne (by omega)]
        · rw [hI_ne (by omega), hI_ne (by omega), hI_ne (by omega), hI_ne (by omega), hI_ne (by omega), hI_ne (by omega), hI_ne (by omega), hI_ne (by omega)]
        · rw [hI_ne (by omega), hI_ne (by omega), hI_ne (by omega), hI_ne (by omega), hI_ne (by omega), hI_ne (by omega), hI_ne (by omega), hI_ne (by omega)]
        · rw [hI_ne (by omega)]
        · rw [hI_ne (by omega), hI_ne (by omega), hI_ne (by omega), hI_ne (by omega), hI_ne (by omega), hI_ne (by omega), hI_ne (by omega), hI_ne (by omega)]
        · rw [hI_ne (by omega)]
        · rw [hI_ne (by omega), hI_ne (by omega), hI_ne (by omega), hI_ne (by omega), hI_ne (by omega), hI_ne (by omega), hI_ne (by omega), hI_ne (by omega)]
        · rw [hI_ne (by omega), h0.2.2.2.1 k (by omega)]
        · rw [hI_ne (by omega), hI_ne (by omega), hI_ne (by omega), hI_ne (by omega), hI_ne (by omega), hI_ne (by omega), hI_ne (by omega), hI_ne (by omega)]
        · rw [hI_ne (by omega), hI_ne (by omega), hI_ne (by omega), hI_ne (by omega), hI_ne (by omega), hI_ne (by omega), hI_ne (by omega), hI_ne (by omega)]
        · rw [hI_ne (by omega), hI_ne (by omega), hI_ne (by omega), hI_ne (by omega), hI_ne (by omega), hI_is, Nat.add_assoc]
        · intro z; rw [hI_ne (by omega), h0.2.2.2.2.1 3 (by decide)]; exact x10 z
        · rw [show iV + 1 + K.length = i + J.length by rw [← k4, hl]; omega]
          exact af_same k5 hA (by rw [hI_ne (by omega), hI_ne (by omega), hI_ne (by omega), hI_ne (by omega), hI_ne (by omega), hI_ne (by omega), hI_ne (by omega), hI_ne (by omega)]) (by rw [hI_ne (by omega), h0.2.2.2.2.1 5 (by decide)])
        · rw [h0.2.1, c3]; congr 1
        · by_cases ca : a = lv.2.1
          · subst ca
            rw [hI_ne (by omega), hI_ne (by omega), hI_ne (by omega), hI_ne (by omega), hI_is]; exact h0.2.2.1
          · rw [h0.2.2.2.1 _ (by omega), hI_ne (by omega), hI_ne (by omega), hI_ne (by omega), hI_ne (by omega), hI_ne (by omega), hI_ne (by omega), hI_ne (by omega), hI_ne (by omega)]; exact l4 a (by omega)
        · exact p_comb0 (d := d + 3) hO hm2 hT.2.2.2.2.1 hq h27 (m_cb_call (d := d) (n := lv.2.1) (f := f) (l0 := st2.length) hO (by omega) x8 (by omega) hzm x7 (by omega) (by rw [hcp]; exact c41) (by rw [hlen2, l1, q2]) q1 (by rw [hlen2]; exact l2) (by omega) (by rw [hlen2, hag]; exact hr)) hp2
      · rw [if_neg c2] at k7; cases k7
  by_cases c44 : gT g (fl g q) p = 44
  · have hpn : p < gn g (fl g q) := tx_lt hTX hp (by rw [c44]; decide)
    rw [sm_comma hp c44] at k7
    have k7 : prep [] (if ¬ lv.1 = 1 ∧ nI (lv.2.1 + 1) < g.ar (lv.1 - 2) then sm g.ar (gT g (fl g q)) (p + 1) true (lv.1, lv.2.1 + 1, 0) (l2' :: st2) else none) = some (e, J1) := k7
    rw [prep_nil] at k7
    by_cases c2 : ¬ lv.1 = 1 ∧ nI (lv.2.1 + 1) < g.ar (lv.1 - 2)
    · rw [if_pos c2] at k7
      rcases hkind.1 with ⟨q1, q2⟩ | ⟨f, k, q1, q2, q3, q4, q5⟩
      · exact absurd q1 c2.1
      · have c3 : lv.2.1 + 1 < k := by
          have := c2.2
          rw [show lv.1 - 2 = f by omega, q3] at this
          exact (nI_ltI (by omega) (by omega)).mp this
        have hr := m_cb_comma (xs := xs) (L := L) (d := d + 2) (mm := nI g.m) (p := gb g (fl g q) + p) (n := lv.2.1) hO (by omega) x8 (by omega) hzm x7 (by omega) (by rw [hcp]; exact c44) (by rw [l1, q2]; exact fun z => by have := (nI_eq (a := 2 + f) (b := 1) (by omega) (by decide)).mp z; omega) l2 (by omega)
        generalize hw : cbV (6 * g.m + q) (l2' :: st2).length hm = w at *
        have hcb : cbH (6 * g.m + q) (l2' :: st2).length hm = sI (sI hm 68 (6 * (6 * g.m + q) + (l2' :: st2).length) w) 49 28 w := by unfold cbH; rw [hw]
        have hag : agH (6 * g.m + q) (l2' :: st2).length lv.2.1 (gb g (fl g q) + p) hm = sI (sI (sI (sI (sI (sI (sI hm 68 (6 * (6 * g.m + q) + (l2' :: st2).length) w) 49 28 w) 64 (6 * g.m + q) (nI (gb g (fl g q) + p + 1))) 72 (3 * (6 * (6 * g.m + q) + (l2' :: st2).length) + lv.2.1) w) 71 (6 * (6 * g.m + q) + (l2' :: st2).length) (nI (lv.2.1 + 1))) 69 (6 * (6 * g.m + q) + (l2' :: st2).length) 0) 49 27 1 := by unfold agH; rw [hcb, hw]
        rw [hag] at hr
        have u2 : UM g.m q hm (sI (sI (sI (sI (sI (sI (sI hm 68 (6 * (6 * g.m + q) + (l2' :: st2).length) w) 49 28 w) 64 (6 * g.m + q) (nI (gb g (fl g q) + p + 1))) 72 (3 * (6 * (6 * g.m + q) + (l2' :: st2).length) + lv.2.1) w) 71 (6 * (6 * g.m + q) + (l2' :: st2).length) (nI (lv.2.1 + 1))) 69 (6 * (6 * g.m + q) + (l2' :: st2).length) 0) 49 27 1) := um_sI (um_sI (um_sI (um_sI (um_sI (um_sI (um_sI um_rfl (by unfold OwM; omega)) (by unfold OwM; omega)) (by unfold OwM; omega)) (by unfold OwM; omega)) (by unfold OwM; omega)) (by unfold OwM; omega)) (by unfold OwM; omega)
        refine dne_v (M2 := 8 * (M + (353 - (p + 1)))) k1 hT.1.1 k2 (um_w u2) (fun res hp2 => p_comb0 (d := d + 3) hO hm2 hT.2.2.2.2.1 hq h27 hr hp2) (by omega) (ihB _ _ q b M (lv.1, lv.2.1 + 1, 0) (l2' :: st2) (p + 1) e J1 iV ⟨tp_v hP hT k2 h0 u2 ?_ (fun k _ => ?_) ?_, es_v hE h0 ?_ (fun k => ?_) ?_, ⟨k7, k6, hpn, x4, ⟨Or.inl rfl, Or.inr ⟨Or.inr ⟨f, k, q1, q2, q3, q4, c3⟩, hwl2⟩⟩, ⟨?_, ?_, ?_, fun a ha => ?_, fun z => absurd rfl z, lr_low (lv := lv) h0 (by omega) (fun o k hok hk => ?_) (fun k hk => ?_) hws2 l6⟩, ?_, ?_, h0.1, fun z => (h0.2.2.2.2.1 3 (by decide)).trans (x10 z)⟩, ?_, ?_, ?_⟩ (by omega))
        · rw [hI_ne (by omega), hI_ne (by omega), hI_ne (by omega), hI_ne (by omega), hI_ne (by omega), hI_ne (by omega), hI_ne (by omega)]
        · rw [hI_ne (by omega), hI_ne (by omega), hI_ne (by omega), hI_ne (by omega), hI_ne (by omega), hI_ne (by omega), hI_ne (by omega)]
        · rw [hI_ne (by omega), hI_ne (by omega), hI_ne (by omega), hI_ne (by omega), hI_ne (by omega), hI_ne (by omega), hI_ne (by omega)]
        · rw [hI_ne (by omega), hI_ne (by omega), hI_ne (by omega), hI_ne (by omega), hI_ne (by omega), hI_ne (by omega), hI_ne (by omega)]
        · rw [hI_ne (by omega), hI_ne (by omega), hI_ne (by omega), hI_ne (by omega), hI_ne (by omega), hI_ne (by omega), hI_ne (by omega)]
        · rw [hI_ne (by omega), hI_ne (by omega), hI_ne (by omega), hI_ne (by omega), hI_ne (by omega), hI_ne (by omega), hI_ne (by omega)]
        · rw [hI_ne (by omega), hI_ne (by omega), hI_ne (by omega), hI_ne (by omega), hI_ne (by omega), hI_ne (by omega), hI_ne (by omega)]; exact l1
        · rw [hI_ne (by omega), hI_ne (by omega), hI_is]
        · rw [hI_ne (by omega), hI_is]
        · have ha : a < lv.2.1 + 1 := ha
          by_cases ca : a = lv.2.1
          · subst ca
            rw [hI_ne (by omega), hI_ne (by omega), hI_ne (by omega), hI_is]; exact h0.2.2.1
          · rw [h0.2.2.2.1 _ (by omega), hI_ne (by omega), hI_ne (by omega), hI_ne (by omega), hI_ne (by omega), hI_ne (by omega), hI_ne (by omega), hI_ne (by omega)]; exact l4 a (by omega)
        · rw [hI_ne (by omega), hI_ne (by omega), hI_ne (by omega), hI_ne (by omega), hI_ne (by omega), hI_ne (by omega), hI_ne (by omega)]
        · rw [hI_ne (by omega), hI_ne (by omega), hI_ne (by omega), hI_ne (by omega), hI_ne (by omega), hI_ne (by omega), hI_ne (by omega)]
        · rw [hI_ne (by omega), hI_ne (by omega), hI_ne (by omega), hI_ne (by omega), hI_is, Nat.add_assoc]
        · rw [hI_ne (by omega), hI_ne (by omega), hI_ne (by omega), hI_ne (by omega), hI_ne (by omega), hI_ne (by omega), hI_ne (by omega)]; exact x8
        · rw [k4]
          exact af_same k5 hA (by rw [hI_ne (by omega), hI_ne (by omega), hI_ne (by omega), hI_ne (by omega), hI_ne (by omega), hI_ne (by omega), hI_ne (by omega)]) (h0.2.2.2.2.1 5 (by decide))
        · rw [h0.2.1]
          congr 1
          show _ = b + (off (l2' :: st2) + (lv.2.1 + 1) + 0)
          omega
        · rw [hI_is]
    · rw [if_neg c2] at k7; cases k7
  · rw [sm_bad hp ho c41 c44] at k7; cases k7
end RO

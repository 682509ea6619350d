-- THE RUN: an expression's end
section RP
variable {xs : Nat → Int32} {L d : Nat} {g : CTX} {hc hm hc2 hm2 hcV : Hp} {q b M N : Nat} {u : Nat} {v w : Int32}
theorem step_E (hP : PU g) {lv : LV} {p e i : Nat} {J : List Int32} (hC : StC g u hc hm q b M lv [] p e J i v) (hu0 : u + 1 < 2 ^ 31) (hno : ¬ isOp (gT g (fl g q) p) = true)
    (ihA : ∀ u2 hc2 hm2 j bj Mj p3 i hd oh, u ≤ u2 → u2 ≤ u + 1 → StA g u2 hc2 hm2 j bj Mj p3 i hd oh → Mj + 200 ≤ M + (353 - p) → DNE xs L d g u2 hc2 hm2 (8 * (Mj + (153 - p3))))
    (ihC : ∀ hc2 hm2 q2 b2 M2 lv st p3 e J i2 v2, StC g u hc2 hm2 q2 b2 M2 lv st p3 e J i2 v2 → M2 + (353 - p3) < M + (353 - p) → DNE xs L d g u hc2 hm2 (8 * (M2 + (353 - p3)))) : DNE xs L d g u hc hm (8 * (M + (353 - p))) := by
  by_cases hz : lv.2.2 = 47 ∧ v = 0
  · exact c_div0 hP hC hz (fun hc2 hm2 j bj Mj p3 i hd oh hS h1 => ihA u _ _ _ _ _ _ _ _ _ (Nat.le_refl _) (by omega) hS h1)
  obtain ⟨hT, hE, hX, hA, h7, hv, h28, h27⟩ := id hC
  obtain ⟨x1, x2, x3, x4, x5, x6, x7, x8, x9, x10⟩ := id hX
  obtain ⟨hcV, iV, J1, k1, k2, k3, k4, k5, k6, k7, h0⟩ := c_opr (xs := xs) (L := L) (d := d) hP hC hz
  obtain ⟨hTX, hb⟩ := pu_tx (q := q) hP
  have hn := hTX.1
  have hq := hT.2.2.1
  have hp : p < 152 := by omega
  have hm2 := pu_m hP
  have hO := hT.2.1.1
  obtain ⟨l1, l2, l3, l4, l5, l6⟩ := id x6
  have hzm : ¬ (hI hm 69 (6 * (6 * g.m + q) + ([] : List LV).length) = 47 ∧ hI hm 49 28 = 0) := by rw [l3, h28]; exact hz
  have hcp : hI hm 51 (gb g (fl g q) + p) = gT g (fl g q) p := tp_tx hT hp
  have hseen : lv.2.1 = 0 := by
    rcases x5.2 with ⟨-, -, z⟩ | ⟨-, z⟩
    · exact z
    · exact z.elim
  rw [sm_end hp hno] at k7
  have k7 : some (p, ([] : List Int32)) = some (e, J1) := k7
  cases k7
  have k4 : iV = i + J.length := k4
  have hb0 : b + off ([] : List LV) + lv.2.1 = b := by rw [hseen]; rfl
  rw [hb0] at h0
  have hTV : TP g hcV hm q b M := tp_v hP hT k2 h0 um_rfl rfl (fun _ _ => rfl) rfl
  have hEV : ESt g u hcV hm := es_v hE h0 rfl (fun _ => rfl) rfl
  have hAV : AF g hcV hm q iV p iV := by
    have := af_same (i2 := iV) k5 hA (hm2 := hm) (hc2 := hcV) rfl (h0.2.2.2.2.1 5 (by decide))
    rw [← k4] at this
    exact this
  have hzV := af_z hAV
  have hbb := (low_b q b M hT.2.2.2.2.2.1).1
  generalize hw : cbV (6 * g.m + q) ([] : List LV).length hm = w at *
  have hcb : cbH (6 * g.m + q) ([] : List LV).length hm = sI (sI hm 68 (6 * (6 * g.m + q)) w) 49 28 w := by unfold cbH; rw [hw]; rfl
  have hnoF : isOp (gT g (fl g q) p) = false := by
    cases z : isOp (gT g (fl g q) p) with
    | true => exact absurd z hno
    | false => rfl
  have hsp : ¬ gT g (fl g q) p = 44 ∧ ¬ gT g (fl g q) p = 41 := by
    rcases hAV with ⟨a1, a2, a3, a4⟩ | ⟨a1, pl, hd, oh, a2, a3, a4, a5, a6, a7, a8⟩
    · rw [a1]
      show ¬ g.TA p = 44 ∧ ¬ g.TA p = 41
      rw [a4]; decide
    · rw [a1]
      show ¬ g.T p = 44 ∧ ¬ g.T p = 41
      rcases a8 with ⟨-, a8, -⟩ | ⟨-, a8, -⟩ <;> rw [a8] <;> decide
  have hr := m_cb_end (xs := xs) (L := L) (d := d + 2) (mm := nI g.m) (p := gb g (fl g q) + p) hO (by omega) x8 (by decide) hzm x7 (by omega) (by rw [hcp]; exact hnoF) (by rw [hcp]; exact hsp.1) (by rw [hcp]; exact hsp.2)
  rw [hcb] at hr
  have u1 : UM g.m q hm (sI (sI hm 68 (6 * (6 * g.m + q)) w) 49 28 w) := um_sI (um_sI um_rfl (by unfold OwM; omega)) (by unfold OwM; omega)
  have hO1 : MO (sI (sI hm 68 (6 * (6 * g.m + q)) w) 49 28 w) := hO
  refine dne_w (M2 := 8 * (M + (353 - p)) - 1) k1 hT.1.1 k2 (by omega) ?_
  rcases id hAV with ⟨a1, a2, a3, a4⟩ | ⟨a1, pl, hd, oh, a2, a3, a4, a5, a6, a7, a8⟩
  · -- aside
    have hqm : g.m = 1 ∧ q = 0 := of_decide_eq_true a1
    obtain ⟨hm1, hq0⟩ := hqm
    subst hq0
    have hr0 := r_leave0 (xs := xs) (L := L) (d := d) (v := w) (h := sI (sI hcV (g.u + (2 + 2 * 0)) 2 (nI (iV + 1))) g.u 7 (nI b)) hTV.1.1 (by rw [hI_ne (by omega), hI_ne (by omega)]; exact hTV.2.2.2.1)
    have hcs : CS xs L (d + 3) g.u hcV 0 (sI (sI (sI (sI (sI hcV (g.u + (2 + 2 * 0)) 2 (nI (iV + 1))) g.u 7 (nI b)) g.u 6 (nI 0)) g.u 4 2) g.u 5 w) := cs_mk (op := 0) (k := 0) hTV.1 hq hTV.2.2.2.1 fl_m hTV.2.2.2.2.2.2.1.1 h0.1 hzV (by rw [a1]; exact a2) (by decide) (by decide) (x_return (d := d) (v := 0) (n := b) (h := sI hcV (g.u + (2 + 2 * 0)) 2 (nI (iV + 1))) hTV.1.1 (by rw [hI_ne (by omega)]; exact h0.2.1) (by omega) (Or.inl rfl) rfl (by rw [hI_ne (by omega), h0.2.2.1]; exact hr0))
    have hpx : PX xs L (d + 4) g.m hm (some (.inl 2), sI (sI hm 68 (6 * (6 * g.m + 0)) w) 49 28 w) := by
      rw [hm1]
      rw [hm1] at hr
      have h62 := hT.2.2.2.2.1
      rw [hm1] at h62
      exact p_comb6 (d := d + 3) hO h62 h27 hr
    refine ⟨1, _, _, 2, u, by omega, Or.inl hcs, hpx, ud_sI (ud_uc (uc_u (uc_u (uc_u (uc_f (by decide) uc_rfl))))) (Or.inr ⟨rfl, rfl, by decide⟩), um_w u1, by omega, by omega, es_same hEV ?_ (fun k => ?_) ?_ ?_ (fun k => ?_) ?_, Or.inr (Or.inl ⟨rfl, ?_, ?_, ?_⟩)⟩
    · rw [hI_ne (by omega), hI_ne (by omega), hI_ne (by omega), hI_ne (by omega), hI_ne (by omega)]
    · rw [hI_ne (by omega), hI_ne (by omega), hI_ne (by omega), hI_ne (by omega), hI_ne (by omega)]
    · rw [hI_ne (by omega), hI_ne (by omega), hI_ne (by omega), hI_ne (by omega), hI_ne (by omega)]
    · rw [hI_ne (by omega), hI_ne (by omega)]
    · rw [hI_ne (by omega), hI_ne (by omega)]
    · rw [hI_ne (by omega), hI_ne (by omega)]
    · rw [hI_ne (by omega), hI_is]
    · rw [hI_ne (by omega), hI_ne (by omega), hI_is]; rfl
    · rw [hI_is, hI_is]
  · -- a statement of the program
    obtain ⟨e1, e2, e3, e4, e5, e6⟩ := gz_f a1
    rw [e3] at hno hcp hsp
    rw [e4] at x7 hcp
    rw [Nat.zero_add] at x7 hcp
    have hn6 : ¬ 6 * g.m + q = 6 := fun z => by
      have := of_decide_eq_false a1
      omega
    have h64 : hI (sI (sI hm 68 (6 * (6 * g.m + q)) w) 49 28 w) 64 (6 * g.m + q) = nI p := by rw [hI_ne (by omega), hI_ne (by omega)]; exact x7
    have h65 : hI (sI (sI hm 68 (6 * (6 * g.m + q)) w) 49 28 w) 65 (6 * g.m + q) = nI pl := by rw [hI_ne (by omega), hI_ne (by omega)]; exact a2
    have hnn := hP.2.1.1
    have hcl : hI (sI (sI hm 68 (6 * (6 * g.m + q)) w) 49 28 w) 51 pl = g.T pl := by
      rw [hI_ne (by omega), hI_ne (by omega)]
      have := hT.2.1.2.1 false (fun z => by cases z) pl (by omega)
      rw [show gb g false + pl = pl from Nat.zero_add pl] at this
      exact this
    have turn : ∀ hm3, Rn xs L (d + 4) 98 [.inr (some 49), .inl (nI (6 * g.m + q))] (sI (sI hm 68 (6 * (6 * g.m + q)) w) 49 28 w) (none, hm3) → ∀ res, PX xs L (d + 4) g.m hm3 res → PX xs L (d + 4) g.m hm res := fun hm3 hr3 res hp3 => p_fin (d := d + 3) hO hm2 hT.2.2.2.2.1 hq hn6 h27 hr hO1 hr3 hp3
    have hcsX : ∀ (op k : Nat) (on : Int32) (hc3 : Hp), g.I iV = iw (nI op) (nI k) → op < 16 → k < 2 ^ 27 → Rn xs L (d + 3) 13 [.inr (some g.u), .inr (some (g.u + (2 + 2 * q))), .inl (nI op), .inl (nI k)] (sI hcV (g.u + (2 + 2 * q)) 2 (nI (iV + 1))) (some (.inl on), hc3) → CS xs L (d + 3) g.u hcV on hc3 := fun op k on hc3 hwd ho hk hx => cs_mk hTV.1 hq hTV.2.2.2.1 fl_m hTV.2.2.2.2.2.2.1.1 h0.1 hzV (by rw [e2]; exact hwd) ho hk hx
    have hVM : MI g.u (sI hcV (g.u + (2 + 2 * q)) 2 (nI (iV + 1))) := hTV.1.1
    have hV7 : hI (sI hcV (g.u + (2 + 2 * q)) 2 (nI (iV + 1))) g.u 7 = nI (b + 1) := by rw [hI_ne (by omega)]; exact h0.2.1
    have hVv : hI (sI hcV (g.u + (2 + 2 * q)) 2 (nI (iV + 1))) (g.u + 14) b = w := by rw [hI_ne (by omega)]; exact h0.2.2.1
    rcases a8 with ⟨b1, b2, b3, b4, b5⟩ | ⟨b1, b2, j, c, b3, b4, b5, b6, b7, b8⟩
    · rcases b1 with b1 | b1 | b1 | b1
      · -- into a variable
        obtain ⟨a, a1', a2'⟩ := var_ix b1.1 b1.2.1
        have eI : endI (g.T pl) = iw 6 (g.T pl - 97) := by
          unfold endI
          rw [if_neg (fun z => by rw [z] at b1; exact absurd b1.1 (by decide)), if_neg (fun z => by rw [z] at b1; exact absurd b1.1 (by decide)), if_neg (fun z => by rw [z] at b1; exact absurd b1.1 (by decide))]
        have e97 : g.T pl - 97 = nI a := by rw [a2', show (97 : Int32) = nI 97 from rfl, pk_sub (by omega)]; congr 1; omega
        rw [eI, e97] at b4
        have hx := x_store (xs := xs) (L := L) (d := d) (t := q) (k := a) (n := b) hVM hV7 (by omega) hq a1'
        rw [hVv] at hx
        have hcs := hcsX 6 a 1 _ b4 (by decide) (by omega) hx
        have hr3 := m_fn_var (xs := xs) (L := L) (d := d + 2) (t := 6 * g.m + q) (p := p) (v := a) hO1 (by omega) h65 (by omega) h64 (by rw [hcl]; exact a2') a1'
        rw [hI_is] at hr3
        have w1 : UC g.u q b hcV (sI (sI (sI hcV (g.u + (2 + 2 * q)) 2 (nI (iV + 1))) g.u 7 (nI b)) (g.u + (3 + 2 * q)) a w) := uc_x hq (uc_u (uc_f hq uc_rfl))
        have w2 : UM g.m q hm (sI (sI (sI (sI (sI hm 68 (6 * (6 * g.m + q)) w) 49 28 w) 49 27 0) 64 (6 * g.m + q) (nI (p + 1))) 66 (6 * (6 * g.m + q) + a) w) := um_sI (um_sI (um_sI u1 (by unfold OwM; omega)) (by unfold OwM; omega)) (by unfold OwM; omega)
        refine dne_1 (u2 := u) (M2 := 8 * (M + (153 - (p + 1)))) hcs (mi_uc w1 hTV.1.1) (uc_w w1) (um_w w2) (turn _ hr3) ⟨Nat.le_refl _, by omega⟩ (by omega) (ihA u _ _ q b M (p + 1) (iV + 1) hd oh (Nat.le_refl _) (by omega) ⟨tp_mk hP hTV w1 w2 ?_ ?_ ⟨hTV.2.2.2.2.2.2.1.1, fun k hk => ?_, fun z => ?_⟩ ?_, es_same hEV ?_ (fun k => ?_) ?_ ?_ (fun k => ?_) ?_, a1, b5, ?_, ?_, ?_, ?_⟩ (by omega))
        · rw [hI_ne (by omega), hI_ne (by omega), hI_ne (by omega)]
        · rw [hI_ne (by omega), hI_ne (by omega), hI_ne (by omega), hI_ne (by omega), hI_ne (by omega)]
        · by_cases ca : k = a
          · subst ca
            rw [hI_is, hI_is]
          · rw [hI_ne (by omega), hI_ne (by omega), hI_ne (by omega), hI_ne (by omega), hI_ne (by omega), hI_ne (by omega), hI_ne (by omega), hI_ne (by omega)]
            exact hTV.2.2.2.2.2.2.1.2.1 k hk
        · rw [hI_ne (by omega), hI_ne (by omega), hI_ne (by omega), hI_ne (by omega), hI_ne (by omega), hI_ne (by omega), hI_ne (by omega), hI_ne (by omega)]
          exact hTV.2.2.2.2.2.2.1.2.2 z
        · rw [hI_ne (by omega), hI_ne (by omega), hI_ne (by omega)]
        · rw [hI_ne (by omega), hI_ne (by omega), hI_ne (by omega)]
        · rw [hI_ne (by omega), hI_ne (by omega), hI_ne (by omega)]
        · rw [hI_ne (by omega), hI_ne (by omega), hI_ne (by omega)]
        · rw [hI_ne (by omega), hI_ne (by omega), hI_ne (by omega), hI_ne (by omega), hI_ne (by omega)]
        · rw [hI_ne (by omega), hI_ne (by omega), hI_ne (by omega), hI_ne (by omega), hI_ne (by omega)]
        · rw [hI_ne (by omega), hI_ne (by omega), hI_ne (by omega), hI_ne (by omega), hI_ne (by omega)]
        · rw [hI_ne (by omega), hI_ne (by omega), hI_is]
        · rw [hI_ne (by omega), hI_is]
        · rw [hI_ne (by omega), hI_is]
        · rw [hI_ne (by omega), hI_ne (by omega), hI_is]
      · -- put
        have eI : endI (g.T pl) = iw 7 0 := by rw [b1]; rfl
        rw [eI] at b4
        have hVo : hI (sI hcV (g.u + (2 + 2 * q)) 2 (nI (iV + 1))) (g.u + 15) 1 = nI u := by rw [hI_ne (by omega)]; exact hEV.1
        have hx := x_put (xs := xs) (L := L) (d := d) (φ := g.u + (2 + 2 * q)) (w := nI 0) (q := u) (n := b) hVM hV7 (by omega) hVo (by omega)
        rw [hVv] at hx
        have hcs := hcsX 7 0 1 _ b4 (by decide) (by decide) hx
        have w1 : UC g.u q b hcV (sI (sI (sI (sI hcV (g.u + (2 + 2 * q)) 2 (nI (iV + 1))) g.u 7 (nI b)) (g.u + 16) (u % 16) w) (g.u + 15) 1 (nI (u + 1))) := uc_sI (uc_sI (uc_u (uc_f hq uc_rfl)) (Or.inr (Or.inr (Or.inl rfl)))) (Or.inr (Or.inl rfl))
        have hcls : ∀ hm3 : Hp, Rn xs L (d + 4) 98 [.inr (some 49), .inl (nI (6 * g.m + q))] (sI (sI hm 68 (6 * (6 * g.m + q)) w) 49 28 w) (none, hm3) → UM g.m q hm hm3 → (∀ o k, ¬ o = 68 → ¬ (o = 49 ∧ (k = 27 ∨ k = 28 ∨ k = 40)) → ¬ o = 64 → ¬ o = 78 → hI hm3 o k = hI hm o k) → hI hm3 49 27 = 0 → hI hm3 64 (6 * g.m + q) = nI (p + 1) → (g.m = 0 → hI hm3 49 40 = nI (u + 1) ∧ ∀ k, k < 16 → hI hm3 78 k = if k = u % 16 then w else hI hm 78 k) → DNE xs L d g u hcV hm (8 * (M + (353 - p)) - 1) := fun hm3 hr3 w2 ho h27' h64' hm0 => by
          refine dne_1 (u2 := u + 1) (M2 := 8 * (M + (153 - (p + 1)))) hcs (mi_uc w1 hTV.1.1) (uc_w w1) (um_w w2) (turn _ hr3) ⟨by omega, Nat.le_refl _⟩ (by omega) (ihA (u + 1) _ _ q b M (p + 1) (iV + 1) hd oh (by omega) (Nat.le_refl _) ⟨tp_mk hP hTV w1 w2 ?_ (ho _ _ (by decide) (by omega) (by decide) (by decide)) (fv_same hTV.2.2.2.2.2.2.1 rfl (fun k => ?_) (fun k _ => ho _ _ (by decide) (by omega) (by decide) (by decide)) ?_ (ho _ _ (by decide) (by omega) (by decide) (by decide))) ?_, ⟨hI_is, fun z => ⟨(hm0 z).1, fun k hk => ?_, ?_⟩, ?_⟩, a1, b5, ?_, h64', ?_, h27'⟩ (by omega))
          · rw [hI_ne (by omega), hI_ne (by omega), hI_ne (by omega), hI_ne (by omega)]
          · rw [hI_ne (by omega), hI_ne (by omega), hI_ne (by omega), hI_ne (by omega)]
          · rw [hI_ne (by omega), hI_ne (by omega), hI_ne (by omega), hI_ne (by omega)]
          · rw [hI_ne (by omega), hI_ne (by omega), hI_ne (by omega), hI_ne (by omega)]
          · rw [(hm0 z).2 k hk]
            by_cases ck : k = u % 16
            · rw [if_pos ck, ck, hI_ne (by omega), hI_is]
            · rw [if_neg ck, hI_ne (by omega), hI_ne (by omega), hI_ne (by omega), hI_ne (by omega)]
              exact (hEV.2.1 z).2.1 k hk
          · intro y
            rw [hI_ne (by omega), hI_ne (by omega), hI_ne (by omega), hI_ne (by omega), ho _ _ (by decide) (by omega) (by decide) (by decide)]
            exact (hEV.2.1 z).2.2 y
          · rw [ho _ _ (by decide) (by omega) (by decide) (by decide)]; exact hEV.2.2
          · rw [hI_ne (by omega), hI_ne (by omega), hI_ne (by omega), hI_is]
          · rw [hI_ne (by omega), hI_ne (by omega), hI_is]
        rcases hP.1 with ⟨-, hm0⟩ | ⟨-, hm1⟩
        · have hr3 := m_fn_put (xs := xs) (L := L) (d := d + 2) (t := 6 * g.m + q) (p := p) (u := u) hO1 (by omega) h65 (by omega) h64 (by rw [hcl]; exact b1) (by omega) (by rw [hI_ne (by omega), hI_ne (by omega)]; exact (hEV.2.1 hm0).1) (by omega)
          rw [hI_is] at hr3
          refine hcls _ hr3 (um_sI (um_sI (um_sI (um_sI u1 (by unfold OwM; omega)) (by unfold OwM; omega)) (by unfold OwM; omega)) (by unfold OwM; omega)) (fun o k o1 o2 o3 o4 => ?_) ?_ ?_ (fun _ => ⟨hI_is, fun k hk => ?_⟩)
          · rw [hI_ne (by omega), hI_ne (by omega), hI_ne (by omega), hI_ne (by omega), hI_ne (by omega), hI_ne (by omega)]
          · rw [hI_ne (by omega), hI_ne (by omega), hI_ne (by omega), hI_is]
          · rw [hI_ne (by omega), hI_ne (by omega), hI_is]
          · rw [hI_ne (by omega)]
            by_cases ck : k = u % 16
            · rw [if_pos ck, ck, hI_is]
            · rw [if_neg ck, hI_ne (by omega), hI_ne (by omega), hI_ne (by omega), hI_ne (by omega), hI_ne (by omega)]
        · have hr3 := m_fn_put6 (xs := xs) (L := L) (d := d + 2) (t := 6 * g.m + q) (p := p) hO1 (by omega) h65 (by omega) h64 (by rw [hcl]; exact b1) (by omega)
          refine hcls _ hr3 (um_sI (um_sI u1 (by unfold OwM; omega)) (by unfold OwM; omega)) (fun o k o1 o2 o3 o4 => ?_) ?_ ?_ (fun z => by omega)
          · rw [hI_ne (by omega), hI_ne (by omega), hI_ne (by omega), hI_ne (by omega)]
          · rw [hI_ne (by omega), hI_is]
          · rw [hI_is]
      · -- return
        have eI : endI (g.T pl) = iw 0 0 := by rw [b1]; rfl
        rw [eI] at b4
        have hr3 := m_fn_ret (xs := xs) (L := L) (d := d + 2) (t := 6 * g.m + q) (p := p) hO1 (by omega) h65 (by omega) h64 (by rw [hcl]; exact b1)
        have w2 : UM g.m q hm (sI (sI (sI (sI hm 68 (6 * (6 * g.m + q)) w) 49 28 w) 49 27 4) 64 (6 * g.m + q) (nI (p + 1))) := um_sI (um_sI u1 (by unfold OwM; omega)) (by unfold OwM; omega)
        refine dne_0 (u2 := u) (M2 := 8 * M + 1) (um_w w2) (turn _ hr3) ⟨Nat.le_refl _, by omega⟩ (by omega) (s_ret (i := iV) (v := w) hP (es_same hEV rfl (fun _ => rfl) rfl ?_ (fun k => ?_) ?_) (tp_mk hP hTV uc_rfl w2 rfl ?_ (fv_same hTV.2.2.2.2.2.2.1 rfl (fun _ => rfl) (fun k _ => ?_) rfl ?_) rfl) a1 h0.1 a7 b4 h0.2.1 h0.2.2.1 ?_ ?_ (fun hc2 hm2 q2 b2 M2 lv st p3 e J i2 v2 hS h1 => ihC _ _ _ _ _ _ _ _ _ _ _ _ hS (by omega)))
        · rw [hI_ne (by omega), hI_ne (by omega), hI_ne (by omega), hI_ne (by omega)]
        · rw [hI_ne (by omega), hI_ne (by omega), hI_ne (by omega), hI_ne (by omega)]
        · rw [hI_ne (by omega), hI_ne (by omega), hI_ne (by omega), hI_ne (by omega)]
        · rw [hI_ne (by omega), hI_ne (by omega), hI_ne (by omega), hI_ne (by omega)]
        · rw [hI_ne (by omega), hI_ne (by omega), hI_ne (by omega), hI_ne (by omega)]
        · rw [hI_ne (by omega), hI_ne (by omega), hI_ne (by omega), hI_ne (by omega)]
        · rw [hI_ne (by omega), hI_is]
        · rw [hI_ne (by omega), hI_ne (by omega), hI_is]
      · -- throw
        have eI : endI (g.T pl) = iw 8 0 := by rw [b1]; rfl
        rw [eI] at b4
        have hr3 := m_fn_thr (xs := xs) (L := L) (d := d + 2) (t := 6 * g.m + q) (p := p) hO1 (by omega) h65 (by omega) h64 (by rw [hcl]; exact b1)
        have w2 : UM g.m q hm (sI (sI (sI (sI hm 68 (6 * (6 * g.m + q)) w) 49 28 w) 49 27 3) 64 (6 * g.m + q) (nI (p + 1))) := um_sI (um_sI u1 (by unfold OwM; omega)) (by unfold OwM; omega)
        have w1 : UC g.u q b hcV (sI (sI hcV (g.u + (2 + 2 * q)) 2 (nI (iV + 1))) g.u 7 (nI b)) := uc_u (uc_f hq uc_rfl)
        refine s_throw (N := M + (353 - p)) (hcx := sI (sI hcV (g.u + (2 + 2 * q)) 2 (nI (iV + 1))) g.u 7 (nI b)) (hmx := sI (sI (sI (sI hm 68 (6 * (6 * g.m + q)) w) 49 28 w) 49 27 3) 64 (6 * g.m + q) (nI (p + 1))) (i := iV) (e := p) (ie := iV) (what := w) hP (tp_mk hP hTV w1 w2 ?_ ?_ (fv_same hTV.2.2.2.2.2.2.1 rfl (fun _ => ?_) (fun k _ => ?_) ?_ ?_) ?_) (es_same hEV ?_ (fun _ => ?_) ?_ ?_ (fun k => ?_) ?_) (af_same (Nat.le_refl _) hAV ?_ ?_) (Nat.le_refl _) ?_ ?_ ?_ w1 w2 (fun on hc2 hon hr => ?_) (turn _ hr3) (by omega) (fun hc2 hm2 j bj Mj p3 i hd oh hS h1 => ihA u _ _ _ _ _ _ _ _ _ (Nat.le_refl _) (by omega) hS h1)
        · rw [hI_ne (by omega), hI_ne (by omega)]
        · rw [hI_ne (by omega), hI_ne (by omega), hI_ne (by omega), hI_ne (by omega)]
        · rw [hI_ne (by omega), hI_ne (by omega)]
        · rw [hI_ne (by omega), hI_ne (by omega), hI_ne (by omega), hI_ne (by omega)]
        · rw [hI_ne (by omega), hI_ne (by omega)]
        · rw [hI_ne (by omega), hI_ne (by omega), hI_ne (by omega), hI_ne (by omega)]
        · rw [hI_ne (by omega), hI_ne (by omega)]
        · rw [hI_ne (by omega), hI_ne (by omega)]
        · rw [hI_ne (by omega), hI_ne (by omega)]
        · rw [hI_ne (by omega), hI_ne (by omega)]
        · rw [hI_ne (by omega), hI_ne (by omega), hI_ne (by omega), hI_ne (by omega)]
        · rw [hI_ne (by omega), hI_ne (by omega), hI_ne (by omega), hI_ne (by omega)]
        · rw [hI_ne (by omega), hI_ne (by omega), hI_ne (by omega), hI_ne (by omega)]
        · rw [hI_ne (by omega), hI_ne (by omega), hI_ne (by omega), hI_ne (by omega)]
        · rw [hI_ne (by omega), hI_ne (by omega)]
        · rw [hI_ne (by omega), hI_is]
        · rw [hI_ne (by omega), hI_is]
        · rw [hI_ne (by omega), hI_ne (by omega), hI_is]
        · exact hcsX 8 0 on _ b4 (by decide) (by decide) (x_throw (d := d) (v := on) (n := b) (res := (some (.inl on), hc2)) hVM hV7 (by omega) hon rfl (by rw [hVv]; exact hr (d + 1)))
    · -- a block or none
      have hj := (fr_p hP.2.1 b8).2
      have hx := x_jiz (xs := xs) (L := L) (d := d) (φ := g.u + (2 + 2 * q)) (w := nI j) (n := b) hVM hV7 (by omega) ((hTV.1.1.2.2.2.2.2.2.2.2.2.2.2.2 q hq).2.1)
      rw [hVv] at hx
      have hzz := hP.2.2.2.1
      have hcs := hcsX 9 j 1 _ b3 (by decide) (by omega) hx
      by_cases c0 : w = 0
      · rw [if_pos c0] at hcs
        have hr3 := m_fn_no (xs := xs) (L := L) (d := d + 2) (t := 6 * g.m + q) (p := p) hO1 (by omega) h65 (by omega) h64 (by rw [hcl]; exact b1) (by rw [hI_is]; exact c0) (by omega)
        rw [hI_ne (by omega), hI_ne (by omega), hT.2.1.2.2.2.2.2.2 p, b4, nI_1] at hr3
        have w1 : UC g.u q b hcV (sI (sI (sI hcV (g.u + (2 + 2 * q)) 2 (nI (iV + 1))) g.u 7 (nI b)) (g.u + (2 + 2 * q)) 2 (nI j)) := uc_f hq (uc_u (uc_f hq uc_rfl))
        have w2 : UM g.m q hm (sI (sI (sI (sI hm 68 (6 * (6 * g.m + q)) w) 49 28 w) 49 27 0) 64 (6 * g.m + q) (nI (c + 1))) := um_sI (um_sI u1 (by unfold OwM; omega)) (by unfold OwM; omega)
        refine dne_1 (u2 := u) (M2 := 8 * (M + (153 - (c + 1)))) hcs (mi_uc w1 hTV.1.1) (uc_w w1) (um_w w2) (turn _ hr3) ⟨Nat.le_refl _, by omega⟩ (by omega) (ihA u _ _ q b M (c + 1) j hd oh (Nat.le_refl _) (by omega) ⟨tp_mk hP hTV w1 w2 ?_ ?_ (fv_same hTV.2.2.2.2.2.2.1 rfl (fun k => ?_) (fun k _ => ?_) ?_ ?_) ?_, es_same hEV ?_ (fun k => ?_) ?_ ?_ (fun k => ?_) ?_, a1, b8, hI_is, hI_is, ?_, ?_⟩ (by omega))
        · rw [hI_ne (by omega), hI_ne (by omega), hI_ne (by omega)]
        · rw [hI_ne (by omega), hI_ne (by omega), hI_ne (by omega), hI_ne (by omega)]
        · rw [hI_ne (by omega), hI_ne (by omega), hI_ne (by omega)]
        · rw [hI_ne (by omega), hI_ne (by omega), hI_ne (by omega), hI_ne (by omega)]
        · rw [hI_ne (by omega), hI_ne (by omega), hI_ne (by omega)]
        · rw [hI_ne (by omega), hI_ne (by omega), hI_ne (by omega), hI_ne (by omega)]
        · rw [hI_ne (by omega), hI_ne (by omega), hI_ne (by omega)]
        · rw [hI_ne (by omega), hI_ne (by omega), hI_ne (by omega)]
        · rw [hI_ne (by omega), hI_ne (by omega), hI_ne (by omega)]
        · rw [hI_ne (by omega), hI_ne (by omega), hI_ne (by omega)]
        · rw [hI_ne (by omega), hI_ne (by omega), hI_ne (by omega), hI_ne (by omega)]
        · rw [hI_ne (by omega), hI_ne (by omega), hI_ne (by omega), hI_ne (by omega)]
        · rw [hI_ne (by omega), hI_ne (by omega), hI_ne (by omega), hI_ne (by omega)]
        · rw [hI_ne (by omega), hI_is]
        · rw [hI_ne (by omega), hI_is]
      · rw [if_neg c0] at hcs
        have hr3 := m_fn_yes (xs := xs) (L := L) (d := d + 2) (t := 6 * g.m + q) (p := p) hO1 (by omega) h65 (by omega) h64 (by rw [hcl]; exact b1) (by rw [hI_is]; exact c0)
        have w1 : UC g.u q b hcV (sI (sI hcV (g.u + (2 + 2 * q)) 2 (nI (iV + 1))) g.u 7 (nI b)) := uc_u (uc_f hq uc_rfl)
        have w2 : UM g.m q hm (sI (sI (sI (sI hm 68 (6 * (6 * g.m + q)) w) 49 28 w) 49 27 0) 64 (6 * g.m + q) (nI (p + 1))) := um_sI (um_sI u1 (by unfold OwM; omega)) (by unfold OwM; omega)
        refine dne_1 (u2 := u) (M2 := 8 * (M + (153 - (p + 1)))) hcs (mi_uc w1 hTV.1.1) (uc_w w1) (um_w w2) (turn _ hr3) ⟨Nat.le_refl _, by omega⟩ (by omega) (ihA u _ _ q b M (p + 1) (iV + 1) hd oh (Nat.le_refl _) (by omega) ⟨tp_mk hP hTV w1 w2 ?_ ?_ (fv_same hTV.2.2.2.2.2.2.1 rfl (fun k => ?_) (fun k _ => ?_) ?_ ?_) ?_, es_same hEV ?_ (fun k => ?_) ?_ ?_ (fun k => ?_) ?_, a1, b7, ?_, hI_is, hI_is, ?_⟩ (by omega))
        · rw [hI_ne (by omega), hI_ne (by omega)]
        · rw [hI_ne (by omega), hI_ne (by omega), hI_ne (by omega), hI_ne (by omega)]
        · rw [hI_ne (by omega), hI_ne (by omega)]
        · rw [hI_ne (by omega), hI_ne (by omega), hI_ne (by omega), hI_ne (by omega)]
        · rw [hI_ne (by omega), hI_ne (by omega)]
        · rw [hI_ne (by omega), hI_ne (by omega), hI_ne (by omega), hI_ne (by omega)]
        · rw [hI_ne (by omega), hI_ne (by omega)]
        · rw [hI_ne (by omega), hI_ne (by omega)]
        · rw [hI_ne (by omega), hI_ne (by omega)]
        · rw [hI_ne (by omega), hI_ne (by omega)]
        · rw [hI_ne (by omega), hI_ne (by omega), hI_ne (by omega), hI_ne (by omega)]
        · rw [hI_ne (by omega), hI_ne (by omega), hI_ne (by omega), hI_ne (by omega)]
        · rw [hI_ne (by omega), hI_ne (by omega), hI_ne (by omega), hI_ne (by omega)]
        · rw [hI_ne (by omega), hI_is]
        · rw [hI_ne (by omega), hI_is]
end RP

-- THE RUN: a value is there, the operator that waits
section RN
variable {xs : Nat → Int32} {L d : Nat} {g : CTX} {hc hm hc2 hm2 : Hp} {q b M N : Nat} {u : Nat} {v : Int32}
theorem op_ix {c : Int32} (h : isOp c = true) : ∃ k, k < 128 ∧ 0 < k ∧ c = nI k := by
  unfold isOp at h
  simp only [Bool.or_eq_true, decide_eq_true_eq] at h
  rcases h with ((((h | h) | h) | h) | h) | h <;> subst h
  · exact ⟨43, by decide, by decide, rfl⟩
  · exact ⟨45, by decide, by decide, rfl⟩
  · exact ⟨42, by decide, by decide, rfl⟩
  · exact ⟨47, by decide, by decide, rfl⟩
  · exact ⟨60, by decide, by decide, rfl⟩
  · exact ⟨61, by decide, by decide, rfl⟩
theorem sm_pre {ar T : Nat → Int32} {p e : Nat} {lv : LV} {st : List LV} {J : List Int32} (h : sm ar T p false lv st = some (e, J)) : ∃ J1, J = opI lv.2.2 ++ J1 ∧ sm ar T p false (lv.1, lv.2.1, 0) st = some (e, J1) := by
  have h2 := sm_H0 (ar := ar) (T := T) (lv := lv) (st := st) (p := p) (op := lv.2.2)
  rw [show ((lv.1, lv.2.1, lv.2.2) : LV) = lv from rfl, h] at h2
  obtain ⟨K, h3, h4⟩ := prep_some h2.symm
  exact ⟨K, h4, h3⟩
/-- the class behind the operator that waits -/
def C0 (g : CTX) (hc hcV : Hp) (q b0 iV : Nat) (vV : Int32) : Prop := hI hcV (g.u + (2 + 2 * q)) 2 = nI iV ∧ hI hcV g.u 7 = nI (b0 + 1) ∧ hI hcV (g.u + 14) b0 = vV ∧ (∀ k, k < b0 → hI hcV (g.u + 14) k = hI hc (g.u + 14) k) ∧ (∀ k, ¬ k = 2 → hI hcV (g.u + (2 + 2 * q)) k = hI hc (g.u + (2 + 2 * q)) k) ∧ (∀ k, hI hcV (g.u + (3 + 2 * q)) k = hI hc (g.u + (3 + 2 * q)) k) ∧ (∀ k, ¬ k = 7 → hI hcV g.u k = hI hc g.u k) ∧ (∀ k, hI hcV (g.u + 15) k = hI hc (g.u + 15) k) ∧ (∀ k, hI hcV (g.u + 16) k = hI hc (g.u + 16) k) ∧ ∀ o k, hR hcV o k = hR hc o k
theorem c_opr (hP : PU g) {lv : LV} {st : List LV} {p e i : Nat} {J : List Int32} (hC : StC g u hc hm q b M lv st p e J i v) (hz : ¬ (lv.2.2 = 47 ∧ v = 0)) : ∃ hcV iV J1, ((hcV = hc) ∨ CS xs L (d + 3) g.u hc 1 hcV) ∧ UC g.u q b hc hcV ∧ J = opI lv.2.2 ++ J1 ∧ iV + J1.length = i + J.length ∧ i ≤ iV ∧ At (gI g (fl g q)) iV J1 ∧ sm g.ar (gT g (fl g q)) p false (lv.1, lv.2.1, 0) st = some (e, J1) ∧ C0 g hc hcV q (b + off st + lv.2.1) iV (cbV (6 * g.m + q) st.length hm) := by
  obtain ⟨hT, hE, hX, hA, h7, hv, h28, h27⟩ := id hC
  obtain ⟨x1, x2, x3, x4, x5, x6, x7, x8, x9, x10⟩ := id hX
  have hq := hT.2.2.1
  have hht := tp_x hP hT x5 x4
  have ho : off (lv :: st) = off st + lv.2.1 + (if lv.2.2 = 0 then 0 else 1) := rfl
  obtain ⟨J1, y1, y2⟩ := sm_pre x1
  obtain ⟨l1, l2, l3, l4, l5, l6⟩ := id x6
  by_cases c : lv.2.2 = 0
  · rw [if_pos c] at ho
    have hbo : b + off (lv :: st) = b + off st + lv.2.1 := by omega
    have e1 : opI lv.2.2 = [] := if_pos c
    rw [e1, List.nil_append] at y1
    subst y1
    refine ⟨hc, i, J, Or.inl rfl, uc_rfl, by rw [e1]; rfl, rfl, Nat.le_refl _, x2, y2, x9, by rw [h7, hbo], ?_, fun _ _ => rfl, fun _ _ => rfl, fun _ => rfl, fun _ _ => rfl, fun _ => rfl, fun _ => rfl, fun _ _ => rfl⟩
    unfold cbV
    rw [l3, if_pos c, h28, ← hv, hbo]
  · rw [if_neg c] at ho
    have e1 : opI lv.2.2 = [iw 3 lv.2.2] := if_neg c
    rw [e1] at y1
    have y1 : J = iw 3 lv.2.2 :: J1 := y1
    subst y1
    obtain ⟨k, k1, k2, k3⟩ := op_ix (x5.1.resolve_left c)
    have hz2 := af_z hA
    rw [List.length_cons] at hz2
    have hb0 : b + off (lv :: st) = b + off st + lv.2.1 + 1 := by omega
    rw [hb0] at h7 hv
    have hsum := l5 c
    have hro := r_operate (xs := xs) (L := L) (d := d) (h := sI hc (g.u + (2 + 2 * q)) 2 (nI (i + 1))) (n := b + off st + lv.2.1) (op := nI k) hT.1.1 (by rw [hI_ne (by omega)]; exact h7) (by omega) (by rw [hI_ne (by omega), hv, ← k3]; exact hz)
    rw [hI_ne (by omega), hI_ne (by omega), hv, hsum, ← k3] at hro
    have hcs : CS xs L (d + 3) g.u hc 1 (sI (sI (sI hc (g.u + (2 + 2 * q)) 2 (nI (i + 1))) (g.u + 14) (b + off st + lv.2.1) (cOp lv.2.2 (hI hm 68 (6 * (6 * g.m + q) + st.length)) v)) g.u 7 (nI (b + off st + lv.2.1 + 1))) := cs_mk (xs := xs) (L := L) (d := d) (op := 3) (k := k) (on := 1) hT.1 hq hT.2.2.2.1 fl_m hT.2.2.2.2.2.2.1.1 x9 (by omega) (by rw [← k3]; exact x2.1) (by decide) (by omega) (x_op (d := d) (v := 1) (res := (some (.inl 1), (sI (sI (sI hc (g.u + (2 + 2 * q)) 2 (nI (i + 1))) (g.u + 14) (b + off st + lv.2.1) (cOp lv.2.2 (hI hm 68 (6 * (6 * g.m + q) + st.length)) v)) g.u 7 (nI (b + off st + lv.2.1 + 1))))) (by rw [← k3]; exact hro) hT.1.1.1 (Or.inr rfl) rfl)
    have ev : cbV (6 * g.m + q) st.length hm = cOp lv.2.2 (hI hm 68 (6 * (6 * g.m + q) + st.length)) v := by
      unfold cbV
      rw [l3, if_neg c, h28]
    rw [ev]
    refine ⟨(sI (sI (sI hc (g.u + (2 + 2 * q)) 2 (nI (i + 1))) (g.u + 14) (b + off st + lv.2.1) (cOp lv.2.2 (hI hm 68 (6 * (6 * g.m + q) + st.length)) v)) g.u 7 (nI (b + off st + lv.2.1 + 1))), i + 1, J1, Or.inr hcs, uc_u (uc_v (by omega) (uc_f hq uc_rfl)), by rw [e1]; rfl, by rw [List.length_cons]; omega, by omega, x2.2, y2, ?_, hI_is, ?_, fun k2 hk2 => ?_, fun k2 hk2 => ?_, fun k2 => ?_, fun k2 hk2 => ?_, fun k2 => ?_, fun k2 => ?_, fun _ _ => rfl⟩
    · rw [hI_ne (by omega), hI_ne (by omega), hI_is]
    · rw [hI_ne (by omega), hI_is]
    · rw [hI_ne (by omega), hI_ne (by omega), hI_ne (by omega)]
    · rw [hI_ne (by omega), hI_ne (by omega), hI_ne (by omega)]
    · rw [hI_ne (by omega), hI_ne (by omega), hI_ne (by omega)]
    · rw [hI_ne (by omega), hI_ne (by omega), hI_ne (by omega)]
    · rw [hI_ne (by omega), hI_ne (by omega), hI_ne (by omega)]
    · rw [hI_ne (by omega), hI_ne (by omega), hI_ne (by omega)]
/-- a division by 0 -/
theorem c_div0 (hP : PU g) {lv : LV} {st : List LV} {p e i : Nat} {J : List Int32} (hC : StC g u hc hm q b M lv st p e J i v) (hz : lv.2.2 = 47 ∧ v = 0) (ihA : ∀ hc2 hm2 j bj Mj p3 i hd oh, StA g u hc2 hm2 j bj Mj p3 i hd oh → Mj + 200 ≤ M + (353 - p) → DNE xs L d g u hc2 hm2 (8 * (Mj + (153 - p3)))) : DNE xs L d g u hc hm (8 * (M + (353 - p))) := by
  obtain ⟨hT, hE, hX, hA, h7, hv, h28, h27⟩ := id hC
  obtain ⟨x1, x2, x3, x4, x5, x6, x7, x8, x9, x10⟩ := id hX
  have hq := hT.2.2.1
  have hht := tp_x hP hT x5 x4
  have hm2 := pu_m hP
  have ho : off (lv :: st) = off st + lv.2.1 + (if lv.2.2 = 0 then 0 else 1) := rfl
  rw [if_neg (by rw [hz.1]; decide)] at ho
  obtain ⟨J1, y1, y2⟩ := sm_pre x1
  have e1 : opI lv.2.2 = [iw 3 47] := by rw [hz.1]; rfl
  rw [e1] at y1
  have y1 : J = iw 3 47 :: J1 := y1
  subst y1
  obtain ⟨l1, l2, l3, l4, l5, l6⟩ := id x6
  have hb0 : b + off (lv :: st) = b + off st + lv.2.1 + 1 := by omega
  rw [hb0] at h7 hv
  have hz2 := af_z hA
  rw [List.length_cons] at hz2
  have hpl : p ≤ 152 := by have := (pu_tx (q := q) hP).1.1; omega
  have u1 : UC g.u q b hc (sI (sI hc (g.u + (2 + 2 * q)) 2 (nI (i + 1))) g.u 7 (nI (b + off st + lv.2.1))) := uc_u (uc_f hq uc_rfl)
  have u2 : UM g.m q hm (sI (sI hm 49 27 3) 49 28 1001) := um_sI (um_sI um_rfl (by unfold OwM; omega)) (by unfold OwM; omega)
  refine dne_le (M := 8 * (M + (353 - p)) - 1) (s_throw (hcx := sI (sI hc (g.u + (2 + 2 * q)) 2 (nI (i + 1))) g.u 7 (nI (b + off st + lv.2.1))) (hmx := sI (sI hm 49 27 3) 49 28 1001) (i := i) (e := e) (ie := i + (iw 3 47 :: J1).length) (what := 1001) hP (tp_mk hP hT u1 u2 ?_ ?_ (fv_same hT.2.2.2.2.2.2.1 rfl (fun _ => ?_) (fun k _ => ?_) ?_ ?_) ?_) (es_same hE ?_ (fun _ => ?_) ?_ ?_ (fun k => ?_) ?_) (af_same (Nat.le_refl _) hA ?_ ?_) (by omega) ?_ ?_ hI_is u1 u2 (fun on hc2 hon hr => ?_) (fun res hp2 => p_comb0 (d := d + 3) hT.2.1.1 hm2 hT.2.2.2.2.1 hq h27 (m_cb_div0 (d := d + 2) (l := st.length) hT.2.1.1 (by omega) x8 (by omega) (by rw [l3]; exact hz.1) (by rw [h28]; exact hz.2)) hp2) (by omega) ihA) (by omega)
  · rw [hI_ne (by omega), hI_ne (by omega)]
  · rw [hI_ne (by omega), hI_ne (by omega)]
  · rw [hI_ne (by omega), hI_ne (by omega)]
  · rw [hI_ne (by omega), hI_ne (by omega)]
  · rw [hI_ne (by omega), hI_ne (by omega)]
  · rw [hI_ne (by omega), hI_ne (by omega)]
  · rw [hI_ne (by omega), hI_ne (by omega)]
  · rw [hI_ne (by omega), hI_ne (by omega)]
  · rw [hI_ne (by omega), hI_ne (by omega)]
  · rw [hI_ne (by omega), hI_ne (by omega)]
  · rw [hI_ne (by omega), hI_ne (by omega)]
  · rw [hI_ne (by omega), hI_ne (by omega)]
  · rw [hI_ne (by omega), hI_ne (by omega)]
  · rw [hI_ne (by omega), hI_ne (by omega)]
  · rw [hI_ne (by omega), hI_ne (by omega)]
  · rw [hI_ne (by omega), hI_is]
  · rw [hI_ne (by omega), hI_is]
  · have hr0 := r_operate0 (xs := xs) (L := L) (d := d) (h := sI hc (g.u + (2 + 2 * q)) 2 (nI (i + 1))) (n := b + off st + lv.2.1) (w := on) (h2 := hc2) hT.1.1 (by rw [hI_ne (by omega)]; exact h7) (by omega) (by rw [hI_ne (by omega), hv]; exact hz.2) hon (hr d)
    exact cs_mk (op := 3) (k := 47) hT.1 hq hT.2.2.2.1 fl_m hT.2.2.2.2.2.2.1.1 x9 (by omega) x2.1 (by decide) (by decide) (x_op (d := d) (v := on) (res := (some (.inl on), hc2)) hr0 hT.1.1.1 hon rfl)
end RN

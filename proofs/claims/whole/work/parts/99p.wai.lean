-- WAITING, with other heaps and tables
section TR2
variable {ar T tx : Nat → Int32} {n z : Nat}
def Par (T Q : Nat → Int32) (x : Nat) : Prop := ∃ o, Q x = nI o ∧ o < x ∧ T o = 123
theorem hsc_par : ∀ (m p : Nat) (stk : List Nat) (Q : Nat → Int32) (q : Nat) (R : Nat → Int32), n - p ≤ m → hsc T n p stk Q = some (q, R) → (∀ o, o ∈ stk → o < p ∧ T o = 123) → ∀ x, T x = 125 → (Par T Q x ∨ (p ≤ x ∧ x < q)) → Par T R x := by
  intro m
  induction m with
  | zero =>
    intro p stk Q q R hm h hs x hx hp
    cases stk with
    | nil =>
      rw [hsc_nil] at h
      cases h
      exact hp.elim id (fun z => by omega)
    | cons o st => rw [hsc_no (by omega)] at h; cases h
  | succ m ih =>
    intro p stk Q q R hm h hs x hx hq
    cases stk with
    | nil =>
      rw [hsc_nil] at h
      cases h
      exact hq.elim id (fun z => by omega)
    | cons o st =>
      by_cases hp : p < n
      · by_cases c1 : T p = 123
        · rw [hsc_open hp c1] at h
          by_cases c2 : 6 ≤ st.length + 1
          · rw [if_pos c2] at h; cases h
          · rw [if_neg c2] at h
            refine ih (p + 1) (p :: o :: st) Q q R (by omega) h (fun y hy => ?_) x hx (hq.imp id (fun w => ?_))
            · rcases List.mem_cons.mp hy with e | e
              · rw [e]; exact ⟨by omega, c1⟩
              · obtain ⟨a1, a2⟩ := hs y e
                exact ⟨by omega, a2⟩
            · have : ¬ x = p := fun e => by rw [e, c1] at hx; exact absurd hx (by decide)
              omega
        · by_cases c2 : T p = 125
          · rw [hsc_close hp c2] at h
            obtain ⟨o1, o2⟩ := hs o List.mem_cons_self
            refine ih (p + 1) st _ q R (by omega) h (fun y hy => ?_) x hx ?_
            · obtain ⟨a1, a2⟩ := hs y (List.mem_cons_of_mem _ hy)
              exact ⟨by omega, a2⟩
            · have hxo : ¬ x = o := fun e => by rw [e, o2] at hx; exact absurd hx (by decide)
              by_cases e1 : x = p
              · subst e1
                exact Or.inl ⟨o, by rw [up_ne hxo, up_eq], o1, o2⟩
              · rcases hq with ⟨y, y1, y2, y3⟩ | hq
                · exact Or.inl ⟨y, by rw [up_ne hxo, up_ne e1]; exact y1, y2, y3⟩
                · exact Or.inr ⟨by omega, hq.2⟩
          · rw [hsc_1 hp c1 c2] at h
            refine ih (p + 1) (o :: st) Q q R (by omega) h (fun y hy => ?_) x hx (hq.imp id (fun w => ?_))
            · obtain ⟨a1, a2⟩ := hs y hy
              exact ⟨by omega, a2⟩
            · have : ¬ x = p := fun e => by rw [e] at hx; exact c2 hx
              omega
      · rw [hsc_no hp] at h; cases h
theorem hds_par : ∀ (m p : Nat) (bd : Nat → Nat) (ay Q : Nat → Int32) (bd' : Nat → Nat) (ay' Q' : Nat → Int32), n - p ≤ m → hds T n p bd ay Q = some (bd', ay', Q') → ∀ x, T x = 125 → (Par T Q x ∨ (p ≤ x ∧ x < n)) → Par T Q' x := by
  intro m
  induction m with
  | zero =>
    intro p bd ay Q bd' ay' Q' hm h x hx hq
    rw [hds_end (by omega)] at h
    cases h
    exact hq.elim id (fun z => by omega)
  | succ m ih =>
    intro p bd ay Q bd' ay' Q' hm h x hx hq
    by_cases hp : p < n
    · by_cases hc : 65 ≤ T p ∧ T p ≤ 68 ∧ bd (fx (T p)) = 0 ∧ 48 ≤ T (p + 1) ∧ T (p + 1) ≤ 51 ∧ T (p + 2) = 123
      · cases hs : hsc T n (p + 3) [p + 2] Q with
        | none => rw [hds_none hp hc hs] at h; cases h
        | some y =>
          obtain ⟨q, R⟩ := y
          by_cases hpq : p < q
          · rw [hds_some hp hc hs hpq] at h
            refine ih q _ _ R bd' ay' Q' (by omega) h x hx ?_
            by_cases c : q ≤ x ∧ x < n
            · exact Or.inr c
            · refine Or.inl (hsc_par n (p + 3) [p + 2] Q q R (by omega) hs (fun o ho => ?_) x hx (hq.imp id (fun w => ?_)))
              · have : o = p + 2 := by simpa using ho
                subst this
                exact ⟨by omega, hc.2.2.2.2.2⟩
              · have c0 : ¬ x = p := fun e => by rw [e] at hx; rw [hx] at hc; exact absurd hc.2.1 (by decide)
                have c1 : ¬ x = p + 1 := fun e => by rw [e] at hx; rw [hx] at hc; exact absurd hc.2.2.2.2.1 (by decide)
                have c2 : ¬ x = p + 2 := fun e => by rw [e] at hx; rw [hx] at hc; exact absurd hc.2.2.2.2.2 (by decide)
                omega
          · have : hds T n p bd ay Q = none := by
              rw [hds.eq_def T n p bd ay Q, dif_pos hp, if_pos hc, hs]
              exact dif_neg hpq
            rw [this] at h; cases h
      · rw [hds_no hp hc] at h; cases h
    · rw [hds_end hp] at h
      cases h
      exact hq.elim id (fun z => by omega)
end TR2
def PDt.re (x : PDt) (K W Z V : Nat → Int32) : PDt := (x.T, x.n, x.tx, x.s, K, W, Z, V, x.bd)
def EqC (pg : Nat) (h h2 : Hp) : Prop := ∀ o, ((12 ≤ o ∧ o < 29) ∨ (pg ≤ o ∧ o < pg + 6)) → hK h2 o = hK h o ∧ hL h2 o = hL h o ∧ (∀ k, hR h2 o k = hR h o k) ∧ ∀ k, hI h2 o k = hI h o k
def EqM (h h2 : Hp) : Prop := hI h2 62 0 = hI h 62 0 ∧ (∀ o k, (o = 63 ∨ o = 64 ∨ o = 65 ∨ o = 67) → k < 6 → hI h2 o k = hI h o k) ∧ (∀ o k, (o = 66 ∨ o = 68 ∨ o = 69 ∨ o = 70 ∨ o = 71) → k < 36 → hI h2 o k = hI h o k) ∧ ∀ k, k < 108 → hI h2 72 k = hI h 72 k
section TR3
variable {x : PDt} {K W Z V : Nat → Int32} {pg tf tf2 : Nat} {a a2 : ADt} {hc hm hc2 hm2 : Hp} {q b M : Nat}
theorem fl_m0 : fl (mkG x pg 0 a tf) q = false := decide_eq_false (fun z => absurd (show (0 : Nat) = 1 from z.1) (by decide))
theorem fv_tr (hq : q < 6) (hC : EqC pg hc hc2) (hM : EqM hm hm2) (h : FV (mkG x pg 0 a tf) hc hm q) : FV (mkG (x.re K W Z V) pg 0 a2 tf2) hc2 hm2 q := by
  obtain ⟨a1, a2, a3⟩ := h
  rw [fl_m0] at a1 a3
  unfold FV
  rw [fl_m0]
  have c1 := hC (12 + (2 + 2 * q)) (by omega)
  have c2 := hC (12 + (3 + 2 * q)) (by omega)
  exact ⟨(c1.2.2.1 1).trans a1, fun v hv => (c2.2.2.2 v).trans ((a2 v hv).trans (hM.2.2.1 66 (6 * (6 * 0 + q) + v) (by omega) (by omega)).symm), fun _ => (c1.2.2.2 4).trans ((a3 rfl).trans (hM.2.1 63 (6 * 0 + q) (by omega) (by omega)).symm)⟩
theorem xf_tr {bq p e i : Nat} {w : Bool} {lv : LV} {st : List LV} {J : List Int32} (hq : q < 6) (hC : EqC pg hc hc2) (hM : EqM hm hm2) (h : XF (mkG x pg 0 a tf) hc hm q bq w p lv st e J i) : XF (mkG (x.re K W Z V) pg 0 a2 tf2) hc2 hm2 q bq w p lv st e J i := by
  obtain ⟨a1, a2, a3, a4, a5, a6, a7, a8, a9, a10⟩ := h
  rw [fl_m0] at a1 a2 a3 a7 a10
  unfold XF
  rw [fl_m0]
  have c1 := hC (12 + (2 + 2 * q)) (by omega)
  have c14 := hC (12 + 14) (by omega)
  have hl : (lv :: st).length = st.length + 1 := rfl
  exact ⟨a1, a2, a3, a4, a5, lr_congr (μ := 12) (t := 6 * 0 + q) (lv :: st) (fun k _ => c14.2.2.2 k) (fun o k ho hk => hM.2.2.1 o k (by omega) (by omega)) (fun k hk => hM.2.2.2 k (by omega)) (fun l hl2 => by have := wl_seen _ a5 l hl2; omega) a6, (hM.2.1 64 (6 * 0 + q) (by omega) (by omega)).trans a7, (hM.2.1 67 (6 * 0 + q) (by omega) (by omega)).trans a8, (c1.2.2.2 2).trans a9, fun _ => (c1.2.2.2 3).trans (a10 rfl)⟩
theorem ed_tr {pl e ie : Nat} {hd oh : Int32} (hT : TX x.T x.n) (hA : AgV x.T x.n x.K x.W x.Z x.V K W Z V) (h : ED (mkG x pg 0 a tf) pl e ie hd oh) : ED (mkG (x.re K W Z V) pg 0 a2 tf2) pl e ie hd oh := by
  rcases h with ⟨h1, h2, h3, h4, h5⟩ | ⟨h1, h2, j, c, h3, h4, h5, h6, h7, h8⟩
  · exact Or.inl ⟨h1, h2, h3, h4, fr_ag hT hA h5⟩
  · have hen : e < x.n := by have : c < x.n := h6; omega
    exact Or.inr ⟨h1, h2, j, c, h3, (hA.1 e hen h2).2.1.trans h4, h5, h6, fr_ag hT hA h7, fr_ag hT hA h8⟩
theorem af_tr {i e ie : Nat} (hq : q < 6) (hT : TX x.T x.n) (hA : AgV x.T x.n x.K x.W x.Z x.V K W Z V) (hC : EqC pg hc hc2) (hM : EqM hm hm2) (h : AF (mkG x pg 0 a tf) hc hm q i e ie) : AF (mkG (x.re K W Z V) pg 0 a2 tf2) hc2 hm2 q i e ie := by
  rcases h with ⟨h1, -⟩ | ⟨h1, pl, hd, oh, h2, h3, h4, h5, h6, h7, h8⟩
  · rw [fl_m0] at h1; cases h1
  · have c1 := hC (12 + (2 + 2 * q)) (by omega)
    have h3' : pl < x.n := h3
    exact Or.inr ⟨fl_m0, pl, hd, oh, (hM.2.1 65 (6 * 0 + q) (by omega) (by omega)).trans h2, h3, (c1.2.2.2 5).trans (h4.trans (hA.2.2 pl h3').symm), (trF_ag hA pl (by omega)).trans h5, h6, h7, ed_tr hT hA h8⟩
theorem low_tr (hT : TX x.T x.n) (hA : AgV x.T x.n x.K x.W x.Z x.V K W Z V) (hC : EqC pg hc hc2) (hM : EqM hm hm2) : ∀ (q b M : Nat), q ≤ 6 → LOW (mkG x pg 0 a tf) hc hm q b M → LOW (mkG (x.re K W Z V) pg 0 a2 tf2) hc2 hm2 q b M := by
  intro q
  induction q with
  | zero => exact fun _ _ _ h => h
  | succ q ih =>
    intro b M hq h
    obtain ⟨bq, lv, st, p, e, J, i, M', h1, h2, h3, h4, h5, h6⟩ := h
    exact ⟨bq, lv, st, p, e, J, i, M', ih bq M' (by omega) h1, fv_tr (by omega) hC hM h2, xf_tr (by omega) hC hM h3, af_tr (by omega) hT hA hC hM h4, h5, h6⟩
theorem sc_tr (hC : EqC pg hc hc2) (h : SCh (mkG x pg 0 a tf) hc) : SCh (mkG (x.re K W Z V) pg 0 a2 tf2) hc2 := by
  obtain ⟨s1, s2, s3, s4, s5, s6, s7, s8⟩ := h
  have c12 := hC 12 (by omega)
  have c0 := hC pg (by omega)
  have c1 := hC (pg + 1) (by omega)
  have c2 := hC (pg + 2) (by omega)
  have c3 := hC (pg + 3) (by omega)
  have c4 := hC (pg + 4) (by omega)
  have c5 := hC (pg + 5) (by omega)
  obtain ⟨p1, p2, p3, p4, p5, p6, p7, p8⟩ := s3
  refine ⟨mi_same (fun o h1 h2 => by have := hC o (Or.inl ⟨h1, h2⟩); exact ⟨this.1, this.2.1, this.2.2.1⟩) s1, (c12.2.2.1 3).trans s2, ⟨c0.1.trans p1, (c0.2.2.1 0).trans p2, (c0.2.2.1 1).trans p3, (c0.2.2.1 2).trans p4, c4.1.trans p5, c4.2.1.trans p6, c5.1.trans p7, c5.2.1.trans p8⟩, fun al hal => ?_, fun k hk => (c3.2.2.2 k).trans (s5 k hk), fun z => absurd (show (0 : Nat) = 1 from z) (by decide), fun f hf => (c4.2.2.2 f).trans (s7 f hf), fun f hf => (c5.2.2.2 f).trans (s8 f hf)⟩
  cases al with
  | true => exact absurd (show (0 : Nat) = 1 from hal rfl) (by decide)
  | false =>
    obtain ⟨⟨q1, q2, q3, q4, q5, q6, q7, q8, q9⟩, q10⟩ := s4 false (fun z => by cases z)
    exact ⟨⟨c1.1.trans q1, (c1.2.2.1 0).trans q2, (c1.2.2.1 1).trans q3, (c1.2.2.2 2).trans q4, c2.1.trans q5, c2.2.1.trans q6, c3.1.trans q7, c3.2.1.trans q8, q9⟩, fun k hk => (c2.2.2.2 k).trans (q10 k hk)⟩
theorem wai_tr (hT : TX x.T x.n) (hA : AgV x.T x.n x.K x.W x.Z x.V K W Z V) (hC : EqC pg hc hc2) (hM : EqM hm hm2) (hS : SMh (mkG (x.re K W Z V) pg 0 a2 tf2) hm2) (h : WAI (mkG x pg 0 a tf) hc hm) : WAI (mkG (x.re K W Z V) pg 0 a2 tf2) hc2 hm2 := by
  obtain ⟨h4, q, b, M, pl, i, hd, oh, ⟨t1, t2, t3, t4, t5, t6, t7, t8⟩, ha, hf, h125, h65, h5, h2, h7⟩ := h
  have c12 := hC 12 (by omega)
  have c1 := hC (12 + (2 + 2 * q)) (by omega)
  have hpl : pl < x.n := (fr_p hT hf).1
  exact ⟨(c12.2.2.2 4).trans h4, q, b, M, pl, i, hd, oh, ⟨sc_tr hC t1, hS, t3, (c12.2.2.2 6).trans t4, hM.1.trans t5, low_tr hT hA hC hM q b M (by omega) t6, fv_tr t3 hC hM t7, fun _ => (c1.2.2.2 3).trans (t8 ha)⟩, fl_m0, fr_ag hT hA hf, h125, (hM.2.1 65 (6 * 0 + q) (by omega) (by omega)).trans h65, (c1.2.2.2 5).trans (h5.trans (hA.2.2 pl hpl).symm), (c1.2.2.2 2).trans h2, (c12.2.2.2 7).trans h7⟩
end TR3

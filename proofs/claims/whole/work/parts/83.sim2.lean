-- THE RUN: what stays
section RD
variable {g : CTX} {hc hm hc2 hm2 : Hp} {q b M : Nat}
theorem uc_hi (hu : g.u = 12 ∨ g.u = 29) (h : UC g.u q b hc hc2) {o k : Nat} (ho : 80 ≤ o) : hI hc2 o k = hI hc o k ∧ hR hc2 o k = hR hc o k := by
  refine ⟨?_, ?_⟩
  · rcases h.2.2.2.2 o k with e | e
    · exact e
    · unfold OwC at e
      omega
  · rcases h.2.2.2.1 o k with e | e
    · exact e
    · omega
theorem mi_uc (h : UC g.u q b hc hc2) (hM : MI g.u hc) : MI g.u hc2 := by
  obtain ⟨m0, m1, m2, m3, m4, m5, m6, m7, m8, m9, m10, m11, mf⟩ := hM
  have hK := fun o => (h.2.2.1 o).1
  have hL := fun o => (h.2.2.1 o).2
  have hRn : ∀ o k, ¬ (k = 1 ∧ ∃ j, q ≤ j ∧ j < 6 ∧ o = g.u + (2 + 2 * j)) → hR hc2 o k = hR hc o k := fun o k hn => (h.2.2.2.1 o k).resolve_right hn
  refine ⟨by rw [hK]; exact m0, by rw [hRn _ _ (by omega)]; exact m1, by rw [hRn _ _ (by omega)]; exact m2, by rw [hRn _ _ (by omega)]; exact m3, by rw [hK]; exact m4, by rw [hL]; exact m5, by rw [hK]; exact m6, by rw [hL]; exact m7, by rw [hK]; exact m8, by rw [hRn _ _ (by omega)]; exact m9, by rw [hK]; exact m10, by rw [hL]; exact m11, fun i hi => ?_⟩
  obtain ⟨f1, f2, f3, f4, f5⟩ := mf i hi
  exact ⟨by rw [hRn _ _ (by omega)]; exact f1, by rw [hK]; exact f2, by rw [hRn _ _ (by omega)]; exact f3, by rw [hK]; exact f4, by rw [hL]; exact f5⟩
theorem mi_ud {code : Int32} (h : UD g.u code hc hc2) (hM : MI g.u hc) : MI g.u hc2 := by
  obtain ⟨m0, m1, m2, m3, m4, m5, m6, m7, m8, m9, m10, m11, mf⟩ := hM
  have hK := fun o => (h.2.2.1 o).1
  have hL := fun o => (h.2.2.1 o).2
  have hRn : ∀ o k, ¬ (k = 1 ∧ ∃ j, 0 ≤ j ∧ j < 6 ∧ o = g.u + (2 + 2 * j)) → hR hc2 o k = hR hc o k := fun o k hn => (h.2.2.2.1 o k).resolve_right hn
  refine ⟨by rw [hK]; exact m0, by rw [hRn _ _ (by omega)]; exact m1, by rw [hRn _ _ (by omega)]; exact m2, by rw [hRn _ _ (by omega)]; exact m3, by rw [hK]; exact m4, by rw [hL]; exact m5, by rw [hK]; exact m6, by rw [hL]; exact m7, by rw [hK]; exact m8, by rw [hRn _ _ (by omega)]; exact m9, by rw [hK]; exact m10, by rw [hL]; exact m11, fun i hi => ?_⟩
  obtain ⟨f1, f2, f3, f4, f5⟩ := mf i hi
  exact ⟨by rw [hRn _ _ (by omega)]; exact f1, by rw [hK]; exact f2, by rw [hRn _ _ (by omega)]; exact f3, by rw [hK]; exact f4, by rw [hL]; exact f5⟩
theorem pu_u (hP : PU g) : (g.u = 12 ∧ g.m = 0) ∨ (g.u = 29 ∧ g.m = 1) := hP.1
theorem pu_ids (hP : PU g) : 80 ≤ g.pg ∧ 80 ≤ g.st ∧ 80 ≤ g.pa ∧ 80 ≤ g.ha ∧ ∀ a : Bool, (a = true → g.m = 1) → 80 ≤ gc g a ∧ 80 ≤ gi g a ∧ 80 ≤ gh g a := by
  obtain ⟨-, -, -, -, -, -, -, -, ⟨i1, i2, i3, i4, i5, i6⟩, i7⟩ := hP
  refine ⟨i1, i5, i6, i4, fun a ha => ?_⟩
  cases a with
  | true => exact i7 (ha rfl)
  | false => exact ⟨i2, i3, i4⟩
theorem sc_uc (hP : PU g) (h : UC g.u q b hc hc2) (hS : SCh g hc) : SCh g hc2 := by
  have hu : g.u = 12 ∨ g.u = 29 := by rcases pu_u hP with e | e <;> omega
  obtain ⟨j1, j2, j3, j4, j5⟩ := pu_ids hP
  obtain ⟨s1, s2, ⟨p1, p2, p3, p4, p5, p6, p7, p8⟩, s4, s5, s6, s7, s8⟩ := hS
  have hK := fun o => (h.2.2.1 o).1
  have hL := fun o => (h.2.2.1 o).2
  have hI' : ∀ o k, 80 ≤ o → hI hc2 o k = hI hc o k := fun o k ho => (uc_hi hu h ho).1
  have hR' : ∀ o k, 80 ≤ o → hR hc2 o k = hR hc o k := fun o k ho => (uc_hi hu h ho).2
  refine ⟨mi_uc h s1, ?_, ⟨by rw [hK]; exact p1, by rw [hR' _ _ j1]; exact p2, by rw [hR' _ _ j1]; exact p3, by rw [hR' _ _ j1]; exact p4, by rw [hK]; exact p5, by rw [hL]; exact p6, by rw [hK]; exact p7, by rw [hL]; exact p8⟩, fun a ha => ?_, fun k hk => by rw [hI' _ _ j4]; exact s5 k hk, fun hm k hk => ?_, fun f hf => by rw [hI' _ _ j2]; exact s7 f hf, fun f hf => by rw [hI' _ _ j3]; exact s8 f hf⟩
  · rcases h.2.2.2.1 g.u 3 with e | e
    · rw [e]; exact s2
    · omega
  · obtain ⟨k1, k2, k3⟩ := j5 a ha
    obtain ⟨⟨c1, c2, c3, c4, c5, c6, c7, c8, c9⟩, d1⟩ := s4 a ha
    exact ⟨⟨by rw [hK]; exact c1, by rw [hR' _ _ k1]; exact c2, by rw [hR' _ _ k1]; exact c3, by rw [hI' _ _ k1]; exact c4, by rw [hK]; exact c5, by rw [hL]; exact c6, by rw [hK]; exact c7, by rw [hL]; exact c8, c9⟩, fun k hk => by rw [hI' _ _ k2]; exact d1 k hk⟩
  · have : 80 ≤ g.hA := (j5 true (fun _ => hm)).2.2
    rw [hI' _ _ this]
    exact s6 hm k hk
theorem um_o {m o k : Nat} (h : UM m q hm hm2) (ho : ¬ OwM m q o k) : hI hm2 o k = hI hm o k := (h.2.2.2.2 o k).resolve_right ho
theorem mo_eq {h h2 : Hp} (h1 : ∀ o, hK h2 o = hK h o ∧ hL h2 o = hL h o) (h3 : ∀ o k, hR h2 o k = hR h o k) (hO : MO h) : MO h2 := by
  have e1 : hK h2 = hK h := funext (fun o => (h1 o).1)
  have e2 : hL h2 = hL h := funext (fun o => (h1 o).2)
  have e3 : hR h2 = hR h := funext (fun o => funext (h3 o))
  unfold MO at hO ⊢
  rw [e1, e2, e3]
  exact hO
theorem sm_um {m : Nat} (h : UM m q hm hm2) (hS : SMh g hm) : SMh g hm2 := by
  obtain ⟨s1, s2, s3, s4, s5, s6, s7⟩ := hS
  refine ⟨mo_eq h.2.2.1 h.2.2.2.1 s1, fun a ha j hj => ?_, fun f hf hne => ?_, fun k => ?_, fun k => ?_, fun k => ?_, fun k => ?_⟩
  · rw [um_o h (by unfold OwM; omega)]; exact s2 a ha j hj
  · rw [um_o h (by unfold OwM; omega), um_o h (by unfold OwM; omega)]; exact s3 f hf hne
  · rw [um_o h (by unfold OwM; omega)]; exact s4 k
  · rw [um_o h (by unfold OwM; omega)]; exact s5 k
  · rw [um_o h (by unfold OwM; omega)]; exact s6 k
  · rw [um_o h (by unfold OwM; omega)]; exact s7 k
theorem uc_o {μ o k : Nat} (h : UC μ q b hc hc2) (ho : ¬ OwC μ q b o k) : hI hc2 o k = hI hc o k := (h.2.2.2.2 o k).resolve_right ho
theorem owc_f {μ i k : Nat} (hi : i < q) (hq : q ≤ 6) : ¬ OwC μ q b (μ + (2 + 2 * i)) k ∧ ¬ OwC μ q b (μ + (3 + 2 * i)) k := by
  unfold OwC
  refine ⟨?_, ?_⟩
  · rintro (h | h | h | ⟨j, h1, h2, h3⟩ | h) <;> omega
  · rintro (h | h | h | ⟨j, h1, h2, h3⟩ | h) <;> omega
theorem owc_v {μ k : Nat} (hk : k < b) : ¬ OwC μ q b (μ + 14) k := by
  unfold OwC
  rintro (h | h | h | ⟨j, h1, h2, h3⟩ | h) <;> omega
theorem fv_uc {i : Nat} (hi : i < q) (hq : q ≤ 6) (h1 : UC g.u q b hc hc2) (h2 : UM g.m q hm hm2) (h : FV g hc hm i) : FV g hc2 hm2 i := by
  obtain ⟨a1, a2, a3⟩ := h
  refine ⟨?_, fun v hv => ?_, fun hf => ?_⟩
  · rcases h1.2.2.2.1 (g.u + (2 + 2 * i)) 1 with e | e
    · rw [e]; exact a1
    · omega
  · rw [uc_o h1 (owc_f hi hq).2, um_o h2 (by unfold OwM; omega)]; exact a2 v hv
  · rw [uc_o h1 (owc_f hi hq).1, um_o h2 (by unfold OwM; omega)]; exact a3 hf
theorem af_uc {i x e ie : Nat} (hi : i < q) (hq : q ≤ 6) (h1 : UC g.u q b hc hc2) (h2 : UM g.m q hm hm2) (h : AF g hc hm i x e ie) : AF g hc2 hm2 i x e ie := by
  rcases h with h | ⟨h3, pl, hd, oh, a1, a2, a3, a4⟩
  · exact Or.inl h
  · refine Or.inr ⟨h3, pl, hd, oh, ?_, a2, ?_, a4⟩
    · rw [um_o h2 (by unfold OwM; omega)]; exact a1
    · rw [uc_o h1 (owc_f hi hq).1]; exact a3
theorem xf_uc {i bi p e x : Nat} {w : Bool} {lv : LV} {st : List LV} {J : List Int32} (hi : i < q) (hq : q ≤ 6) (hb : bi + off (lv :: st) ≤ b) (h1 : UC g.u q b hc hc2) (h2 : UM g.m q hm hm2) (h : XF g hc hm i bi w p lv st e J x) : XF g hc2 hm2 i bi w p lv st e J x := by
  obtain ⟨a1, a2, a3, a4, a5, a6, a7, a8, a9, a10⟩ := h
  have hl : (lv :: st).length = st.length + 1 := rfl
  refine ⟨a1, a2, a3, a4, a5, lr_congr _ (fun k hk => uc_o h1 (owc_v (by omega))) (fun o k ho hk => um_o h2 (by unfold OwM; omega)) (fun k hk => um_o h2 (by unfold OwM; omega)) (fun l hl => by have := wl_seen _ a5 l hl; omega) a6, ?_, ?_, ?_, ?_⟩
  · rw [um_o h2 (by unfold OwM; omega)]; exact a7
  · rw [um_o h2 (by unfold OwM; omega)]; exact a8
  · rw [uc_o h1 (owc_f hi hq).1]; exact a9
  · intro z; rw [uc_o h1 (owc_f hi hq).1]; exact a10 z
theorem low_uc : ∀ (q b M : Nat) (hc hc2 hm hm2 : Hp), q ≤ 6 → UC g.u q b hc hc2 → UM g.m q hm hm2 → LOW g hc hm q b M → LOW g hc2 hm2 q b M := by
  intro q
  induction q with
  | zero => exact fun b M hc hc2 hm hm2 _ _ _ h => h
  | succ q ih =>
    intro b M hc hc2 hm hm2 hq h1 h2 h
    obtain ⟨bq, lv, st, p, e, J, i, M', a1, a2, a3, a4, a5, a6⟩ := h
    have w1 : UC g.u q bq hc hc2 := ⟨h1.1, h1.2.1, h1.2.2.1, fun o k => (h1.2.2.2.1 o k).imp id (fun ⟨z1, j, z2, z3, z4⟩ => ⟨z1, j, by omega, z3, z4⟩), fun o k => (h1.2.2.2.2 o k).imp id (fun z => owc_le z (by omega) (by omega))⟩
    have w2 : UM g.m q hm hm2 := ⟨h2.1, h2.2.1, h2.2.2.1, h2.2.2.2.1, fun o k => (h2.2.2.2.2 o k).imp id (fun z => owm_le z (by omega))⟩
    exact ⟨bq, lv, st, p, e, J, i, M', ih bq M' hc hc2 hm hm2 (by omega) w1 w2 a1, fv_uc (by omega) hq h1 h2 a2, xf_uc (by omega) hq (by omega) h1 h2 a3, af_uc (by omega) hq h1 h2 a4, a5, a6⟩
theorem low_b : ∀ (q b M : Nat), LOW g hc hm q b M → b ≤ 16 * q ∧ M ≤ 353 * q := by
  intro q
  induction q with
  | zero => intro b M h; obtain ⟨h1, h2⟩ := h; omega
  | succ q ih =>
    intro b M h
    obtain ⟨bq, lv, st, p, e, J, i, M', a1, a2, a3, a4, a5, a6⟩ := h
    have h1 := ih bq M' a1
    have h2 := off_le _ a3.2.2.2.2.1
    have h3 := a3.2.2.2.1
    rw [List.length_cons] at h2
    omega
end RD

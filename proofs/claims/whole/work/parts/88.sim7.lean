-- THE RUN: what is thrown is caught in the same frame, or nowhere
section RI
variable {xs : Nat → Int32} {L d : Nat} {g : CTX} {hc hm hc2 hm2 : Hp} {q b M N : Nat} {u : Nat} {what : Int32}
theorem hcx_m {hd oh : Int32} (h : HCx g hd oh) (hz : g.z ≤ 151) : hd = -1 ↔ oh = -1 := by
  rcases h with h | ⟨o, e, x, hd2, oh2, h1, h2, h3, h4, -⟩
  · exact ⟨fun _ => h.2, fun _ => h.1⟩
  · exact ⟨fun z => absurd (h3.symm.trans z) (nI_m1 (by omega)), fun z => absurd (h1.symm.trans z) (nI_m1 (by omega))⟩
/-- frame j catches -/
theorem t_caught (hP : PU g) (hE : ESt g u hc hm) (hS : SCh g hc) (hSM : SMh g hm) {j pf pl : Nat} {hd oh : Int32} {bj Mj : Nat} (hj : j < 6) (hjm : fl g j = false) (hI3 : TI3 g hc hm j pf pl hd oh bj Mj) (hne : ¬ hd = -1) (h28 : hI hm 49 28 = what) {hm1 : Hp} (hm1e : (g.m = 0 ∧ hm1 = sI hm 49 29 1) ∨ (g.m = 1 ∧ hm1 = hm)) :
    ∃ p i hd2 oh2, oh = nI (oh.toNatClampNeg) ∧ StA g u (cauH g.u j what hd (sI hc g.u 9 1)) (sI (sI (sI (sI hm1 62 g.m (nI (j + 1))) 66 (6 * (6 * g.m + j) + 4) (hI hm1 49 28)) 64 (6 * g.m + j) (hI hm1 52 oh.toNatClampNeg + 2)) 49 27 0) j bj Mj p i hd2 oh2 ∧ UC g.u 0 0 hc (cauH g.u j what hd (sI hc g.u 9 1)) ∧ UM g.m 0 hm (sI (sI (sI (sI hm1 62 g.m (nI (j + 1))) 66 (6 * (6 * g.m + j) + 4) (hI hm1 49 28)) 64 (6 * g.m + j) (hI hm1 52 oh.toNatClampNeg + 2)) 49 27 0) := by
  obtain ⟨a1, a2, a3, a4⟩ := hI3
  obtain ⟨b1, b2, b3, b4, b5, b6, b7⟩ := a4 hjm
  have hm2 := pu_m hP
  rcases b4 with b4 | ⟨o, e, x, hd2, oh2, c1, c2, c3, c4, c5, c6, c7⟩
  · exact absurd b4.1 hne
  have eo : oh.toNatClampNeg = o := by rw [c1]; exact nI_cl (by omega)
  rw [eo]
  have h1 : UC g.u j bj hc (cauH g.u j what hd (sI hc g.u 9 1)) := by
    unfold cauH
    exact uc_f hj (uc_x hj (uc_u (uc_u (uc_u uc_rfl))))
  have hm1u : UM g.m j hm hm1 := by
    rcases hm1e with ⟨e0, e⟩ | ⟨-, e⟩
    · rw [e]; exact um_sI um_rfl (by unfold OwM; omega)
    · rw [e]; exact um_rfl
  have h2 : UM g.m j hm (sI (sI (sI (sI hm1 62 g.m (nI (j + 1))) 66 (6 * (6 * g.m + j) + 4) (hI hm1 49 28)) 64 (6 * g.m + j) (hI hm1 52 o + 2)) 49 27 0) := um_sI (um_sI (um_sI (um_sI hm1u (by unfold OwM; omega)) (by unfold OwM; omega)) (by unfold OwM; omega)) (by unfold OwM; omega)
  have e52 : hI hm1 52 o = nI e := by rw [um_o hm1u (by unfold OwM; omega), hSM.2.2.2.2.2.2 o]; exact c5
  have e28 : hI hm1 49 28 = what := by
    rcases hm1e with ⟨-, e⟩ | ⟨-, e⟩
    · rw [e, hI_ne (by omega)]; exact h28
    · rw [e]; exact h28
  have e3 : hI hm1 52 o + 2 = nI (e + 2) := by rw [e52, show (2 : Int32) = nI 2 from rfl, nI_add]
  have e66 : ∀ k, hI hm1 66 k = hI hm 66 k := fun k => by
    rcases hm1e with ⟨-, e⟩ | ⟨-, e⟩
    · rw [e, hI_ne (by omega)]
    · rw [e]
  have e63 : ∀ k, hI hm1 63 k = hI hm 63 k := fun k => by
    rcases hm1e with ⟨-, e⟩ | ⟨-, e⟩
    · rw [e, hI_ne (by omega)]
    · rw [e]
  refine ⟨e + 2, x, hd2, oh2, c1, ⟨⟨sc_uc hP h1 hS, sm_um h2 hSM, hj, ?_, ?_, low_uc j bj Mj _ _ _ _ (by omega) h1 h2 b5, ⟨?_, fun v hv => ?_, fun z => ?_⟩, ?_⟩, ⟨?_, fun z => ?_, ?_⟩, hjm, c7, ?_, ?_, ?_, ?_⟩, uc_w h1, um_w h2⟩
  · unfold cauH
    rw [hI_ne (by omega), hI_ne (by omega), hI_ne (by omega), hI_is]
  · rw [hI_ne (by omega), hI_ne (by omega), hI_ne (by omega), hI_is]
  · exact b6.1
  · unfold cauH
    by_cases c : v = 4
    · subst c
      rw [hI_ne (by omega), hI_is, hI_ne (by omega), hI_ne (by omega), hI_is, e28]
    · rw [hI_ne (by omega), hI_ne (by omega), hI_ne (by omega), hI_ne (by omega), hI_ne (by omega), hI_ne (by omega), hI_ne (by omega), hI_ne (by omega), hI_ne (by omega), e66]
      exact b6.2.1 v hv
  · unfold cauH
    rw [hI_ne (by omega), hI_ne (by omega), hI_ne (by omega), hI_ne (by omega), hI_ne (by omega), hI_ne (by omega), hI_ne (by omega), hI_ne (by omega), hI_ne (by omega), e63]
    exact b6.2.2 z
  · intro _
    unfold cauH
    rw [hI_ne (by omega), hI_ne (by omega), hI_ne (by omega), hI_ne (by omega), hI_ne (by omega)]
    exact b7
  · unfold cauH
    rw [hI_ne (by omega), hI_ne (by omega), hI_ne (by omega), hI_ne (by omega), hI_ne (by omega)]
    exact hE.1
  · rcases hm1e with ⟨-, e5⟩ | ⟨e4, e5⟩
    · obtain ⟨d1, d2, d3⟩ := hE.2.1 z
      refine ⟨?_, fun k hk => ?_, ?_⟩
      · rw [hI_ne (by omega), hI_ne (by omega), hI_ne (by omega), hI_ne (by omega), e5, hI_ne (by omega)]; exact d1
      · unfold cauH
        rw [hI_ne (by omega), hI_ne (by omega), hI_ne (by omega), hI_ne (by omega), hI_ne (by omega), hI_ne (by omega), hI_ne (by omega), hI_ne (by omega), hI_ne (by omega), e5, hI_ne (by omega)]; exact d2 k hk
      · intro y
        unfold cauH
        rw [hI_ne (by omega), hI_ne (by omega), hI_ne (by omega), hI_ne (by omega), hI_is, hI_ne (by omega), hI_ne (by omega), hI_ne (by omega), hI_ne (by omega), e5, hI_is]
    · omega
  · rw [hI_ne (by omega), hI_ne (by omega), hI_ne (by omega), hI_ne (by omega)]
    rcases hm1e with ⟨-, e5⟩ | ⟨e4, e5⟩
    · rw [e5, hI_is]; exact Or.inr rfl
    · rw [e5]; exact hE.2.2
  · unfold cauH
    rw [hI_is]; exact c3
  · rw [hI_ne (by omega), hI_is]; exact e3
  · unfold cauH
    rw [hI_ne (by omega), hI_ne (by omega), hI_is, hI_ne (by omega)]
    exact b7
  · rw [hI_is]
theorem s_thr (hP : PU g) (hE : ESt g u hc hm) (hS : SCh g hc) (hSM : SMh g hm) (hq : q < 6) (h6 : hI hc g.u 6 = nI (q + 1)) (h62 : hI hm 62 g.m = nI (q + 1)) (h27 : hI hm 49 27 = 3) (h28 : hI hm 49 28 = what) (pf pl bf Mf : Nat → Nat) (hf of : Nat → Int32) (hTI : ∀ j, j < q + 1 → TI3 g hc hm j (pf j) (pl j) (hf j) (of j) (bf j) (Mf j) ∧ Mf j + 200 ≤ N) (ih : ∀ hc2 hm2 j bj Mj p i hd oh, StA g u hc2 hm2 j bj Mj p i hd oh → Mj + 200 ≤ N → DNE xs L d g u hc2 hm2 (8 * (Mj + (153 - p)))) :
    ∃ on hc2, (∀ d2, Rn xs L (d2 + 1) 17 [.inr (some g.u), .inl what] hc (some (.inl on), hc2)) ∧ ((on = 1 ∧ UC g.u 0 0 hc hc2 ∧ DNE xs L d g u hc2 hm (8 * N - 8)) ∨ (on = 0 ∧ UD g.u 3 hc hc2 ∧ ∃ hm3, PX xs L (d + 4) g.m hm (some (.inl 3), hm3) ∧ UM g.m 0 hm hm3 ∧ ESt g u hc2 hm3 ∧ DED g hc2 hm3)) := by
  have hm2 := pu_m hP
  have hz := hP.2.2.2.1
  have hn := hP.2.1.1
  have hO := hSM.1
  -- the class
  have hcl := fun res hres (d2 : Nat) => r_throw (xs := xs) (L := L) (d := d2) (res := res) (what := what) (t := q) (fun j => gc g (fl g j)) (fun j => gi g (fl g j)) (fun j => gh g (fl g j)) (fun j => gz g (fl g j)) pf hS.1 h6 hq (fun j hj => (hTI j hj).1.1) (fun j hj => by
    have := ((pu_ids hP).2.2.2.2 (fl g j) fl_m).2.2
    rcases hP.1 with e | e <;> omega) hres
  -- the model
  have hflm : ∀ j, g.m ≤ j → fl g j = false := fun j hj => decide_eq_false (fun z => by omega)
  have hoff : ∀ hm1 : Hp, UM g.m q hm hm1 → ∀ j, j < q + 1 - g.m → trB hm1 (pl (g.m + j)) (pl (g.m + j)) = of (g.m + j) := fun hm1 hu j hj => by
    obtain ⟨b1, b2, b3, b4⟩ := (hTI (g.m + j) (by omega)).1.2.2.2 (hflm _ (by omega))
    have hS1 := sm_um hu hSM
    rw [trB_F (T := g.T) (K := g.K) (V := g.V) (fun k hk => by have := hS1.2.1 false (fun z => by cases z) k hk; rw [show gb g false + k = k from Nat.zero_add k] at this; exact this) hS1.2.2.2.1 hS1.2.2.2.2.2.2 _ (by omega)]
    exact b3
  have hcau : ∃ hm1 : Hp, ((g.m = 0 ∧ hm1 = sI hm 49 29 1) ∨ (g.m = 1 ∧ hm1 = hm)) ∧ UM g.m q hm hm1 ∧ hI hm1 62 g.m = nI (g.m + (q + 1 - g.m)) ∧ Rn xs L (d + 4) 100 [.inr (some 49), .inl (nI g.m)] hm (cgt g.m (fun t => pl (t - 6 * g.m)) (q + 1 - g.m) hm1) := by
    rcases hP.1 with ⟨-, e0⟩ | ⟨-, e1⟩
    · refine ⟨sI hm 49 29 1, Or.inl ⟨e0, rfl⟩, um_sI um_rfl (by unfold OwM; omega), by rw [hI_ne (by omega), h62]; congr 1; omega, ?_⟩
      rw [e0] at h62 ⊢
      exact m_caught0 (d := d + 2) (pl := fun t => pl (t - 6 * 0)) hO (by omega) h62 (fun j hj => by
        obtain ⟨b1, b2, -⟩ := (hTI j (by omega)).1.2.2.2 (hflm _ (by omega))
        rw [e0, show 6 * 0 + j = j by omega] at b1
        exact ⟨by rw [b1]; rfl, by show pl (j - 6 * 0) ≤ 152; rw [show j - 6 * 0 = j by omega]; omega⟩)
    · refine ⟨hm, Or.inr ⟨e1, rfl⟩, um_rfl, by rw [h62]; congr 1; omega, ?_⟩
      rw [e1] at h62 ⊢
      have := m_caught1 (xs := xs) (L := L) (d := d + 2) (n := q) (pl := fun t => pl (t - 6 * 1)) hO (by omega) (by rw [h62]; congr 1; omega) (fun j hj => by
        obtain ⟨b1, b2, -⟩ := (hTI (1 + j) (by omega)).1.2.2.2 (hflm _ (by omega))
        rw [e1, show 6 * 1 + (1 + j) = 7 + j by omega] at b1
        exact ⟨by rw [b1]; show nI (pl (1 + j)) = nI (pl (7 + j - 6 * 1)); congr 2; omega, by show pl (7 + j - 6 * 1) ≤ 152; rw [show 7 + j - 6 * 1 = 1 + j by omega]; omega⟩) hE.2.2
      rw [show q + 1 - 1 = q by omega]
      exact this
  obtain ⟨hm1, hm1e, hm1u, hm1d, hcr⟩ := hcau
  have hpl : ∀ j, j < q + 1 - g.m → trB hm1 ((fun t => pl (t - 6 * g.m)) (6 * g.m + (g.m + j))) ((fun t => pl (t - 6 * g.m)) (6 * g.m + (g.m + j))) = of (g.m + j) := fun j hj => by
    show trB hm1 (pl (6 * g.m + (g.m + j) - 6 * g.m)) (pl (6 * g.m + (g.m + j) - 6 * g.m)) = _
    rw [show 6 * g.m + (g.m + j) - 6 * g.m = g.m + j by omega]
    exact hoff hm1 hm1u j hj
  rcases cgt_run (pl := fun t => pl (t - 6 * g.m)) (of := of) (q + 1 - g.m) hm1 hm1d hpl with ⟨j, j1, j2, j3, j4⟩ | ⟨j1, j2⟩
  · have hTj := hTI (g.m + j) (by omega)
    have hfj := hflm (g.m + j) (by omega)
    have hne : ¬ hf (g.m + j) = -1 := fun z => j2 ((hcx_m (hTj.1.2.2.2 hfj).2.2.2.1 hz).mp z)
    obtain ⟨p, i, hd2, oh2, w1, w2, w3, w4⟩ := t_caught (what := what) hP hE hS hSM (by omega) hfj hTj.1 hne h28 hm1e
    rw [show g.m + (j + 1) = g.m + j + 1 by omega] at j4
    rw [j4] at hcr
    refine ⟨1, cauH g.u (g.m + j) what (hf (g.m + j)) (sI hc g.u 9 1), hcl _ (Or.inl ⟨g.m + j, by omega, by rw [hTj.1.2.1]; exact hne, fun i h7 h8 => ?_, by rw [hTj.1.2.1]⟩), Or.inl ⟨rfl, w3, ?_⟩⟩
    · have hTi := hTI i h8
      rw [hTi.1.2.1]
      have := j3 (i - g.m) (by omega) (by omega)
      rw [show g.m + (i - g.m) = i by omega] at this
      exact (hcx_m (hTi.1.2.2.2 (hflm i (by omega))).2.2.2.1 hz).mpr this
    · have hgo := ih _ _ _ _ _ _ _ _ _ w2 hTj.2
      exact dne_0 (u2 := u) (M2 := 8 * (Mf (g.m + j) + (153 - p))) w4 (fun res hp2 => p_thr1 (d := d + 3) hO hm2 h62 hq h27 hcr hp2) ⟨Nat.le_refl _, by omega⟩ (by have := hTj.2; omega) hgo
  · rw [j2] at hcr
    have hall : ∀ i, i < q + 1 → hf i = -1 := fun i hi => by
      have hTi := hTI i hi
      by_cases c : g.m ≤ i
      · have := j1 (i - g.m) (by omega)
        rw [show g.m + (i - g.m) = i by omega] at this
        exact (hcx_m (hTi.1.2.2.2 (hflm i c)).2.2.2.1 hz).mpr this
      · exact hTi.1.2.2.1 (decide_eq_true (by omega))
    have hu2 : UM g.m 0 hm (sI hm1 62 g.m (nI g.m)) := um_sI (um_w hm1u) (by unfold OwM; omega)
    refine ⟨0, deaH g.u what (sI hc g.u 9 1), hcl _ (Or.inr ⟨fun i hi => by rw [(hTI i hi).1.2.1]; exact hall i hi, rfl⟩), Or.inr ⟨rfl, ?_, sI hm1 62 g.m (nI g.m), p_thr0 (d := d + 3) hO hm2 h62 hq h27 hcr, hu2, ⟨?_, fun z => ?_, ?_⟩, ?_, ?_, ?_⟩⟩
    · unfold deaH
      exact ud_sI (ud_uc (uc_u (uc_u (uc_u uc_rfl)))) (Or.inr ⟨rfl, rfl, by decide⟩)
    · unfold deaH
      rw [hI_ne (by omega), hI_ne (by omega), hI_ne (by omega), hI_ne (by omega)]; exact hE.1
    · rcases hm1e with ⟨-, e5⟩ | ⟨e4, e5⟩
      · obtain ⟨d1, d2, d3⟩ := hE.2.1 z
        refine ⟨?_, fun k hk => ?_, ?_⟩
        · rw [hI_ne (by omega), e5, hI_ne (by omega)]; exact d1
        · unfold deaH
          rw [hI_ne (by omega), hI_ne (by omega), hI_ne (by omega), hI_ne (by omega), hI_ne (by omega), e5, hI_ne (by omega)]; exact d2 k hk
        · intro y
          unfold deaH
          rw [hI_ne (by omega), hI_ne (by omega), hI_ne (by omega), hI_is, hI_ne (by omega), e5, hI_is]
      · omega
    · rw [hI_ne (by omega)]
      rcases hm1e with ⟨-, e5⟩ | ⟨e4, e5⟩
      · rw [e5, hI_is]; exact Or.inr rfl
      · rw [e5]; exact hE.2.2
    · unfold deaH
      rw [hI_ne (by omega), hI_is]
    · unfold deaH
      rw [hI_ne (by omega), hI_ne (by omega), hI_is]
    · unfold deaH
      rw [hI_is, hI_ne (by omega)]
      rcases hm1e with ⟨-, e5⟩ | ⟨e4, e5⟩
      · rw [e5, hI_ne (by omega)]; exact h28.symm
      · rw [e5]; exact h28.symm
end RI

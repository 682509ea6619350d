-- THE RUN: a function is called
section RK
variable {xs : Nat → Int32} {L d : Nat} {g : CTX} {hc hm hc2 hm2 : Hp} {q b M N : Nat} {u : Nat} {v : Int32}
theorem dne_le {M2 : Nat} (h : DNE xs L d g u hc hm M) (hM : M ≤ M2) : DNE xs L d g u hc hm M2 := by
  obtain ⟨k, hc3, hm3, code, u3, h1, h2, h3, h4, h5, h6, h7, h8⟩ := h
  exact ⟨k, hc3, hm3, code, u3, by omega, h2, h3, h4, h5, h6, by omega, h8⟩
theorem uc_sA {μ o : Nat} {f : Nat → Int32} (h : UC μ q b hc hc2) (ho : ∀ k, OwC μ q b o k) : UC μ q b hc (sA hc2 o f) := by
  refine ⟨h.1, h.2.1, h.2.2.1, h.2.2.2.1, fun a c => ?_⟩
  rw [hI_sA]
  by_cases e : a = o
  · rw [e]; exact Or.inr (ho c)
  · rw [if_neg e]; exact h.2.2.2.2 a c
theorem uc_sR {μ j : Nat} {v : Option Nat} (h : UC μ q b hc hc2) (hj : q ≤ j) (hj6 : j < 6) : UC μ q b hc (sR hc2 (μ + (2 + 2 * j)) 1 v) := by
  refine ⟨h.1, h.2.1, h.2.2.1, fun a c => ?_, fun a c => h.2.2.2.2 a c⟩
  rw [hR_sR]
  by_cases e : a = μ + (2 + 2 * j) ∧ c = 1
  · exact Or.inr ⟨e.2, j, hj, hj6, e.1⟩
  · rw [if_neg e]; exact h.2.2.2.1 a c
theorem um_sA {m o : Nat} {f : Nat → Int32} (h : UM m q hm hm2) (ho : ∀ k, f k = hI hm2 o k ∨ OwM m q o k) : UM m q hm (sA hm2 o f) := by
  refine ⟨h.1, h.2.1, h.2.2.1, h.2.2.2.1, fun a c => ?_⟩
  rw [hI_sA]
  by_cases e : a = o
  · rw [if_pos e, e]
    rcases ho c with z | z
    · rw [z]; exact h.2.2.2.2 o c
    · exact Or.inr z
  · rw [if_neg e]; exact h.2.2.2.2 a c
/-- a new frame: it waits at its first statement, or is empty and goes -/
theorem n_frame (hP : PU g) (hE : ESt g u hc hm) (hS : SCh g hc) (hSM : SMh g hm) (hL : LOW g hc hm (q + 1) b M) (hq : q + 1 < 6) {f k fr : Nat} (hf : f < 4) (hk : g.ar f = nI k) (hk3 : k ≤ 3) (hag : ∀ a, a < k → hI hc (g.u + 14) (b + a) = hI hm 72 (fr + a)) (ih : ∀ hc2 hm2 q2 b2 M2 lv st p e J i2 v2, StC g u hc2 hm2 q2 b2 M2 lv st p e J i2 v2 → M2 + (353 - p) ≤ M → DNE xs L d g u hc2 hm2 (8 * (M2 + (353 - p)))) :
    DNE xs L d g u (entH g.u (q + 1) f (b + k) k g.c (g.S f) hc) (enM g.m (q + 1) f (g.bd f) k fr hm) (8 * M + 4) ∧ UC g.u (q + 1) b hc (entH g.u (q + 1) f (b + k) k g.c (g.S f) hc) ∧ UM g.m (q + 1) hm (enM g.m (q + 1) f (g.bd f) k fr hm) := by
  have hne : ¬ g.ar f = -1 := by rw [hk]; exact nI_m1 (by omega)
  obtain ⟨p1, p2, i0, p3, p4, p5⟩ := hP.2.2.2.2.2.2.1 f hf hne
  have hfl : fl g (q + 1) = false := fl_0 (by omega)
  have hb := (low_b (q + 1) b M hL).1
  have ek : b + k - k = b := by omega
  have u1 : UC g.u (q + 1) b hc (entH g.u (q + 1) f (b + k) k g.c (g.S f) hc) := by
    unfold entH
    exact uc_u (uc_f hq (uc_f hq (uc_f hq (uc_sR (uc_u (uc_sA uc_rfl (fun k => Or.inr (Or.inr (Or.inr (Or.inl ⟨q + 1, Nat.le_refl _, hq, Or.inr rfl⟩)))))) (Nat.le_refl _) hq))))
  have u2 : UM g.m (q + 1) hm (enM g.m (q + 1) f (g.bd f) k fr hm) := by
    unfold enM
    refine um_sI (um_sA (um_sI (um_sI (um_sI um_rfl (by unfold OwM; omega)) (by unfold OwM; omega)) (by unfold OwM; omega)) (fun k2 => ?_)) (by unfold OwM; omega)
    by_cases c : 6 * (6 * g.m + (q + 1)) ≤ k2 ∧ k2 < 6 * (6 * g.m + (q + 1)) + 6
    · exact Or.inr (by unfold OwM; omega)
    · rw [if_neg c, hI_ne (by omega), hI_ne (by omega), hI_ne (by omega)]
      exact Or.inl rfl
  have hTP : TP g (entH g.u (q + 1) f (b + k) k g.c (g.S f) hc) (enM g.m (q + 1) f (g.bd f) k fr hm) (q + 1) b M := by
    refine ⟨sc_uc hP u1 hS, sm_um u2 hSM, hq, ?_, ?_, low_uc (q + 1) b M _ _ _ _ (by omega) u1 u2 hL, ⟨?_, fun v hv => ?_, fun _ => ?_⟩, ?_⟩
    · unfold entH
      rw [hI_is]
    · unfold enM
      rw [hI_ne (by omega), hI_sA, if_neg (by omega), hI_ne (by omega), hI_ne (by omega), hI_is]
    · rw [hfl]
      unfold entH
      rw [hR_sI, hR_sI, hR_sI, hR_sI, hR_sR, if_pos ⟨rfl, rfl⟩]
      rfl
    · have e1 : hI (entH g.u (q + 1) f (b + k) k g.c (g.S f) hc) (g.u + (3 + 2 * (q + 1))) v = if v < k then hI hc (g.u + 14) (b + v) else 0 := by
        unfold entH
        rw [hI_ne (by omega), hI_ne (by omega), hI_ne (by omega), hI_ne (by omega), hI_sR, hI_ne (by omega), hI_sA, if_pos rfl, ek]
        by_cases c : v < k
        · rw [if_pos c, if_pos c]
        · rw [if_neg c, if_neg c, if_pos hv]
      have e2 : hI (enM g.m (q + 1) f (g.bd f) k fr hm) 66 (6 * (6 * g.m + (q + 1)) + v) = if v < k then hI hm 72 (fr + v) else 0 := by
        unfold enM
        rw [hI_ne (by omega), hI_sA, if_pos rfl, if_pos (show 6 * (6 * g.m + (q + 1)) ≤ 6 * (6 * g.m + (q + 1)) + v ∧ 6 * (6 * g.m + (q + 1)) + v < 6 * (6 * g.m + (q + 1)) + 6 by omega), show 6 * (6 * g.m + (q + 1)) + v - 6 * (6 * g.m + (q + 1)) = v by omega]
      rw [e1, e2]
      by_cases c : v < k
      · rw [if_pos c, if_pos c]; exact hag v c
      · rw [if_neg c, if_neg c]
    · unfold entH enM
      rw [hI_ne (by omega), hI_is, hI_ne (by omega), hI_sA, if_neg (by omega), hI_ne (by omega), hI_is]
    · intro _
      unfold entH
      rw [hI_ne (by omega), hI_ne (by omega), hI_is, ek]
  have hEs : ESt g u (entH g.u (q + 1) f (b + k) k g.c (g.S f) hc) (enM g.m (q + 1) f (g.bd f) k fr hm) := by
    refine es_same hE ?_ (fun k => ?_) ?_ ?_ (fun k => ?_) ?_
    · unfold entH
      rw [hI_ne (by omega), hI_ne (by omega), hI_ne (by omega), hI_ne (by omega), hI_sR, hI_ne (by omega), hI_sA, if_neg (by omega)]
    · unfold entH
      rw [hI_ne (by omega), hI_ne (by omega), hI_ne (by omega), hI_ne (by omega), hI_sR, hI_ne (by omega), hI_sA, if_neg (by omega)]
    · unfold entH
      rw [hI_ne (by omega), hI_ne (by omega), hI_ne (by omega), hI_ne (by omega), hI_sR, hI_ne (by omega), hI_sA, if_neg (by omega)]
    · unfold enM
      rw [hI_ne (by omega), hI_sA, if_neg (by omega), hI_ne (by omega), hI_ne (by omega), hI_ne (by omega)]
    · unfold enM
      rw [hI_ne (by omega), hI_sA, if_neg (by omega), hI_ne (by omega), hI_ne (by omega), hI_ne (by omega)]
    · unfold enM
      rw [hI_ne (by omega), hI_sA, if_neg (by omega), hI_ne (by omega), hI_ne (by omega), hI_ne (by omega)]
  have hn2 : hI (entH g.u (q + 1) f (b + k) k g.c (g.S f) hc) (g.u + (2 + 2 * (q + 1))) 2 = nI i0 := by
    unfold entH
    rw [hI_ne (by omega), hI_ne (by omega), hI_ne (by omega), hI_is]; exact p3
  have hp64 : hI (enM g.m (q + 1) f (g.bd f) k fr hm) 64 (6 * g.m + (q + 1)) = nI (g.bd f + 1) := by
    unfold enM
    rw [hI_ne (by omega), hI_sA, if_neg (by omega), hI_is]
  have h7 : hI (entH g.u (q + 1) f (b + k) k g.c (g.S f) hc) g.u 7 = nI b := by
    unfold entH
    rw [hI_ne (by omega), hI_ne (by omega), hI_ne (by omega), hI_ne (by omega), hI_sR, hI_is, ek]
  have h27 : hI (enM g.m (q + 1) f (g.bd f) k fr hm) 49 27 = 0 := by
    unfold enM
    rw [hI_is]
  refine ⟨?_, u1, u2⟩
  generalize entH g.u (q + 1) f (b + k) k g.c (g.S f) hc = hcn at *
  generalize enM g.m (q + 1) f (g.bd f) k fr hm = hmn at *
  by_cases c125 : g.T (g.bd f + 1) = 125
  · obtain ⟨w1, w2, w3, w4, w5⟩ := p5 c125
    have hn := hP.2.1.1
    have hbn := fr_p hP.2.1 p4
    have hm2 := pu_m hP
    obtain ⟨e1, e2, -⟩ := gz_f hfl
    have hcp : hI hmn 51 (g.bd f + 1) = 125 := by
      have := hTP.2.1.2.1 false (fun z => by cases z) (g.bd f + 1) (by omega)
      rw [show gb g false + (g.bd f + 1) = g.bd f + 1 from Nat.zero_add _] at this
      rw [this]; exact c125
    have hr := m_seek (xs := xs) (L := L) (d := d + 3) (h := hmn) (t := 6 * g.m + (q + 1)) (p := g.bd f + 1) (o := g.bd f) (h2 := sI (sI hmn 49 27 4) 49 28 0) hTP.2.1.1 (by omega) hp64 (by omega) hcp (by rw [hTP.2.1.2.2.2.2.2.2]; exact w1) p2 (Or.inl ⟨by rw [hTP.2.1.2.2.2.1]; exact w2, rfl⟩)
    have u3 : UC g.u (q + 1) b hcn (puH g.u b 0 (sI hcn (g.u + (2 + 2 * (q + 1))) 2 (nI (i0 + 1)))) := uc_u (uc_v (Nat.le_refl _) (uc_f hq uc_rfl))
    have u4 : UM g.m (q + 1) hmn (sI (sI hmn 49 27 4) 49 28 0) := um_sI (um_sI um_rfl (by unfold OwM; omega)) (by unfold OwM; omega)
    refine dne_1 (u2 := u) (M2 := 8 * M + 1) (hc2 := puH g.u b 0 (sI hcn (g.u + (2 + 2 * (q + 1))) 2 (nI (i0 + 1)))) ?_ (mi_uc u3 hTP.1.1) (uc_w u3) (um_w u4) (fun res hp2 => p_seek0 (d := d + 3) hTP.2.1.1 hm2 hTP.2.2.2.2.1 hq h27 hr hp2) ⟨Nat.le_refl _, by omega⟩ (by omega) (s_ret (i := i0 + 1) (v := 0) hP (es_same hEs ?_ (fun k => ?_) ?_ ?_ (fun k => ?_) ?_) (tp_mk hP hTP u3 u4 ?_ ?_ (fv_same hTP.2.2.2.2.2.2.1 rfl (fun k => ?_) (fun k _ => ?_) ?_ ?_) ?_) hfl ?_ w5 w4 ?_ ?_ ?_ ?_ ih)
    · exact cs_mk (op := 1) (k := 0) hTP.1 hq hTP.2.2.2.1 fl_m hTP.2.2.2.2.2.2.1.1 hn2 (by rw [e1]; omega) (by rw [e2]; exact w3) (by decide) (by decide) (x_num (h := sI hcn (g.u + (2 + 2 * (q + 1))) 2 (nI (i0 + 1))) hTP.1.1 (by rw [hI_ne (by omega)]; exact h7) (by omega))
    all_goals (try unfold puH)
    · rw [hI_ne (by omega), hI_ne (by omega), hI_ne (by omega)]
    · rw [hI_ne (by omega), hI_ne (by omega), hI_ne (by omega)]
    · rw [hI_ne (by omega), hI_ne (by omega), hI_ne (by omega)]
    · rw [hI_ne (by omega), hI_ne (by omega)]
    · rw [hI_ne (by omega), hI_ne (by omega)]
    · rw [hI_ne (by omega), hI_ne (by omega)]
    · rw [hI_ne (by omega), hI_ne (by omega), hI_ne (by omega)]
    · rw [hI_ne (by omega), hI_ne (by omega)]
    · rw [hI_ne (by omega), hI_ne (by omega), hI_ne (by omega)]
    · rw [hI_ne (by omega), hI_ne (by omega)]
    · rw [hI_ne (by omega), hI_ne (by omega), hI_ne (by omega)]
    · rw [hI_ne (by omega), hI_ne (by omega)]
    · rw [hI_ne (by omega), hI_ne (by omega), hI_ne (by omega)]
    · rw [hI_ne (by omega), hI_ne (by omega), hI_is]
    · rw [hI_is]
    · rw [hI_ne (by omega), hI_is]
    · rw [hI_ne (by omega), hI_is]
    · rw [hI_is]
  · exact dne_le (s_point hP hTP hEs hfl p4 c125 hn2 hp64 h7 h27) (by omega)
end RK

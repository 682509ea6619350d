-- THE RUN: start
section RS
variable {xs : Nat → Int32} {L d : Nat} {g : CTX} {hc hm hc2 hm2 hcV : Hp} {q b M N : Nat} {u : Nat} {v w : Int32}
/-- the lowest frame is entered: both run on -/
theorem s_start (hP : PU g) (hm0 : g.m = 0) (hS : SCh g hc) (hSM : SMh g hm) (hE : ESt g u hc hm) (hu : u + 2500 < 2 ^ 31) (h0 : g.ar 0 = 0) : DNE xs L d g u (entH g.u 0 0 0 0 g.c (g.S 0) hc) (enM 0 0 0 (g.bd 0) 0 0 hm) 18000 ∧ UC g.u 0 0 hc (entH g.u 0 0 0 0 g.c (g.S 0) hc) ∧ UM 0 0 hm (enM 0 0 0 (g.bd 0) 0 0 hm) := by
  obtain ⟨p1, p2, i0, p3, p4, p5⟩ := hP.2.2.2.2.2.2.1 0 (by decide) (by rw [h0]; decide)
  have hfl : fl g 0 = false := decide_eq_false (fun z => by omega)
  have u1 : UC g.u 0 0 hc (entH g.u 0 0 0 0 g.c (g.S 0) hc) := by
    unfold entH
    exact uc_u (uc_f (by decide) (uc_f (by decide) (uc_f (by decide) (uc_sR (uc_u (uc_sA uc_rfl (fun k => Or.inr (Or.inr (Or.inr (Or.inl ⟨0, Nat.le_refl _, by decide, Or.inr rfl⟩)))))) (Nat.le_refl _) (by decide)))))
  have u2 : UM 0 0 hm (enM 0 0 0 (g.bd 0) 0 0 hm) := by
    unfold enM
    refine um_sI (um_sA (um_sI (um_sI (um_sI um_rfl (by unfold OwM; omega)) (by unfold OwM; omega)) (by unfold OwM; omega)) (fun k2 => ?_)) (by unfold OwM; omega)
    by_cases c : 6 * (6 * 0 + 0) ≤ k2 ∧ k2 < 6 * (6 * 0 + 0) + 6
    · exact Or.inr (by unfold OwM; omega)
    · rw [if_neg c, hI_ne (by omega), hI_ne (by omega), hI_ne (by omega)]
      exact Or.inl rfl
  refine ⟨?_, u1, u2⟩
  have hn2 : hI (entH g.u 0 0 0 0 g.c (g.S 0) hc) (g.u + (2 + 2 * 0)) 2 = nI i0 := by
    unfold entH
    rw [hI_ne (by omega), hI_ne (by omega), hI_ne (by omega), hI_is]; exact p3
  have hS2 : StA g u (entH g.u 0 0 0 0 g.c (g.S 0) hc) (enM 0 0 0 (g.bd 0) 0 0 hm) 0 0 0 (g.bd 0 + 1) i0 (-1) (-1) := by
    refine ⟨⟨sc_uc hP u1 hS, sm_um u2 hSM, by decide, ?_, ?_, ⟨rfl, rfl⟩, ⟨?_, fun v hv => ?_, fun _ => ?_⟩, ?_⟩, es_same hE ?_ (fun k => ?_) ?_ ?_ (fun k => ?_) ?_, hfl, p4, hn2, ?_, ?_, ?_⟩
    · unfold entH
      rw [hI_is]
    · unfold enM
      rw [hm0, hI_ne (by omega), hI_sA, if_neg (by omega), hI_ne (by omega), hI_ne (by omega), hI_is]
    · rw [hfl]
      unfold entH
      rw [hR_sI, hR_sI, hR_sI, hR_sI, hR_sR, if_pos ⟨rfl, rfl⟩]
      rfl
    · have e1 : hI (entH g.u 0 0 0 0 g.c (g.S 0) hc) (g.u + (3 + 2 * 0)) v = 0 := by
        unfold entH
        rw [hI_ne (by omega), hI_ne (by omega), hI_ne (by omega), hI_ne (by omega), hI_sR, hI_ne (by omega), hI_sA, if_pos rfl, if_neg (Nat.not_lt_zero _), if_pos hv]
      have e2 : hI (enM 0 0 0 (g.bd 0) 0 0 hm) 66 (6 * (6 * g.m + 0) + v) = 0 := by
        unfold enM
        rw [hm0, hI_ne (by omega), hI_sA, if_pos rfl, if_pos (by omega), if_neg (Nat.not_lt_zero _)]
      rw [e1, e2]
    · unfold entH enM
      rw [hm0, hI_ne (by omega), hI_is, hI_ne (by omega), hI_sA, if_neg (by omega), hI_ne (by omega), hI_is]
    · intro _
      unfold entH
      rw [hI_ne (by omega), hI_ne (by omega), hI_is]
    · unfold entH
      rw [hI_ne (by omega), hI_ne (by omega), hI_ne (by omega), hI_ne (by omega), hI_sR, hI_ne (by omega), hI_sA, if_neg (by omega)]
    · unfold entH
      rw [hI_ne (by omega), hI_ne (by omega), hI_ne (by omega), hI_ne (by omega), hI_sR, hI_ne (by omega), hI_sA, if_neg (by omega)]
    · unfold entH
      rw [hI_ne (by omega), hI_ne (by omega), hI_ne (by omega), hI_ne (by omega), hI_sR, hI_ne (by omega), hI_sA, if_neg (by omega)]
    · unfold enM
      rw [hI_ne (by omega), hI_sA, if_neg (by omega), hI_ne (by omega), hI_ne (by omega), hI_ne (by omega)]
    · unfold enM
      rw [hI_ne (by omega), hI_sA, if_neg (by omega), hI_ne (by omega), hI_ne (by omega), hI_ne (by omega)]
    · unfold enM
      rw [hI_ne (by omega), hI_sA, if_neg (by omega), hI_ne (by omega), hI_ne (by omega), hI_ne (by omega)]
    · unfold enM
      rw [hm0, hI_ne (by omega), hI_sA, if_neg (by omega), hI_is]
    · unfold entH
      rw [hI_ne (by omega), hI_ne (by omega), hI_ne (by omega), hI_ne (by omega), hI_sR, hI_is]
    · unfold enM
      rw [hI_is]
  exact dne_le ((sim_all (xs := xs) (L := L) (d := d) hP 200).1 _ _ _ _ _ _ _ _ _ _ hS2 (by omega) (by omega)) (by omega)
end RS

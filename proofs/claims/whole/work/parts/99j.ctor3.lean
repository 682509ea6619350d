-- CONSTRUCTORS of the class: the desk
section CC
variable {xs : Nat → Int32} {L d : Nat} {h g h0 : Hp} {res : Res} {μ o : Nat}
theorem mi_same (hs : ∀ o, μ ≤ o → o < μ + 17 → hK g o = hK h o ∧ hL g o = hL h o ∧ ∀ k, hR g o k = hR h o k) (hM : MI μ h) : MI μ g := by
  obtain ⟨m0, m1, m2, m3, m4, m5, m6, m7, m8, m9, m10, m11, mf⟩ := hM
  have kK := fun o h1 h2 => (hs o h1 h2).1
  have kL := fun o h1 h2 => (hs o h1 h2).2.1
  have kR := fun o h1 h2 => (hs o h1 h2).2.2
  refine ⟨by rw [kK _ (by omega) (by omega)]; exact m0, by rw [kR _ (by omega) (by omega)]; exact m1, by rw [kR _ (by omega) (by omega)]; exact m2, by rw [kR _ (by omega) (by omega)]; exact m3, by rw [kK _ (by omega) (by omega)]; exact m4, by rw [kL _ (by omega) (by omega)]; exact m5, by rw [kK _ (by omega) (by omega)]; exact m6, by rw [kL _ (by omega) (by omega)]; exact m7, by rw [kK _ (by omega) (by omega)]; exact m8, by rw [kR _ (by omega) (by omega)]; exact m9, by rw [kK _ (by omega) (by omega)]; exact m10, by rw [kL _ (by omega) (by omega)]; exact m11, fun i hi => ?_⟩
  obtain ⟨f1, f2, f3, f4, f5⟩ := mf i hi
  exact ⟨by rw [kR _ (by omega) (by omega)]; exact f1, by rw [kK _ (by omega) (by omega)]; exact f2, by rw [kR _ (by omega) (by omega)]; exact f3, by rw [kK _ (by omega) (by omega)]; exact f4, by rw [kL _ (by omega) (by omega)]; exact f5⟩
/-- the shape of text and translator -/
def TSh (h : Hp) : Prop := (hK h 6 = 7 ∧ hR h 6 0 = some 7 ∧ hR h 6 1 = some 8 ∧ hR h 6 2 = some 9 ∧ hR h 6 3 = some 10 ∧ hR h 6 4 = some 11) ∧ (hK h 7 = 20 ∧ hK h 8 = 20 ∧ hK h 9 = 20 ∧ hK h 10 = 20 ∧ hK h 11 = 20 ∧ hK h 5 = 21) ∧ (hL h 7 = 151 ∧ hL h 8 = 151 ∧ hL h 9 = 4 ∧ hL h 10 = 4 ∧ hL h 11 = 4 ∧ hL h 5 = 150) ∧ hK h 4 = 6 ∧ hR h 4 0 = some 5
def hA1 (h : Hp) : Hp := sR (sR (nw (nw h 6 0 2) 21 150 150) 4 0 (some 5)) 3 0 (some 4)
def hB1 (h : Hp) : Hp := sR (sR (nw (sR (nw (sR (nw (sR (nw (sR (nw (nw h 7 0 10) 20 151 151) 6 0 (some 7)) 20 151 151) 6 1 (some 8)) 20 4 4) 6 2 (some 9)) 20 4 4) 6 3 (some 10)) 20 4 4) 6 4 (some 11)) 3 1 (some 6)
theorem a_stage (hk : hK h 3 = 8) (hn : hN h = 4) (h3 : ∀ k, hR h 3 k = none) : hN (hA1 h) = 6 ∧ hU (hA1 h) = hU h + 152 ∧ (∀ o, hK (hA1 h) o = if o = 5 then 21 else if o = 4 then 6 else hK h o) ∧ (∀ o, hL (hA1 h) o = if o = 5 then 150 else if o = 4 then 0 else hL h o) ∧ (∀ o k, hR (hA1 h) o k = if o = 3 ∧ k = 0 then some 4 else if o = 4 ∧ k = 0 then some 5 else if o = 5 then none else if o = 4 then none else hR h o k) := by
  have e1 : hN (nw h 6 0 2) = 5 := by rw [hN_nw, hn]
  refine ⟨by unfold hA1; rw [hN_sR, hN_sR, hN_nw, e1], by unfold hA1; rw [hU_sR, hU_sR, hU_nw, hU_nw], fun o => ?_, fun o => ?_, fun o k => ?_⟩
  · unfold hA1
    rw [hK_sR, hK_sR, hK_nw, e1, hK_nw, hn]
  · unfold hA1
    rw [hL_sR, hL_sR, hL_nw, e1, hL_nw, hn]
  · unfold hA1
    rw [hR_sR, hR_sR, hR_nw, e1, hR_nw, hn]
theorem b_stage (hn : hN h = 6) : hN (hB1 h) = 12 ∧ hU (hB1 h) = hU h + 324 ∧ (∀ o, hK (hB1 h) o = if o = 11 then 20 else if o = 10 then 20 else if o = 9 then 20 else if o = 8 then 20 else if o = 7 then 20 else if o = 6 then 7 else hK h o) ∧ (∀ o, hL (hB1 h) o = if o = 11 then 4 else if o = 10 then 4 else if o = 9 then 4 else if o = 8 then 151 else if o = 7 then 151 else if o = 6 then 0 else hL h o) ∧ (∀ o k, hR (hB1 h) o k = if o = 3 ∧ k = 1 then some 6 else if o = 6 ∧ k = 4 then some 11 else if o = 11 then none else if o = 6 ∧ k = 3 then some 10 else if o = 10 then none else if o = 6 ∧ k = 2 then some 9 else if o = 9 then none else if o = 6 ∧ k = 1 then some 8 else if o = 8 then none else if o = 6 ∧ k = 0 then some 7 else if o = 7 then none else if o = 6 then none else hR h o k) := by
  have e1 : hN (nw h 7 0 10) = 7 := by rw [hN_nw, hn]
  have e2 : ∀ h : Hp, ∀ a b c o k v, hN (sR (nw h a b c) o k v) = hN h + 1 := fun _ _ _ _ _ _ _ => rfl
  refine ⟨by unfold hB1; simp only [hN_sR, hN_nw, hn], by unfold hB1; simp only [hU_sR, hU_nw], fun o => ?_, fun o => ?_, fun o k => ?_⟩
  · unfold hB1
    simp only [hK_sR, hK_nw, hN_sR, hN_nw, hn]
  · unfold hB1
    simp only [hL_sR, hL_nw, hN_sR, hN_nw, hn]
  · unfold hB1
    simp only [hR_sR, hR_nw, hN_sR, hN_nw, hn]
end CC

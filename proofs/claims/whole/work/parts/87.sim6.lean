-- THE RUN: what is thrown
def HCx (g : CTX) (hd oh : Int32) : Prop := (hd = -1 ∧ oh = -1) ∨ ∃ o e x hd2 oh2, oh = nI o ∧ o < 152 ∧ hd = nI x ∧ x < g.z ∧ g.V o = nI e ∧ e < g.n ∧ gFR g (e + 2) x hd2 oh2
def TI3 (g : CTX) (hc hm : Hp) (j pf pl : Nat) (hd oh : Int32) (bj Mj : Nat) : Prop := FA g.u j (gc g (fl g j)) (gi g (fl g j)) (gh g (fl g j)) (gz g (fl g j)) pf hc ∧ hI hc (gh g (fl g j)) pf = hd ∧ (fl g j = true → hd = -1) ∧ (fl g j = false → hI hm 65 (6 * g.m + j) = nI pl ∧ pl < g.n ∧ trF g.T g.K g.V pl pl = oh ∧ HCx g hd oh ∧ LOW g hc hm j bj Mj ∧ FV g hc hm j ∧ hI hc (g.u + (2 + 2 * j)) 3 = nI bj)
section RH
variable {xs : Nat → Int32} {L d : Nat} {g : CTX} {hc hm hc2 hm2 : Hp} {q b M : Nat} {u : Nat}
theorem ed_h (hP : PU g) {pl e ie : Nat} {hd oh : Int32} (h : ED g pl e ie hd oh) : HCx g hd oh := by
  rcases h with ⟨-, -, -, -, h1⟩ | ⟨-, -, j, c, -, -, -, -, h1, -⟩
  · exact fr_h hP.2.1 h1
  · exact fr_h hP.2.1 h1
/-- one frame, by what it waits for -/
theorem ti_af (hP : PU g) (hS : SCh g hc) {i e ie j : Nat} (hj : j < 6) (hA : AF g hc hm j i e ie) (hi : i ≤ ie) (hL : LOW g hc hm j b M) (hV : FV g hc hm j) (h2 : hI hc (g.u + (2 + 2 * j)) 2 = nI (i + 1)) (h3 : fl g j = false → hI hc (g.u + (2 + 2 * j)) 3 = nI b) : ∃ pl hd oh, TI3 g hc hm j i pl hd oh b M := by
  have hz := af_z hA
  obtain ⟨hco, -⟩ := hS.2.2.2.1 (fl g j) fl_m
  rcases hA with ⟨k1, k2, k3⟩ | ⟨k1, pl, hd, oh, a1, a2, a3, a4, a5, a6, a7⟩
  · refine ⟨0, -1, 0, ⟨hV.1, hco, h2, by omega⟩, ?_, fun _ => rfl, fun z => by rw [k1] at z; cases z⟩
    rw [k1]
    exact hS.2.2.2.2.2.1 (fl_m k1) i (by omega)
  · refine ⟨pl, hd, oh, ⟨hV.1, hco, h2, by omega⟩, ?_, fun z => (by rw [k1] at z; cases z), fun _ => ⟨a1, a2, a4, ed_h hP a7, hL, hV, h3 k1⟩⟩
    rw [k1]
    show hI hc g.ha i = hd
    rw [hS.2.2.2.2.1 i (by omega)]
    exact a5 i (Nat.le_refl _) (by omega)
theorem ti_low (hP : PU g) (hS : SCh g hc) : ∀ (q b M : Nat), q ≤ 6 → LOW g hc hm q b M → ∃ (pf pl bf Mf : Nat → Nat) (hf of : Nat → Int32), ∀ j, j < q → TI3 g hc hm j (pf j) (pl j) (hf j) (of j) (bf j) (Mf j) ∧ Mf j + 200 ≤ M := by
  intro q
  induction q with
  | zero => exact fun b M _ _ => ⟨fun _ => 0, fun _ => 0, fun _ => 0, fun _ => 0, fun _ => 0, fun _ => 0, fun j hj => absurd hj (Nat.not_lt_zero _)⟩
  | succ q ih =>
    intro b M hq h
    obtain ⟨bq, lv, st, p, e, J, i, M', a1, a2, a3, a4, a5, a6⟩ := h
    obtain ⟨pf, pl, bf, Mf, hf, of, h1⟩ := ih bq M' (by omega) a1
    obtain ⟨pl0, hd0, oh0, h2⟩ := ti_af hP hS (by omega) a4 (by omega) a1 a2 a3.2.2.2.2.2.2.2.2.1 a3.2.2.2.2.2.2.2.2.2
    have hpn : p ≤ 152 := by
      have := a3.2.2.1
      have := (pu_tx (q := q) hP).1.1
      omega
    refine ⟨fun j => if j = q then i else pf j, fun j => if j = q then pl0 else pl j, fun j => if j = q then bq else bf j, fun j => if j = q then M' else Mf j, fun j => if j = q then hd0 else hf j, fun j => if j = q then oh0 else of j, fun j hj => ?_⟩
    by_cases c : j = q
    · subst c
      simp only [if_true]
      exact ⟨h2, by omega⟩
    · simp only [c, if_false]
      obtain ⟨h3, h4⟩ := h1 j (by omega)
      exact ⟨h3, by omega⟩
theorem trB_F {h : Hp} {T K V : Nat → Int32} {p : Nat} (h1 : ∀ k, k < 152 → hI h 51 k = T k) (h2 : ∀ k, hI h 53 k = K k) (h3 : ∀ k, hI h 52 k = V k) : ∀ m, m ≤ 152 → trB h p m = trF T K V p m := by
  intro m
  induction m with
  | zero => exact fun _ => rfl
  | succ m ih =>
    intro hm
    rw [trB_s]
    show _ = if T m = 123 ∧ K m = 3 ∧ nI p < V m then nI m else trF T K V p m
    rw [h1 m (by omega), h2, h3, ih (by omega)]
/-- what the model's caught does -/
theorem cgt_run {m : Nat} {pl : Nat → Nat} {of : Nat → Int32} : ∀ (n : Nat) (h : Hp), hI h 62 m = nI (m + n) → (∀ j, j < n → trB h (pl (6 * m + (m + j))) (pl (6 * m + (m + j))) = of (m + j)) →
    (∃ j, j < n ∧ ¬ of (m + j) = -1 ∧ (∀ i, j < i → i < n → of (m + i) = -1) ∧ cgt m pl n h = (some (.inl 1), sI (sI (sI (sI h 62 m (nI (m + (j + 1)))) 66 (6 * (6 * m + (m + j)) + 4) (hI h 49 28)) 64 (6 * m + (m + j)) (hI h 52 (of (m + j)).toNatClampNeg + 2)) 49 27 0))
    ∨ ((∀ j, j < n → of (m + j) = -1) ∧ cgt m pl n h = (some (.inl 0), sI h 62 m (nI m))) := by
  intro n
  induction n with
  | zero =>
    intro h hd ho
    exact Or.inr ⟨fun j hj => absurd hj (Nat.not_lt_zero _), by rw [sI_id (by rw [hd]; rfl)]; rfl⟩
  | succ n ih =>
    intro h hd ho
    have e0 : cgt m pl (n + 1) h = if trB h (pl (6 * m + (m + n))) (pl (6 * m + (m + n))) = -1 then cgt m pl n (sI h 62 m (nI (m + n))) else (some (.inl 1), sI (sI (sI h 66 (6 * (6 * m + (m + n)) + 4) (hI h 49 28)) 64 (6 * m + (m + n)) (hI h 52 (trB h (pl (6 * m + (m + n))) (pl (6 * m + (m + n)))).toNatClampNeg + 2)) 49 27 0) := rfl
    rw [ho n (by omega)] at e0
    by_cases c : of (m + n) = -1
    · rw [if_pos c] at e0
      rcases ih (sI h 62 m (nI (m + n))) hI_is (fun j hj => by rw [trB_sI (by decide) (by decide) (by decide)]; exact ho j (by omega)) with ⟨j, h1, h2, h3, h4⟩ | ⟨h1, h2⟩
      · refine Or.inl ⟨j, by omega, h2, fun i h5 h6 => ?_, ?_⟩
        · by_cases c2 : i = n
          · rw [c2]; exact c
          · exact h3 i h5 (by omega)
        · rw [e0, h4, sI_same, hI_ne (by omega), hI_ne (by omega)]
      · refine Or.inr ⟨fun j hj => ?_, by rw [e0, h2, sI_same]⟩
        by_cases c2 : j = n
        · rw [c2]; exact c
        · exact h1 j (by omega)
    · rw [if_neg c] at e0
      exact Or.inl ⟨n, by omega, c, fun i h5 h6 => by omega, by rw [e0, sI_id (h := h) (o := 62) (k := m) hd]⟩
end RH

-- one answer: a method answers once
section DT
variable {xs : Nat → Int32} {L d : Nat} {h g h0 : Hp} {res : Res}
theorem ex_det {C : Nat → List AV → Hp → Res → Prop} (hC : ∀ m as h r1 r2, C m as h r1 → C m as h r2 → r1 = r2) {mi : Nat} : ∀ (f f' : Nat) (st : St) (r1 r2 : Res), Ex xs L C mi f st r1 → Ex xs L C mi f' st r2 → r1 = r2 := by
  intro f
  induction f with
  | zero => intro f' st r1 r2 h1 _; exact h1.elim
  | succ f ih =>
    intro f' st r1 r2 h1 h2
    cases f' with
    | zero => exact h2.elim
    | succ f' =>
      unfold Ex at h1 h2
      cases hs : am_step xs L mi st with
      | none => rw [hs] at h1; exact h1.elim
      | some o =>
        rw [hs] at h1 h2
        match o, h1, h2 with
        | .inl st', h1, h2 => exact ih _ _ _ _ h1 h2
        | .inr (.inl q), ⟨r, a1, a2⟩, ⟨r', b1, b2⟩ =>
          have e := hC _ _ _ _ _ a1 b1
          subst e
          exact ih _ _ _ _ a2 b2
        | .inr (.inr r), h1, h2 => exact (h1 : r1 = r).trans (h2 : r2 = r).symm
theorem rn_det : ∀ (d : Nat) (m : Nat) (as : List AV) (h : Hp) (r1 r2 : Res), Rn xs L d m as h r1 → Rn xs L d m as h r2 → r1 = r2 := by
  intro d
  induction d with
  | zero => intro m as h r1 r2 h1 _; exact h1.elim
  | succ d ih =>
    intro m as h r1 r2 h1 h2
    obtain ⟨f, h1⟩ := h1
    obtain ⟨f', h2⟩ := h2
    exact ex_det ih f f' _ _ _ h1 h2
theorem ex_up {C C' : Nat → List AV → Hp → Res → Prop} (hC : ∀ m as h r, C m as h r → C' m as h r) {mi : Nat} : ∀ (f : Nat) (st : St) (r : Res), Ex xs L C mi f st r → Ex xs L C' mi f st r := by
  intro f
  induction f with
  | zero => exact fun _ _ h => h
  | succ f ih =>
    intro st r h
    unfold Ex at h ⊢
    cases hs : am_step xs L mi st with
    | none => rw [hs] at h; exact h.elim
    | some o =>
      rw [hs] at h
      match o, h with
      | .inl st', h => exact ih _ _ h
      | .inr (.inl q), ⟨r', a1, a2⟩ => exact ⟨r', hC _ _ _ _ a1, ih _ _ a2⟩
      | .inr (.inr r'), h => exact h
theorem rn_up : ∀ (d m : Nat) (as : List AV) (h : Hp) (r : Res), Rn xs L d m as h r → Rn xs L (d + 1) m as h r := by
  intro d
  induction d with
  | zero => exact fun _ _ _ _ h => h.elim
  | succ d ih =>
    intro m as h r hr
    obtain ⟨f, hf⟩ := hr
    exact ⟨f, ex_up ih f _ _ hf⟩
theorem rn_le {d2 m : Nat} {as : List AV} (hd : d ≤ d2) (h1 : Rn xs L d m as h res) : Rn xs L d2 m as h res := by
  obtain ⟨k, rfl⟩ : ∃ k, d2 = d + k := ⟨d2 - d, by omega⟩
  clear hd
  induction k with
  | zero => exact h1
  | succ k ih => exact rn_up _ _ _ _ _ ih
end DT

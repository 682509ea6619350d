-- THE DESK: what a loaded program is
/-- text, length, the translator's text and state before, kinds, owners, lines, partners, bodies -/
abbrev PDt := (Nat → Int32) × Nat × (Nat → Int32) × TS × (Nat → Int32) × (Nat → Int32) × (Nat → Int32) × (Nat → Int32) × (Nat → Nat)
def PDt.T (x : PDt) : Nat → Int32 := x.1
def PDt.n (x : PDt) : Nat := x.2.1
def PDt.tx (x : PDt) : Nat → Int32 := x.2.2.1
def PDt.s (x : PDt) : TS := x.2.2.2.1
def PDt.K (x : PDt) : Nat → Int32 := x.2.2.2.2.1
def PDt.W (x : PDt) : Nat → Int32 := x.2.2.2.2.2.1
def PDt.Z (x : PDt) : Nat → Int32 := x.2.2.2.2.2.2.1
def PDt.V (x : PDt) : Nat → Int32 := x.2.2.2.2.2.2.2.1
def PDt.bd (x : PDt) : Nat → Nat := x.2.2.2.2.2.2.2.2
def PDt.r (x : PDt) : TS := (cProgL x.n x.tx 4 x.s).2
def PDok (x : PDt) : Prop := TX x.T x.n ∧ TC x.T x.tx x.n ∧ St0 x.s ∧ cAcc x.n (cProgL x.n x.tx 4 x.s) ∧ (∀ f, f < 4 → x.bd f < 152 ∧ (aP x.r f = -1 ↔ x.bd f = 0)) ∧ ∀ f, f < 4 → 0 < x.bd f → FB (arC x.r) x.T x.n (aI x.r) (aH x.r) (aS x.r) x.K x.W x.Z x.V x.bd x.r.2.1 x.r.2.2.1 f
/-- the model's tables are those of x -/
def HPD (h : Hp) (x : PDt) : Prop := hI h 49 3 = nI x.n ∧ (∀ j, j < 152 → hI h 51 j = x.T j) ∧ (∀ f, f < 4 → hI h 56 f = nI (x.bd f)) ∧ (∀ f, f < 4 → 0 < x.bd f → hI h 57 f = aP x.r f) ∧ hI h 49 5 = nI x.r.2.2.1 ∧ (∀ k, hI h 53 k = x.K k) ∧ (∀ k, hI h 54 k = x.W k) ∧ (∀ k, hI h 55 k = x.Z k) ∧ ∀ k, hI h 52 k = x.V k
/-- an aside's data: instructions, text, Code object, size, where its row begins, length -/
abbrev ADt := (Nat → Int32) × (Nat → Int32) × Nat × Nat × Nat × Nat
def mkG (x : PDt) (pg m : Nat) (a : ADt) (tf : Nat) : CTX := (fun k => match k with
  | 0 => arC x.r
  | 1 => x.T
  | 2 => aI x.r
  | 3 => aH x.r
  | 4 => x.K
  | 5 => x.W
  | 6 => x.Z
  | 7 => x.V
  | 8 => aS x.r
  | 9 => a.1
  | _ => a.2.1, fun k => match k with
  | 0 => x.n
  | 1 => x.r.2.1
  | 2 => if m = 0 then 12 else 29
  | 3 => m
  | 4 => pg
  | 5 => pg + 1
  | 6 => pg + 2
  | 7 => pg + 3
  | 8 => pg + 4
  | 9 => pg + 5
  | 10 => a.2.2.1
  | 11 => a.2.2.1 + 1
  | 12 => a.2.2.1 + 2
  | 13 => a.2.2.2.1
  | 14 => a.2.2.2.2.1
  | 15 => a.2.2.2.2.2
  | 16 => x.bd 0
  | 17 => x.bd 1
  | 18 => x.bd 2
  | 19 => x.bd 3
  | _ => tf)
section DA2
variable {xs : Nat → Int32} {L d : Nat} {h hc hm : Hp} {x : PDt} {pg m tf : Nat} {a : ADt}
theorem mk_bd {f : Nat} (hf : f < 4) : (mkG x pg m a tf).bd f = x.bd f := by
  have : f = 0 ∨ f = 1 ∨ f = 2 ∨ f = 3 := by omega
  rcases this with e | e | e | e <;> subst e <;> rfl
theorem pu_mk (hx : PDok x) (hm : m = 0 ∨ m = 1) (hpg : 80 ≤ pg) (ha : m = 1 → TX a.2.1 a.2.2.2.2.2 ∧ 80 ≤ a.2.2.1) (hz : a.2.2.2.1 ≤ 151) (hb : a.2.2.2.2.1 + 152 ≤ 6384) : PU (mkG x pg m a tf) := by
  have hc := hx.2.2.2.1
  have h1 := bd_progl (tx := x.tx) 4 x.s (bd_st0 (n := x.n) hx.2.2.1) hc.1
  have hA0 : Ars (aP x.r) := progl_P hx.2.1 4 x.s (fun f hf => Or.inl (hx.2.2.1.2.2.2 f hf).1) hc.1
  have hA : Ars (arC x.r) := fun f hf => by unfold arC; rw [if_pos hf]; exact hA0 f hf
  refine ⟨?_, hx.1, fun z => (ha z).1, h1.2.1, hz, hA, fun f hf hne => ?_, hb, ⟨hpg, by show 80 ≤ pg + 1; omega, by show 80 ≤ pg + 2; omega, by show 80 ≤ pg + 3; omega, by show 80 ≤ pg + 4; omega, by show 80 ≤ pg + 5; omega⟩, fun z => ?_⟩
  · rcases hm with e | e
    · subst e; exact Or.inl ⟨rfl, rfl⟩
    · subst e; exact Or.inr ⟨rfl, rfl⟩
  · rw [mk_bd hf]
    have hne : ¬ arC x.r f = -1 := hne
    unfold arC at hne
    rw [if_pos hf] at hne
    obtain ⟨b1, b2⟩ := hx.2.2.2.2.1 f hf
    have hb0 : 0 < x.bd f := Nat.pos_of_ne_zero (fun z => hne (b2.mpr z))
    have hFB := hx.2.2.2.2.2 f hf hb0
    obtain ⟨i, i1, i2⟩ := fb_fr hx.1 b1 hFB
    refine ⟨hb0, b1, i, i1, i2, fun h125 => ?_⟩
    obtain ⟨e, i', j, l, mm, fu, g1, g2, g3, g4, g5, g6, g7, g8, g9, g10, g11, g12⟩ := hFB
    have hii : i' = i := by
      obtain ⟨-, c, hcx⟩ := (⟨trivial, i2⟩ : True ∧ _)
      obtain ⟨f0, k0, e0, j0, l0, m0, q1, q2⟩ := hcx
      have hi1 := (sl_p hx.1 q1).2.2.2
      have hj0 := cx_j q2
      have hi2 := (sl_p (I := aI x.r) (H := aH x.r) (K := x.K) (W := x.W) (Z := x.Z) (V := x.V) hx.1 g4).2.2.2
      rw [g3] at i1
      have hz1 : x.r.2.1 ≤ 151 := h1.2.1
      exact (nI_eq (by omega) (by omega)).mp i1
    subst hii
    have hT125 : x.T (x.bd f + 1) = 125 := h125
    cases fu with
    | zero => exact g4.elim
    | succ fu =>
      rcases g4 with ⟨w1, w2, -⟩ | ⟨q, y, l1, w1, -⟩
      · subst w1
        subst w2
        exact ⟨g8, g6, g9, g10, g12⟩
      · exact absurd hT125 w1.1
  · have := (ha z).2
    exact ⟨this, by show 80 ≤ a.2.2.1 + 1; omega, by show 80 ≤ a.2.2.1 + 2; omega⟩
end DA2

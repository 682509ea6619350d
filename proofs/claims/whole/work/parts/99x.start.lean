-- THE CALL start; what start and go may change
section CT1
variable {xs : Nat → Int32} {L d i : Nat} {h g hc hm hc1 hm1 hc2 hm2 hc3 hm3 : Hp} {x y : PDt} {pg pg2 B B2 l o row c t va : Nat} {ar : Nat → Int32} {v s : Int32}
/-- what start and go may change in the class -/
def GC (h g : Hp) : Prop := hN g = hN h ∧ hU g = hU h ∧ (∀ o, hK g o = hK h o ∧ hL g o = hL h o) ∧ (∀ o k, ¬ (12 ≤ o ∧ o < 46) → hR g o k = hR h o k) ∧ (∀ o k, ¬ (12 ≤ o ∧ o < 48) → ¬ (80 ≤ o ∧ k = 3 ∧ hK h o = 0) → hI g o k = hI h o k) ∧ (MI 12 h → MI 12 g) ∧ (MI 29 h → MI 29 g)
theorem gc_rfl : GC h h := ⟨rfl, rfl, fun _ => ⟨rfl, rfl⟩, fun _ _ _ => rfl, fun _ _ _ _ => rfl, id, id⟩
theorem gc_tr (h1 : GC hc hc2) (h2 : GC hc2 hc3) : GC hc hc3 := ⟨h2.1.trans h1.1, h2.2.1.trans h1.2.1, fun o => ⟨(h2.2.2.1 o).1.trans (h1.2.2.1 o).1, (h2.2.2.1 o).2.trans (h1.2.2.1 o).2⟩, fun o k q => (h2.2.2.2.1 o k q).trans (h1.2.2.2.1 o k q), fun o k q1 q2 => (h2.2.2.2.2.1 o k q1 (by rw [(h1.2.2.1 o).1]; exact q2)).trans (h1.2.2.2.2.1 o k q1 q2), fun z => h2.2.2.2.2.2.1 (h1.2.2.2.2.2.1 z), fun z => h2.2.2.2.2.2.2 (h1.2.2.2.2.2.2 z)⟩
theorem gc_sI {k : Nat} (ho : (12 ≤ o ∧ o < 48) ∨ (80 ≤ o ∧ k = 3 ∧ hK h o = 0)) : GC h (sI h o k v) := ⟨rfl, rfl, fun _ => ⟨rfl, rfl⟩, fun _ _ _ => rfl, fun a b q1 q2 => hI_ne (fun z => by
  obtain ⟨rfl, rfl⟩ := z
  exact ho.elim q1 q2), fun hM => mi_gen (hc := h) (μ := 12) (fun _ => ⟨rfl, rfl⟩) (fun _ _ _ _ => rfl) hM, fun hM => mi_gen (hc := h) (μ := 29) (fun _ => ⟨rfl, rfl⟩) (fun _ _ _ _ => rfl) hM⟩
theorem gc_123 {w : Option Nat} : GC h (sR h 12 3 w) := ⟨rfl, rfl, fun _ => ⟨rfl, rfl⟩, fun a b q => by rw [hR_sR, if_neg (by omega)], fun a b q1 q2 => rfl, fun hM => mi_gen (hc := h) (μ := 12) (fun _ => ⟨rfl, rfl⟩) (fun a b q1 _ => by rw [hR_sR, if_neg q1]) hM, fun hM => mi_same (h := h) (fun a q1 q2 => ⟨rfl, rfl, fun k => by rw [hR_sR, if_neg (by omega)]⟩) hM⟩
theorem gc_ud {code : Int32} (h1 : UD 12 code hc hc2) : GC hc hc2 := by
  obtain ⟨a1, a2, a3, a4, a5⟩ := h1
  refine ⟨a1, a2, a3, fun o k q => (a4 o k).resolve_right (by omega), fun o k q1 q2 => (a5 o k).resolve_right (fun z => ?_), fun hM => mi_gen (hc := hc) (μ := 12) a3 (fun o k q1 q2 => (a4 o k).resolve_right (fun ⟨z1, j, z2, z3, z4⟩ => q2 ⟨z1, j, z3, z4⟩)) hM, fun hM => mi_same (h := hc) (fun o q1 q2 => ⟨(a3 o).1, (a3 o).2, fun k => (a4 o k).resolve_right (by omega)⟩) hM⟩
  rcases z with z | z
  · have := owc_in z; omega
  · omega
theorem gc_ua (h1 : UA hc hc2) : GC hc hc2 := by
  obtain ⟨a1, a2, a3, a4, a5⟩ := h1
  exact ⟨a1, a2, a3, fun o k q => (a4 o (by omega)).2.2.1 k, fun o k q1 q2 => (a4 o (by omega)).2.2.2 k, fun hM => mi_same (h := hc) (fun o q1 q2 => ⟨(a3 o).1, (a3 o).2, (a4 o (by omega)).2.2.1⟩) hM, a5⟩
theorem gc_sm (h1 : GC hc hc2) (ho : ¬ (12 ≤ o ∧ o < 48)) (hk : ¬ (80 ≤ o ∧ hK hc o = 0)) : Sm1 hc hc2 o := ⟨(h1.2.2.1 o).1, (h1.2.2.1 o).2, fun k => h1.2.2.2.1 o k (by omega), fun k => h1.2.2.2.2.1 o k ho (fun z => hk ⟨z.1, z.2.2⟩)⟩
theorem gc_fg : GC h (fgH 12 h) := by
  unfold fgH
  exact gc_tr (gc_sI (Or.inl (by omega))) (gc_tr (gc_sI (Or.inl (by omega))) (gc_tr (gc_sI (Or.inl (by omega))) (gc_tr (gc_sI (Or.inl (by omega))) (gc_tr (gc_sI (Or.inl (by omega))) (gc_sI (Or.inl (by omega)))))))
theorem gc_pro {z ln : Nat} {I H S P : Nat → Int32} (h1 : GC hc hc2) (hp : 80 ≤ pg) (hP : PRO hc pg z ln I H S P) : PRO hc2 pg z ln I H S P := by
  refine pro_fr hP (fun o u1 u2 => gc_sm h1 (by omega) (fun z => ?_))
  obtain ⟨⟨p1, p2, p3, p4, p5, p6, p7, p8⟩, ⟨w1, w2, w3, w4, w5, w6, w7, w8, w9⟩, -⟩ := hP
  have : o = pg ∨ o = pg + 1 ∨ o = pg + 2 ∨ o = pg + 3 ∨ o = pg + 4 ∨ o = pg + 5 := by omega
  have z2 := z.2
  rcases this with e | e | e | e | e | e <;> subst e
  · rw [p1] at z2; exact absurd z2 (by decide)
  · rw [w1] at z2; exact absurd z2 (by decide)
  · rw [w5] at z2; exact absurd z2 (by decide)
  · rw [w7] at z2; exact absurd z2 (by decide)
  · rw [p5] at z2; exact absurd z2 (by decide)
  · rw [p7] at z2; exact absurd z2 (by decide)
theorem gc_asd (h1 : GC hc hc2) (hp : 80 ≤ c) (hA : ASD ar row c hc hm) (hM : ∀ j, j < 152 → hI hm2 51 (152 * row + j) = hI hm 51 (152 * row + j)) : ASD ar row c hc2 hm2 := by
  refine asd_fr hA (fun o u1 u2 => gc_sm h1 (by omega) (fun z => ?_)) hM
  obtain ⟨TA, IA, n, zz, J, a1, a2, a3, ⟨w1, w2, w3, w4, w5, w6, w7, w8, w9⟩, -⟩ := hA
  have : o = c ∨ o = c + 1 ∨ o = c + 2 := by omega
  have z2 := z.2
  rcases this with e | e | e <;> subst e
  · rw [w1] at z2; exact absurd z2 (by decide)
  · rw [w5] at z2; exact absurd z2 (by decide)
  · rw [w7] at z2; exact absurd z2 (by decide)
theorem gc_prg (h1 : GC hc hc2) (hg : PRG x pg hc hm) (hE : EqT hm hm2) : PRG x pg hc2 hm2 := by
  obtain ⟨a1, a2, a3, a4, a5, a6, a7, a8⟩ := hg
  exact ⟨a1, a2, hpd_fr a3 hE, (h1.2.2.2.1 3 6 (by omega)).trans a4, a5, by rw [h1.1]; exact a6, gc_pro h1 a5 a7, (hE.1 4 (by omega)).trans a8⟩
theorem gc_dk (h1 : GC hc hc2) (hD : DK hc) : DK hc2 := dk_ag (hc := hc) (fun o _ => h1.2.2.1 o) (fun k _ => h1.2.2.2.1 3 k (by omega)) (h1.2.2.2.1 4 0 (by omega)) (h1.2.2.2.1 46 0 (by omega)) hD
/-- what start and go may change in the model -/
def OwG (o k : Nat) : Prop := (o = 49 ∧ ((27 ≤ k ∧ k ≤ 32) ∨ k = 40 ∨ k = 42)) ∨ (62 ≤ o ∧ o ≤ 72) ∨ o = 77 ∨ o = 78 ∨ o = 79
def GM (h g : Hp) : Prop := hN g = hN h ∧ hU g = hU h ∧ (∀ o, hK g o = hK h o ∧ hL g o = hL h o ∧ ∀ k, hR g o k = hR h o k) ∧ ∀ o k, hI g o k = hI h o k ∨ OwG o k
theorem gm_rfl : GM h h := ⟨rfl, rfl, fun _ => ⟨rfl, rfl, fun _ => rfl⟩, fun _ _ => Or.inl rfl⟩
theorem gm_tr (h1 : GM hm hm2) (h2 : GM hm2 hm3) : GM hm hm3 := ⟨h2.1.trans h1.1, h2.2.1.trans h1.2.1, fun o => ⟨(h2.2.2.1 o).1.trans (h1.2.2.1 o).1, (h2.2.2.1 o).2.1.trans (h1.2.2.1 o).2.1, fun k => ((h2.2.2.1 o).2.2 k).trans ((h1.2.2.1 o).2.2 k)⟩, fun o k => by
  rcases h2.2.2.2 o k with e | e
  · rw [e]; exact h1.2.2.2 o k
  · exact Or.inr e⟩
theorem gm_sI {k : Nat} (ho : OwG o k) : GM hm (sI hm o k v) := ⟨rfl, rfl, fun _ => ⟨rfl, rfl, fun _ => rfl⟩, fun a b => by
  by_cases e : a = o ∧ b = k
  · rw [e.1, e.2]; exact Or.inr ho
  · exact Or.inl (hI_ne e)⟩
theorem gm_sA {f : Nat → Int32} (ho : ∀ k, OwG o k) : GM hm (sA hm o f) := ⟨rfl, rfl, fun _ => ⟨rfl, rfl, fun _ => rfl⟩, fun a b => by
  by_cases e : a = o
  · rw [e]; exact Or.inr (ho b)
  · exact Or.inl (by rw [hI_sA, if_neg e])⟩
theorem gm_um {m : Nat} (h : UM m 0 hm hm2) : GM hm hm2 := ⟨h.1, h.2.1, fun o => ⟨(h.2.2.1 o).1, (h.2.2.1 o).2, h.2.2.2.1 o⟩, fun o k => (h.2.2.2.2 o k).imp id (fun z => by unfold OwM at z; unfold OwG; omega)⟩
theorem gm_no (h : GM hm hm2) {o k : Nat} (ho : ¬ OwG o k) : hI hm2 o k = hI hm o k := (h.2.2.2 o k).resolve_right ho
theorem gm_eqt (h : GM hm hm2) : EqT hm hm2 := ⟨fun k hk => gm_no h (by unfold OwG; omega), fun j hj => gm_no h (by unfold OwG; omega), fun o k q1 q2 => gm_no h (by unfold OwG; omega)⟩
theorem gm_mo (h : GM hm hm2) (hO : MO hm) : MO hm2 := mo_ag (hm := hm) (fun o _ _ => h.2.2.1 o) hO
theorem gm_agc (h : GM hm hm2) : AgC hm hm2 := ⟨h.1, h.2.1, fun o ho => ⟨(h.2.2.1 o).1, (h.2.2.1 o).2.1, (h.2.2.1 o).2.2, fun k => gm_no h (by unfold OwG; omega)⟩⟩
theorem gc_brk (hC : GC hc hc2) (hM : GM hm hm2) (hl : l < 40) (h1 : BRK ar B l hc hm) (hcnt : ∀ o, hR hc 48 l = some o → hI hc2 o 3 = hI hm2 77 l ∧ ∃ c, c ≤ B2 ∧ hI hc2 o 3 = nI c) : BRK ar B2 l hc2 hm2 := by
  have r48 : hR hc2 48 l = hR hc 48 l := hC.2.2.2.1 48 l (by omega)
  rcases h1 with ⟨h1, h2⟩ | ⟨o, h1, h2, h3, h4, h5, h6, h7, h8, h9, h10⟩
  · exact Or.inl ⟨r48.trans h1, (gm_no hM (by unfold OwG; omega)).trans h2⟩
  · obtain ⟨n1, n2⟩ := hcnt o h1
    refine Or.inr ⟨o, r48.trans h1, h2, by rw [hC.1]; exact h3, (hC.2.2.1 o).1.trans h4, (gm_no hM (by unfold OwG; omega)).trans h5, (hC.2.2.2.2.1 o 1 (by omega) (by omega)).trans (h6.trans (gm_no hM (by unfold OwG; omega)).symm), (hC.2.2.2.2.1 o 2 (by omega) (by omega)).trans (h7.trans (gm_no hM (by unfold OwG; omega)).symm), n1, n2, ?_⟩
    have r0 : hR hc2 o 0 = hR hc o 0 := hC.2.2.2.1 o 0 (by omega)
    rcases h10 with ⟨k1, k2⟩ | ⟨c, k1, k2, k3, k4, k5⟩
    · exact Or.inl ⟨r0.trans k1, (gm_no hM (by unfold OwG; omega)).trans k2⟩
    · exact Or.inr ⟨c, r0.trans k1, k2, by rw [hC.1]; exact k3, (gm_no hM (by unfold OwG; omega)).trans k4, gc_asd hC k2 k5 (fun j hj => gm_no hM (by unfold OwG; omega))⟩
/-- the invariant after start or go -/
theorem g_inv (hv : INV i hc hm) (hg : PRG x pg hc hm) (hB : ∀ l, l < 40 → BRK (arC x.r) B l hc hm) (hDS : DST hc) (hC : GC hc hc2) (hM : GM hm hm2) (hcnt : ∀ l, l < 40 → ∀ o, hR hc 48 l = some o → hI hc2 o 3 = hI hm2 77 l ∧ ∃ c, c ≤ 1000000 * (i + 1) ∧ hI hc2 o 3 = nI c) (hnt : NTS (1000000 * (i + 1)) hc2 hm2) (hou : OUT (1000000 * (i + 1)) hc2 hm2) (hs : hI hm2 49 30 = hI hc2 12 4 ∧ hI hm2 49 31 = hI hc2 12 5 ∧ hI hm2 49 32 = hI hc2 12 8 ∧ (hI hm2 49 29 = 0 ∨ hI hm2 49 29 = 1)) (hR : RUN x pg hc2 hm2) : INV (i + 1) hc2 hm2 ∧ AgM hc hc2 ∧ AgC hm hm2 := by
  obtain ⟨⟨a1, a2, a3, a4, a5, a6, a7, a8⟩, ⟨n, t1, t2, t3, t4⟩, ⟨w1, w2, w3⟩, -, -, ⟨-, -, -, -, s5, s6, s7⟩, -⟩ := hv
  have C : ∀ o k, o < 12 → hI hc2 o k = hI hc o k := fun o k ho => hC.2.2.2.2.1 o k (by omega) (by omega)
  have M : ∀ {o k}, ¬ OwG o k → hI hm2 o k = hI hm o k := fun ho => gm_no hM ho
  have hE := gm_eqt hM
  refine ⟨⟨⟨gc_dk hC a1, hC.2.2.2.2.2.1 a2, hC.2.2.2.2.2.2 a3, kp_tsh (h := hc) (N := 12) (by decide) (fun o q1 q2 => ⟨(hC.2.2.1 o).1, (hC.2.2.1 o).2, fun k => hC.2.2.2.1 o k (by omega)⟩) a4, by rw [hC.1]; exact a5, by rw [hC.1]; omega, by rw [hC.2.1]; omega, gm_mo hM a8⟩, ⟨n, t1, (C 4 1 (by decide)).trans t2, (M (by unfold OwG; omega)).trans t3, fun j hj => ?_⟩, ⟨(C 3 7 (by decide)).trans (w1.trans (M (by unfold OwG; omega)).symm), by rw [C 3 7 (by decide)]; exact w2, (C 3 8 (by decide)).trans (w3.trans (M (by unfold OwG; omega)).symm)⟩, hnt, hou, ⟨hs.1, hs.2.1, hs.2.2.1, hs.2.2.2, fun f hf => ?_, ?_, fun j hj => ?_⟩, Or.inr ⟨x, pg, gc_prg hC hg hE, fun l hl => gc_brk hC hM hl (hB l hl) (hcnt l hl), fun l l2 o q1 q2 q3 q4 => ?_, hR⟩⟩, fun o q1 q2 => gc_sm hC (by omega) (by omega), gm_agc hM⟩
  · rw [M (by unfold OwG; omega), C 5 j (by decide)]; exact t4 j hj
  · rw [M (by unfold OwG; omega)]; exact s5 f hf
  · rw [M (by unfold OwG; omega)]; exact s6
  · rw [M (by unfold OwG; omega)]; exact s7 j hj
  · rw [hC.2.2.2.1 48 l (by omega)] at q3
    rw [hC.2.2.2.1 48 l2 (by omega)] at q4
    exact hDS l l2 o q1 q2 q3 q4
theorem sch_0 {tf : Nat} (hM : MI 12 h) (h3 : hR h 12 3 = some pg) (hP : PRO h pg x.r.2.1 x.r.2.2.1 (aI x.r) (aH x.r) (aS x.r) (aP x.r)) : SCh (mkG x pg 0 a0 tf) h := by
  obtain ⟨p1, p2, p3, p4, p5, p6, p7⟩ := hP
  refine ⟨hM, h3, p1, fun al ha => ?_, p5, fun e => absurd (show (0 : Nat) = 1 from e) (by decide), p6, fun f hf => (p7 f hf).trans ?_⟩
  · cases al with
    | true => exact absurd (show (0 : Nat) = 1 from ha rfl) (by decide)
    | false => exact ⟨p2, p4⟩
  · show _ = arC x.r f
    unfold arC
    rw [if_pos hf]
theorem rs_K : ∀ (m i : Nat) (h : Hp), hN (rsB m i h) = hN h ∧ hU (rsB m i h) = hU h ∧ (∀ o, hK (rsB m i h) o = hK h o ∧ hL (rsB m i h) o = hL h o) ∧ ∀ o k, hR (rsB m i h) o k = hR h o k := by
  intro m
  induction m with
  | zero => exact fun i h => ⟨rfl, rfl, fun _ => ⟨rfl, rfl⟩, fun _ _ => rfl⟩
  | succ m ih =>
    intro i h
    unfold rsB
    cases hr : hR h 48 i with
    | none => exact ih (i + 1) h
    | some o => exact ih (i + 1) (sI h o 3 0)
theorem rs_I {a k : Nat} : ∀ (m i : Nat) (h : Hp), (∀ l o, l < 40 → hR h 48 l = some o → 80 ≤ o ∧ hK h o = 0) → i + m ≤ 40 → ¬ (80 ≤ a ∧ k = 3 ∧ hK h a = 0) → hI (rsB m i h) a k = hI h a k := by
  intro m
  induction m with
  | zero => exact fun i h _ _ _ => rfl
  | succ m ih =>
    intro i h hb hi hn
    unfold rsB
    cases hr : hR h 48 i with
    | none => exact ih (i + 1) h hb (by omega) hn
    | some o =>
      have q := hb i o (by omega) hr
      refine (ih (i + 1) (sI h o 3 0) hb (by omega) hn).trans (hI_ne (fun z => ?_))
      rw [z.1, z.2] at hn
      exact hn ⟨q.1, rfl, q.2⟩
theorem rs_0 {a : Nat} : ∀ (m i : Nat) (h : Hp), (hI h a 3 = 0 ∨ ∃ l, i ≤ l ∧ l < i + m ∧ hR h 48 l = some a) → hI (rsB m i h) a 3 = 0 := by
  intro m
  induction m with
  | zero =>
    intro i h hn
    rcases hn with hn | ⟨l, h1, h2, -⟩
    · exact hn
    · omega
  | succ m ih =>
    intro i h hn
    unfold rsB
    cases hr : hR h 48 i with
    | none =>
      refine ih (i + 1) h (hn.imp id (fun ⟨l, h1, h2, h3⟩ => ⟨l, ?_, by omega, h3⟩))
      have : ¬ l = i := fun e => by rw [e, hr] at h3; cases h3
      omega
    | some o =>
      refine ih (i + 1) (sI h o 3 0) ?_
      by_cases e : a = o
      · subst e; exact Or.inl hI_is
      · rcases hn with hn | ⟨l, h1, h2, h3⟩
        · exact Or.inl ((hI_ne (fun z => e z.1)).trans hn)
        · refine Or.inr ⟨l, ?_, by omega, h3⟩
          have : ¬ l = i := fun e2 => by rw [e2, hr] at h3; injection h3 with h3; exact e h3.symm
          omega
theorem gc_rs (hb : ∀ l o, l < 40 → hR h 48 l = some o → 80 ≤ o ∧ hK h o = 0) : GC h (rsB 40 0 h) := by
  obtain ⟨k1, k2, k3, k4⟩ := rs_K 40 0 h
  exact ⟨k1, k2, k3, fun o k _ => k4 o k, fun o k _ q => rs_I 40 0 h hb (by decide) q, fun hM => mi_gen (hc := h) (μ := 12) k3 (fun o k _ _ => k4 o k) hM, fun hM => mi_gen (hc := h) (μ := 29) k3 (fun o k _ _ => k4 o k) hM⟩
theorem sA_sI2 {f : Nat → Int32} {o2 k2 : Nat} (hne : ¬ o2 = o) : sI (sA h o f) o2 k2 v = sA (sI h o2 k2 v) o f := by
  refine hp_ext rfl rfl (fun _ => rfl) (fun _ => rfl) (fun a b => ?_) (fun _ _ => rfl)
  rw [hI_sI, hI_sA, hI_sA, hI_sI]
  by_cases e : a = o2 ∧ b = k2
  · rw [if_pos e, if_neg (by omega), if_pos e]
  · rw [if_neg e, if_neg e]
theorem ent_9 : sI (entH 12 0 0 0 0 c s h) 12 9 0 = entH 12 0 0 0 0 c s (sI h 12 9 0) := by
  unfold entH
  refine (sI_comm (by omega)).trans (congrArg (fun z => sI z 12 6 (nI (0 + 1))) ?_)
  refine (sI_comm (by omega)).trans (congrArg (fun z => sI z (12 + (2 + 2 * 0)) 4 (nI 0)) ?_)
  refine (sI_comm (by omega)).trans (congrArg (fun z => sI z (12 + (2 + 2 * 0)) 3 (nI (0 - 0))) ?_)
  refine (sI_comm (by omega)).trans (congrArg (fun z => sI z (12 + (2 + 2 * 0)) 2 s) ?_)
  refine congrArg (fun z => sR z (12 + (2 + 2 * 0)) 1 (some c)) (?_ : sI _ 12 9 0 = _)
  refine (sI_comm (by omega)).trans (congrArg (fun z => sI z 12 7 (nI (0 - 0))) ?_)
  refine (sA_sI2 (by omega)).trans (congrArg (fun f => sA (sI h 12 9 0) (12 + (3 + 2 * 0)) f) (funext fun j => ?_))
  rw [hI_ne (by omega), hI_ne (by omega)]
theorem uc_ent : UC 12 0 0 h (entH 12 0 0 0 0 c s h) := by
  unfold entH
  exact uc_u (uc_f (by decide) (uc_f (by decide) (uc_f (by decide) (uc_sR (uc_u (uc_sA uc_rfl (fun k => Or.inr (Or.inr (Or.inr (Or.inl ⟨0, Nat.le_refl _, by decide, Or.inr rfl⟩)))))) (Nat.le_refl _) (by decide)))))
theorem ms_I {k : Nat} (hn : ¬ (o = 49 ∧ (k = 40 ∨ k = 42 ∨ k = 32))) (h77 : ¬ o = 77) (h62 : ¬ (o = 62 ∧ k = 0)) : hI (msH h) o k = hI h o k := by
  unfold msH
  rw [hI_ne (by omega), hI_sA, if_neg h77, hI_ne (by omega), hI_ne (by omega), hI_ne (by omega)]
theorem gm_ms : GM h (msH h) := ⟨rfl, rfl, fun _ => ⟨rfl, rfl, fun _ => rfl⟩, fun o k => by
  by_cases e : OwG o k
  · exact Or.inr e
  · unfold OwG at e
    exact Or.inl (ms_I (by omega) (by omega) (by omega))⟩
/-- what the model's come leaves -/
def cmH (w : Int32) (h : Hp) : Hp := if w = 1 then sI (sI h 49 30 1) 49 31 0 else sI (sI (sI h 49 30 w) 49 31 (hI h 49 28)) 62 0 0
theorem m_cm {w : Int32} (hO : MO h) : Rn xs L (d + 1) 103 [.inr (some 49), .inl w] h (none, cmH w h) := by
  unfold cmH
  by_cases e : w = 1
  · rw [if_pos e]; subst e; exact m_come1 hO
  · rw [if_neg e]; exact m_come hO e
theorem cm_I {w : Int32} {k : Nat} (h1 : ¬ (o = 49 ∧ (k = 30 ∨ k = 31))) (h2 : ¬ (o = 62 ∧ k = 0)) : hI (cmH w h) o k = hI h o k := by
  unfold cmH
  by_cases e : w = 1
  · rw [if_pos e, hI_ne (by omega), hI_ne (by omega)]
  · rw [if_neg e, hI_ne (by omega), hI_ne (by omega), hI_ne (by omega)]
theorem cm_30 {w : Int32} : hI (cmH w h) 49 30 = w := by
  unfold cmH
  by_cases e : w = 1
  · rw [if_pos e, hI_ne (by decide), hI_is, e]
  · rw [if_neg e, hI_ne (by decide), hI_ne (by decide), hI_is]
theorem gm_cm {w : Int32} : GM h (cmH w h) := by
  refine ⟨?_, ?_, fun o => ?_, fun o k => ?_⟩
  · unfold cmH; split <;> rfl
  · unfold cmH; split <;> rfl
  · unfold cmH; split <;> exact ⟨rfl, rfl, fun _ => rfl⟩
  · by_cases e : OwG o k
    · exact Or.inr e
    · unfold OwG at e
      exact Or.inl (cm_I (by omega) (by omega))
/-- behind a run and come: the place agrees -/
theorem cm_run {code : Int32} {tf : Nat} (hg : PRG x pg hc hm) (hO : MO hm) (hE : END1 (mkG x pg 0 a0 tf) code hc hm) (h5 : code = 1 → hI hc 12 5 = 0) : RUN x pg hc (cmH code hm) ∧ hI (cmH code hm) 49 30 = hI hc 12 4 ∧ hI (cmH code hm) 49 31 = hI hc 12 5 := by
  have hE4 := (end_4 hE).2
  have hG := gm_cm (h := hm) (w := code)
  rcases hE with ⟨e, hW⟩ | ⟨e, hW⟩ | ⟨e, hW⟩
  · have hW0 : WAI (mkG x pg 0 a0 0) hc (cmH code hm) := by
      refine wai_tr (K := x.K) (W := x.W) (Z := x.Z) (V := x.V) hg.1.1 (agv_rfl (rd_par hg.2.1)) (fun o _ => ⟨rfl, rfl, fun _ => rfl, fun _ => rfl⟩) ⟨?_, fun o k q1 q2 => cm_I (by omega) (by omega), fun o k q1 q2 => cm_I (by omega) (by omega), fun k q => cm_I (by omega) (by omega)⟩ (smh_mk (x := x) hg.1 (gm_mo hG hO) (hpd_fr hg.2.2.1 (gm_eqt hG))) hW
      unfold cmH
      rw [if_pos e, hI_ne (by decide), hI_ne (by decide)]
    have h12 : hI hc 12 5 = 0 := h5 e
    refine ⟨Or.inl ⟨hW.1, h12, hW0⟩, cm_30.trans hE4.symm, ?_⟩
    rw [h12]
    unfold cmH
    rw [if_pos e, hI_is]
  · refine ⟨Or.inr ⟨Or.inr (Or.inl hW.1), hW.2.1⟩, cm_30.trans hE4.symm, ?_⟩
    have h1 : hI hc 12 5 = hI hm 49 28 := hW.2.2
    unfold cmH
    rw [if_neg (by rw [e]; decide), hI_ne (by decide), hI_is, h1]
  · refine ⟨Or.inr ⟨Or.inr (Or.inr hW.1), hW.2.1⟩, cm_30.trans hE4.symm, ?_⟩
    have h1 : hI hc 12 5 = hI hm 49 28 := hW.2.2
    unfold cmH
    rw [if_neg (by rw [e]; decide), hI_ne (by decide), hI_is, h1]
theorem k_start : CAL xs L (d + 60) i 53 104 [] := fun hc hm hv => by
  have hv0 := hv
  obtain ⟨⟨a1, a2, a3, a4, a5, a6, a7, a8⟩, -, -, ⟨mn, n1, n2, n3, n4⟩, ⟨uo, o1, o2, o3, o4⟩, ⟨-, -, -, s29, -⟩, h7⟩ := hv0
  rcases h7 with z | ⟨x, pg, g1, g2, g3, g4⟩
  · exact ⟨_, hc, hm, d_start_no (d := d + 59) a1 z.1, m_start_no (d := d + 59) a8 z.2.1, inv_up hv, agm_rfl, agc_rfl⟩
  · have hp80 := g1.2.2.2.2.1
    have h36 : hR hc 3 6 = some pg := g1.2.2.2.1
    have h494 := g1.2.2.2.2.2.2.2
    have hbk : ∀ l o, l < 40 → hR hc 48 l = some o → 80 ≤ o ∧ hK hc o = 0 := fun l o hl ho => by
      rcases g2 l hl with ⟨z, -⟩ | ⟨o', z1, z2, -, z4, -⟩
      · rw [z] at ho; cases ho
      · rw [z1] at ho; injection ho with ho; subst ho; exact ⟨z2, z4⟩
    have hP0 : aP x.r 0 = 0 := g1.1.2.2.2.1.2.2.1
    have hb0 : 0 < x.bd 0 := Nat.pos_of_ne_zero (fun e => by
      have := (g1.1.2.2.2.2.1 0 (by decide)).2.mpr e
      rw [hP0] at this
      exact absurd this (by decide))
    have hbd := (g1.1.2.2.2.2.1 0 (by decide)).1
    -- the class up to the run
    generalize hAe : sI hc 46 1 0 = hA
    generalize hBe : rsB 40 0 hA = hB
    generalize hFe : sR (fgH 12 hB) 12 3 (some pg) = hF
    generalize hEe : entH 12 0 0 0 0 (pg + 1) (aS x.r 0) hF = hE
    have cA : GC hc hA := by subst hAe; exact gc_sI (Or.inl (by omega))
    have hbA : ∀ l o, l < 40 → hR hA 48 l = some o → 80 ≤ o ∧ hK hA o = 0 := by subst hAe; exact hbk
    have cB : GC hc hB := by subst hBe; exact gc_tr cA (gc_rs hbA)
    have cF : GC hc hF := by subst hFe; exact gc_tr cB (gc_tr gc_fg gc_123)
    have uE : UC 12 0 0 hF hE := by subst hEe; exact uc_ent
    have cE : GC hc hE := gc_tr cF (gc_ud (code := 0) (ud_uc uE))
    have pF := gc_pro cF hp80 g1.2.2.2.2.2.2.1
    have mF : MI 12 hF := cF.2.2.2.2.2.1 a2
    have f3 : hR hF 12 3 = some pg := by subst hFe; rw [hR_sR, if_pos ⟨rfl, rfl⟩]
    have fI : ∀ o k, ¬ o = 12 → ¬ o = 27 → hI hF o k = hI hB o k := fun o k q1 q2 => by
      subst hFe
      unfold fgH
      rw [hI_sR, hI_ne (by omega), hI_ne (by omega), hI_ne (by omega), hI_ne (by omega), hI_ne (by omega), hI_ne (by omega)]
    have fz : hI hF 12 5 = 0 ∧ hI hF 12 6 = 0 ∧ hI hF 12 7 = 0 ∧ hI hF 12 8 = 0 ∧ hI hF 27 1 = 0 := by
      subst hFe
      unfold fgH
      refine ⟨?_, ?_, ?_, ?_, ?_⟩
      · rw [hI_sR, hI_ne (by decide), hI_ne (by decide), hI_ne (by decide), hI_ne (by decide), hI_is]
      · rw [hI_sR, hI_ne (by decide), hI_ne (by decide), hI_ne (by decide), hI_is]
      · rw [hI_sR, hI_ne (by decide), hI_ne (by decide), hI_is]
      · rw [hI_sR, hI_ne (by decide), hI_is]
      · rw [hI_sR, hI_is]
    have bI' : ∀ o k, o < 80 → hI hB o k = hI hA o k := fun o k ho => by subst hBe; exact rs_I 40 0 hA hbA (by decide) (by omega)
    have aI' : ∀ o k, ¬ (o = 46 ∧ k = 1) → hI hA o k = hI hc o k := fun o k ho => by subst hAe; exact hI_ne ho
    have r15 : Rn xs L (d + 58) 15 [.inr (some 12), .inl (nI 0)] hF (none, hE) := by
      have := r_enter (xs := xs) (L := L) (d := d + 56) (t := 0) (f := 0) (k := 0) (n := 0) mF f3 pF.1 fz.2.1 (by decide) fz.2.2.1 (by decide) (by decide) ((pF.2.2.2.2.2.2 0 (by decide)).trans hP0) (by decide) (by decide) ⟨by omega, by omega⟩ ⟨by omega, by omega, by omega⟩ (by omega)
      rw [pF.2.2.2.2.2.1 0 (by decide), hEe] at this
      exact this
    -- the model up to the run
    generalize hme : enM 0 0 0 (x.bd 0) 0 0 (msH hm) = hmE
    have gA : GM hm (msH hm) := gm_ms
    have oA : MO (msH hm) := gm_mo gA a8
    have r91 : Rn xs L (d + 59) 91 [.inr (some 49), .inl 0, .inl 0, .inl 0] (msH hm) (none, hmE) := by
      rw [← hme]
      exact m_enter (d := d + 57) (m := 0) (q := 0) oA (by decide) hI_is (by decide) (by decide) ((gm_no gA (by unfold OwG; omega)).trans (g1.2.2.1.2.2.1 0 (by decide))) (by omega) ((gm_no gA (by unfold OwG; omega)).trans ((g1.2.2.1.2.2.2.1 0 (by decide) hb0).trans hP0)) (by decide) (by decide)
    -- the run
    have hPU : PU (mkG x pg 0 a0 0) := pu_0 g1
    have e9 : ESt (mkG x pg 0 a0 0) 0 (sI hF 12 9 0) (msH hm) := by
      refine ⟨?_, fun _ => ⟨?_, fun k hk => ?_, fun e => absurd (show (0 : Nat) = 1 from e) (by decide)⟩, ?_⟩
      · show hI (sI hF 12 9 0) 27 1 = nI 0
        rw [hI_ne (by decide)]; exact fz.2.2.2.2
      · unfold msH
        rw [hI_ne (by decide), hI_sA, if_neg (by decide), hI_ne (by decide), hI_ne (by decide), hI_is]; rfl
      · show hI (sI hF 12 9 0) 28 k = _
        rw [hI_ne (by omega), fI 28 k (by decide) (by decide), bI' 28 k (by decide), aI' 28 k (by omega), o4 k hk, ms_I (by omega) (by omega) (by omega)]
      · rw [ms_I (by omega) (by omega) (by omega)]; exact s29
    have sc9 : SCh (mkG x pg 0 a0 0) (sI hF 12 9 0) := by
      have c9 : GC hc (sI hF 12 9 0) := gc_tr cF (gc_sI (Or.inl (by omega)))
      exact sch_0 (c9.2.2.2.2.2.1 a2) f3 (gc_pro c9 hp80 g1.2.2.2.2.2.2.1)
    obtain ⟨D, -, uM⟩ := s_start (xs := xs) (L := L) (d := d + 40) hPU rfl sc9 (smh_mk (x := x) g1.1 oA (hpd_fr g1.2.2.1 (gm_eqt gA))) e9 (by decide) (by show arC x.r 0 = 0; unfold arC; rw [if_pos (by decide)]; exact hP0)
    have D : DNE xs L (d + 40) (mkG x pg 0 a0 0) 0 (sI hE 12 9 0) hmE 18000 := by
      rw [← hEe, ent_9, ← hme]
      exact D
    have uM : UM 0 0 (msH hm) hmE := by rw [← hme]; exact uM
    have oE : MO hmE := gm_mo (gm_um uM) oA
    obtain ⟨hc2, hm2, code, u2, r1, r2, r3, r4, r5, r6, r7, r8⟩ := d_run (g := mkG x pg 0 a0 0) (cE.2.2.2.2.2.1 a2) D
    have r3 : UD 12 code hE hc2 := r3
    have r4 : UM 0 0 hmE hm2 := r4
    have c2 : GC hc hc2 := gc_tr cE (gc_ud r3)
    have gm2 : GM hm hm2 := gm_tr gA (gm_tr (gm_um uM) (gm_um r4))
    have o2' : MO hm2 := gm_mo gm2 a8
    have P2 : PRG x pg hc2 hm2 := gc_prg c2 g1 (gm_eqt gm2)
    have lowI : ∀ o k, 29 ≤ o → hI hc2 o k = hI hB o k := fun o k ho => by
      rw [(r3.2.2.2.2 o k).resolve_right (fun z => by rcases z with z | z; · have := owc_in z; omega
                                                      · omega), (uE.2.2.2.2 o k).resolve_right (fun z => by have := owc_in z; omega), fI o k (by omega) (by omega)]
    have i8 : hI hc2 12 8 = 0 := by
      rw [(r3.2.2.2.2 12 8).resolve_right (by unfold OwC; omega), (uE.2.2.2.2 12 8).resolve_right (by unfold OwC; omega)]; exact fz.2.2.2.1
    have i5 : code = 1 → hI hc2 12 5 = 0 := fun e => by
      rw [(r3.2.2.2.2 12 5).resolve_right (fun z => by
        rcases z with z | z
        · unfold OwC at z; omega
        · exact z.2.2 e), (uE.2.2.2.2 12 5).resolve_right (by unfold OwC; omega)]; exact fz.1
    obtain ⟨q1, q2, q3⟩ := cm_run P2 o2' r8 i5
    have gm3 : GM hm (cmH code hm2) := gm_tr gm2 gm_cm
    obtain ⟨es1, es2, es3⟩ := r7
    obtain ⟨es4, es5, -⟩ := es2 rfl
    have mI : ∀ o k, ¬ OwM 0 0 o k → ¬ (o = 49 ∧ (k = 30 ∨ k = 31)) → hI (cmH code hm2) o k = hI (msH hm) o k := fun o k w1 w2 => by
      rw [cm_I w2 (fun z => w1 (by unfold OwM; omega)), um_o r4 w1, um_o uM w1]
    obtain ⟨v1, v2, v3⟩ := g_inv hv g1 g2 g3 c2 gm3 (fun l hl o ho => by
      have z0 : hI hc2 o 3 = 0 := by
        rw [lowI o 3 (by have := hbk l o hl ho; omega)]
        subst hBe
        exact rs_0 40 0 hA (Or.inr ⟨l, by omega, by omega, by subst hAe; exact ho⟩)
      refine ⟨?_, 0, Nat.zero_le _, z0⟩
      rw [z0, mI 77 l (by unfold OwM; omega) (by omega)]
      unfold msH
      rw [hI_ne (by omega), hI_sA, if_pos rfl, if_pos hl]) ⟨0, Nat.zero_le _, by
        rw [lowI 46 1 (by decide), bI' 46 1 (by decide)]
        subst hAe
        exact hI_is, by
        rw [mI 49 42 (by unfold OwM; omega) (by omega)]
        unfold msH
        rw [hI_ne (by decide), hI_sA, if_neg (by decide), hI_ne (by decide), hI_is]
        rfl, fun k hk => by
        rw [lowI 47 k (by decide), bI' 47 k (by decide), aI' 47 k (by omega), mI 79 k (by unfold OwM; omega) (by omega), ms_I (by omega) (by omega) (by omega)]
        exact n4 k hk⟩ ⟨u2, by omega, es1, by rw [cm_I (by omega) (by omega)]; exact es4, fun k hk => by rw [cm_I (by omega) (by omega)]; exact es5 k hk⟩ ⟨q2, q3, by
        rw [i8, mI 49 32 (by unfold OwM; omega) (by omega)]
        unfold msH
        rw [hI_ne (by decide), hI_sA, if_neg (by decide), hI_is], by rw [cm_I (by omega) (by omega)]; exact es3⟩ q1
    have k3 : DK hc2 := gc_dk c2 a1
    have dB : DK hB := gc_dk cB a1
    have rc := d_start (xs := xs) (L := L) (d := d + 58) (h1 := hB) (h2 := hc2) a1 h36 (fun k o q1 q2 => (hbk k o q1 q2).2) (by rw [← hBe, ← hAe]) dB.1 dB.2.2.2.1 ((cB.2.2.2.1 3 6 (by omega)).trans h36) (cB.2.2.2.2.2.1 a2).1 (r_begin (d := d + 56) (cB.2.2.2.2.2.1 a2) (by rw [hFe]; exact r15) (cE.2.2.2.2.2.1 a2).1 (rn_le (by omega) r1)) k3.1 k3.2.2.2.1 (c2.2.2.2.2.2.1 a2).1
    have rm := m_start (xs := xs) (L := L) (d := d + 59) a8 (by rw [h494]; decide) r91 oE (rn_le (by omega) r2) o2' (m_cm (d := d + 58) o2') (gm_mo gm3 a8)
    rw [q2] at rm
    exact ⟨_, _, _, rc, rm, v1, v2, v3⟩
end CT1

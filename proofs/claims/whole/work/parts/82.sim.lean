-- THE RUN: the translated program and the model side by side
abbrev CTX := (Nat → Nat → Int32) × (Nat → Nat)
def CTX.ar (g : CTX) : Nat → Int32 := g.1 0
def CTX.T (g : CTX) : Nat → Int32 := g.1 1
def CTX.I (g : CTX) : Nat → Int32 := g.1 2
def CTX.H (g : CTX) : Nat → Int32 := g.1 3
def CTX.K (g : CTX) : Nat → Int32 := g.1 4
def CTX.W (g : CTX) : Nat → Int32 := g.1 5
def CTX.Z (g : CTX) : Nat → Int32 := g.1 6
def CTX.V (g : CTX) : Nat → Int32 := g.1 7
def CTX.S (g : CTX) : Nat → Int32 := g.1 8
def CTX.IA (g : CTX) : Nat → Int32 := g.1 9
def CTX.TA (g : CTX) : Nat → Int32 := g.1 10
def CTX.n (g : CTX) : Nat := g.2 0
def CTX.z (g : CTX) : Nat := g.2 1
def CTX.u (g : CTX) : Nat := g.2 2
def CTX.m (g : CTX) : Nat := g.2 3
def CTX.pg (g : CTX) : Nat := g.2 4
def CTX.c (g : CTX) : Nat := g.2 5
def CTX.ia (g : CTX) : Nat := g.2 6
def CTX.ha (g : CTX) : Nat := g.2 7
def CTX.st (g : CTX) : Nat := g.2 8
def CTX.pa (g : CTX) : Nat := g.2 9
def CTX.cA (g : CTX) : Nat := g.2 10
def CTX.iA (g : CTX) : Nat := g.2 11
def CTX.hA (g : CTX) : Nat := g.2 12
def CTX.zA (g : CTX) : Nat := g.2 13
def CTX.bA (g : CTX) : Nat := g.2 14
def CTX.nA (g : CTX) : Nat := g.2 15
def CTX.tf (g : CTX) : Nat := g.2 20
def CTX.bd (g : CTX) (f : Nat) : Nat := g.2 (16 + f)
/-- of an aside's lowest frame, or of the program -/
def gT (g : CTX) (a : Bool) : Nat → Int32 := if a then g.TA else g.T
def gI (g : CTX) (a : Bool) : Nat → Int32 := if a then g.IA else g.I
def gc (g : CTX) (a : Bool) : Nat := if a then g.cA else g.c
def gi (g : CTX) (a : Bool) : Nat := if a then g.iA else g.ia
def gh (g : CTX) (a : Bool) : Nat := if a then g.hA else g.ha
def gz (g : CTX) (a : Bool) : Nat := if a then g.zA else g.z
def gb (g : CTX) (a : Bool) : Nat := if a then g.bA else 0
def gn (g : CTX) (a : Bool) : Nat := if a then g.nA else g.n
def fl (g : CTX) (q : Nat) : Bool := decide (g.m = 1 ∧ q = 0)
def gFR (g : CTX) : Nat → Nat → Int32 → Int32 → Prop := FR g.ar g.T g.n g.z g.I g.H g.K g.W g.Z g.V
/-- what doesn't change while it runs -/
def PU (g : CTX) : Prop := ((g.u = 12 ∧ g.m = 0) ∨ (g.u = 29 ∧ g.m = 1)) ∧ TX g.T g.n ∧ (g.m = 1 → TX g.TA g.nA) ∧ g.z ≤ 151 ∧ g.zA ≤ 151 ∧ Ars g.ar ∧ (∀ f, f < 4 → ¬ g.ar f = -1 → 0 < g.bd f ∧ g.bd f < 152 ∧ ∃ i, g.S f = nI i ∧ gFR g (g.bd f + 1) i (-1) (-1) ∧ (g.T (g.bd f + 1) = 125 → g.V (g.bd f + 1) = nI (g.bd f) ∧ g.K (g.bd f) = 0 ∧ g.I i = iw 1 0 ∧ g.I (i + 1) = iw 0 0 ∧ i + 1 < g.z)) ∧ g.bA + 152 ≤ 6384 ∧ (80 ≤ g.pg ∧ 80 ≤ g.c ∧ 80 ≤ g.ia ∧ 80 ≤ g.ha ∧ 80 ≤ g.st ∧ 80 ≤ g.pa) ∧ (g.m = 1 → 80 ≤ g.cA ∧ 80 ≤ g.iA ∧ 80 ≤ g.hA)
def SCh (g : CTX) (h : Hp) : Prop := MI g.u h ∧ hR h g.u 3 = some g.pg ∧ PG g.pg g.c g.st g.pa h ∧ (∀ a : Bool, (a = true → g.m = 1) → CO (gc g a) (gi g a) (gh g a) (gz g a) h ∧ ∀ k, k < gz g a → hI h (gi g a) k = gI g a k) ∧ (∀ k, k < g.z → hI h g.ha k = g.H k) ∧ (g.m = 1 → ∀ k, k < g.zA → hI h g.hA k = -1) ∧ (∀ f, f < 4 → hI h g.st f = g.S f) ∧ ∀ f, f < 4 → hI h g.pa f = g.ar f
def SMh (g : CTX) (h : Hp) : Prop := MO h ∧ (∀ a : Bool, (a = true → g.m = 1) → ∀ j, j < 152 → hI h 51 (gb g a + j) = gT g a j) ∧ (∀ f, f < 4 → ¬ g.ar f = -1 → hI h 56 f = nI (g.bd f) ∧ hI h 57 f = g.ar f) ∧ (∀ k, hI h 53 k = g.K k) ∧ (∀ k, hI h 54 k = g.W k) ∧ (∀ k, hI h 55 k = g.Z k) ∧ ∀ k, hI h 52 k = g.V k
def off : List LV → Nat
  | [] => 0
  | lv :: st => off st + lv.2.1 + (if lv.2.2 = 0 then 0 else 1)
def WL (ar : Nat → Int32) : List LV → Prop
  | [] => False
  | lv :: st => (lv.2.2 = 0 ∨ isOp lv.2.2 = true) ∧ ((st = [] ∧ lv.1 = 0 ∧ lv.2.1 = 0) ∨ (((lv.1 = 1 ∧ lv.2.1 = 0) ∨ ∃ f k, f < 4 ∧ lv.1 = 2 + f ∧ ar f = nI k ∧ k ≤ 3 ∧ lv.2.1 < k) ∧ WL ar st))
def LR (μ t b : Nat) (hc hm : Hp) : List LV → Prop
  | [] => True
  | lv :: st => hI hm 70 (6 * t + st.length) = nI lv.1 ∧ hI hm 71 (6 * t + st.length) = nI lv.2.1 ∧ hI hm 69 (6 * t + st.length) = lv.2.2 ∧ (∀ a, a < lv.2.1 → hI hc (μ + 14) (b + off st + a) = hI hm 72 (3 * (6 * t + st.length) + a)) ∧ (¬ lv.2.2 = 0 → hI hc (μ + 14) (b + off st + lv.2.1) = hI hm 68 (6 * t + st.length)) ∧ LR μ t b hc hm st
/-- the expression of the statement at pl ends at e, ie in the instructions -/
def ED (g : CTX) (pl e ie : Nat) (hd oh : Int32) : Prop := (((97 ≤ g.T pl ∧ g.T pl ≤ 102 ∧ g.T (pl + 1) = 61) ∨ g.T pl = 33 ∨ g.T pl = 94 ∨ g.T pl = 35) ∧ g.T e = 59 ∧ e < g.n ∧ g.I ie = endI (g.T pl) ∧ gFR g (e + 1) (ie + 1) hd oh) ∨ ((g.T pl = 63 ∨ g.T pl = 64) ∧ g.T e = 123 ∧ ∃ j c, g.I ie = iw 9 (nI j) ∧ g.V e = nI c ∧ e < c ∧ c < g.n ∧ gFR g (e + 1) (ie + 1) hd oh ∧ gFR g (c + 1) j hd oh)
def AF (g : CTX) (hc hm : Hp) (q i e ie : Nat) : Prop := (fl g q = true ∧ g.IA ie = iw 0 0 ∧ ie < g.zA ∧ g.TA e = 59) ∨ (fl g q = false ∧ ∃ pl hd oh, hI hm 65 (6 * g.m + q) = nI pl ∧ pl < g.n ∧ hI hc (g.u + (2 + 2 * q)) 5 = g.Z pl ∧ trF g.T g.K g.V pl pl = oh ∧ Hr g.H i (ie + 1) hd ∧ ie < g.z ∧ ED g pl e ie hd oh)
def FV (g : CTX) (hc hm : Hp) (q : Nat) : Prop := hR hc (g.u + (2 + 2 * q)) 1 = some (gc g (fl g q)) ∧ (∀ v, v < 6 → hI hc (g.u + (3 + 2 * q)) v = hI hm 66 (6 * (6 * g.m + q) + v)) ∧ (fl g q = false → hI hc (g.u + (2 + 2 * q)) 4 = hI hm 63 (6 * g.m + q))
def XF (g : CTX) (hc hm : Hp) (q b : Nat) (w : Bool) (p : Nat) (lv : LV) (st : List LV) (e : Nat) (J : List Int32) (i : Nat) : Prop := sm g.ar (gT g (fl g q)) p w lv st = some (e, J) ∧ At (gI g (fl g q)) i J ∧ p ≤ gn g (fl g q) ∧ st.length ≤ 5 ∧ WL g.ar (lv :: st) ∧ LR g.u (6 * g.m + q) b hc hm (lv :: st) ∧ hI hm 64 (6 * g.m + q) = nI (gb g (fl g q) + p) ∧ hI hm 67 (6 * g.m + q) = nI st.length ∧ hI hc (g.u + (2 + 2 * q)) 2 = nI i ∧ (fl g q = false → hI hc (g.u + (2 + 2 * q)) 3 = nI b)
/-- the frames below q wait for what is called; frame q's values begin at b; M: how much text is left -/
def LOW (g : CTX) (hc hm : Hp) : Nat → Nat → Nat → Prop
  | 0, b, M => b = 0 ∧ M = 0
  | q + 1, b, M => ∃ bq lv st p e J i M', LOW g hc hm q bq M' ∧ FV g hc hm q ∧ XF g hc hm q bq false p lv st e J (i + 1) ∧ AF g hc hm q i e (i + 1 + J.length) ∧ b = bq + off (lv :: st) ∧ M = M' + (353 - p)
/-- what a run may change above frame q, values from b on -/
def OwC (μ q b o k : Nat) : Prop := (o = μ ∧ ¬ k = 5 ∧ ¬ k = 8) ∨ o = μ + 15 ∨ o = μ + 16 ∨ (∃ j, q ≤ j ∧ j < 6 ∧ (o = μ + (2 + 2 * j) ∨ o = μ + (3 + 2 * j))) ∨ (o = μ + 14 ∧ b ≤ k)
def UC (μ q b : Nat) (h g : Hp) : Prop := hN g = hN h ∧ hU g = hU h ∧ (∀ o, hK g o = hK h o ∧ hL g o = hL h o) ∧ (∀ o k, hR g o k = hR h o k ∨ (k = 1 ∧ ∃ j, q ≤ j ∧ j < 6 ∧ o = μ + (2 + 2 * j))) ∧ ∀ o k, hI g o k = hI h o k ∨ OwC μ q b o k
def OwM (m q o k : Nat) : Prop := (o = 49 ∧ (k = 27 ∨ k = 28 ∨ (m = 0 ∧ (k = 29 ∨ k = 40)))) ∨ (o = 62 ∧ k = m) ∨ (m = 0 ∧ o = 78) ∨ ((o = 63 ∨ o = 64 ∨ o = 65 ∨ o = 67) ∧ 6 * m + q ≤ k) ∨ ((o = 66 ∨ o = 68 ∨ o = 69 ∨ o = 70 ∨ o = 71) ∧ 6 * (6 * m + q) ≤ k) ∨ (o = 72 ∧ 18 * (6 * m + q) ≤ k)
def UM (m q : Nat) (h g : Hp) : Prop := hN g = hN h ∧ hU g = hU h ∧ (∀ o, hK g o = hK h o ∧ hL g o = hL h o) ∧ (∀ o k, hR g o k = hR h o k) ∧ ∀ o k, hI g o k = hI h o k ∨ OwM m q o k
/-- what a whole run may change: the result alone if it ends -/
def UD (μ : Nat) (code : Int32) (h g : Hp) : Prop := hN g = hN h ∧ hU g = hU h ∧ (∀ o, hK g o = hK h o ∧ hL g o = hL h o) ∧ (∀ o k, hR g o k = hR h o k ∨ (k = 1 ∧ ∃ j, 0 ≤ j ∧ j < 6 ∧ o = μ + (2 + 2 * j))) ∧ ∀ o k, hI g o k = hI h o k ∨ OwC μ 0 0 o k ∨ (o = μ ∧ k = 5 ∧ ¬ code = 1)
section RC
variable {g : CTX} {hc hm hc2 hm2 hc3 hm3 : Hp} {q b M : Nat}
theorem uc_rfl {μ : Nat} : UC μ q b hc hc := ⟨rfl, rfl, fun _ => ⟨rfl, rfl⟩, fun _ _ => Or.inl rfl, fun _ _ => Or.inl rfl⟩
theorem um_rfl {m : Nat} : UM m q hm hm := ⟨rfl, rfl, fun _ => ⟨rfl, rfl⟩, fun _ _ => rfl, fun _ _ => Or.inl rfl⟩
theorem uc_sI {μ o k : Nat} {v : Int32} (h : UC μ q b hc hc2) (ho : OwC μ q b o k) : UC μ q b hc (sI hc2 o k v) := by
  refine ⟨h.1, h.2.1, h.2.2.1, h.2.2.2.1, fun a c => ?_⟩
  rw [hI_sI]
  by_cases e : a = o ∧ c = k
  · rw [e.1, e.2]; exact Or.inr ho
  · rw [if_neg e]; exact h.2.2.2.2 a c
theorem um_sI {m o k : Nat} {v : Int32} (h : UM m q hm hm2) (ho : OwM m q o k) : UM m q hm (sI hm2 o k v) := by
  refine ⟨h.1, h.2.1, h.2.2.1, h.2.2.2.1, fun a c => ?_⟩
  rw [hI_sI]
  by_cases e : a = o ∧ c = k
  · rw [e.1, e.2]; exact Or.inr ho
  · rw [if_neg e]; exact h.2.2.2.2 a c
theorem owc_le {μ q2 b2 o k : Nat} (h : OwC μ q b o k) (hq : q2 ≤ q) (hb : b2 ≤ b) : OwC μ q2 b2 o k := by
  rcases h with h | h | h | ⟨j, h1, h2, h3⟩ | h
  · exact Or.inl h
  · exact Or.inr (Or.inl h)
  · exact Or.inr (Or.inr (Or.inl h))
  · exact Or.inr (Or.inr (Or.inr (Or.inl ⟨j, by omega, h2, h3⟩)))
  · exact Or.inr (Or.inr (Or.inr (Or.inr ⟨h.1, by omega⟩)))
theorem owm_le {m q2 o k : Nat} (h : OwM m q o k) (hq : q2 ≤ q) : OwM m q2 o k := by
  unfold OwM at h ⊢
  omega
theorem uc_trans {μ q2 b2 : Nat} (h1 : UC μ q2 b2 hc hc2) (h2 : UC μ q b hc2 hc3) (hq : q2 ≤ q) (hb : b2 ≤ b) : UC μ q2 b2 hc hc3 := by
  refine ⟨h2.1.trans h1.1, h2.2.1.trans h1.2.1, fun o => ⟨(h2.2.2.1 o).1.trans (h1.2.2.1 o).1, (h2.2.2.1 o).2.trans (h1.2.2.1 o).2⟩, fun o k => ?_, fun o k => ?_⟩
  · rcases h2.2.2.2.1 o k with e | ⟨e, j, e1, e2, e3⟩
    · rw [e]; exact h1.2.2.2.1 o k
    · exact Or.inr ⟨e, j, by omega, e2, e3⟩
  · rcases h2.2.2.2.2 o k with e | e
    · rw [e]; exact h1.2.2.2.2 o k
    · exact Or.inr (owc_le e hq hb)
theorem um_trans {m q2 : Nat} (h1 : UM m q2 hm hm2) (h2 : UM m q hm2 hm3) (hq : q2 ≤ q) : UM m q2 hm hm3 := by
  refine ⟨h2.1.trans h1.1, h2.2.1.trans h1.2.1, fun o => ⟨(h2.2.2.1 o).1.trans (h1.2.2.1 o).1, (h2.2.2.1 o).2.trans (h1.2.2.1 o).2⟩, fun o k => (h2.2.2.2.1 o k).trans (h1.2.2.2.1 o k), fun o k => ?_⟩
  rcases h2.2.2.2.2 o k with e | e
  · rw [e]; exact h1.2.2.2.2 o k
  · exact Or.inr (owm_le e hq)
theorem ud_uc {μ : Nat} {code : Int32} (h : UC μ 0 0 hc hc2) : UD μ code hc hc2 := ⟨h.1, h.2.1, h.2.2.1, h.2.2.2.1, fun o k => (h.2.2.2.2 o k).imp id Or.inl⟩
theorem ud_tr {μ : Nat} {code : Int32} (h1 : UC μ 0 0 hc hc2) (h2 : UD μ code hc2 hc3) : UD μ code hc hc3 := by
  refine ⟨h2.1.trans h1.1, h2.2.1.trans h1.2.1, fun o => ⟨(h2.2.2.1 o).1.trans (h1.2.2.1 o).1, (h2.2.2.1 o).2.trans (h1.2.2.1 o).2⟩, fun o k => ?_, fun o k => ?_⟩
  · rcases h2.2.2.2.1 o k with e | e
    · rw [e]; exact h1.2.2.2.1 o k
    · exact Or.inr e
  · rcases h2.2.2.2.2 o k with e | e
    · rw [e]; exact (h1.2.2.2.2 o k).imp id Or.inl
    · exact Or.inr e
theorem ud_sI {μ o k : Nat} {v code : Int32} (h : UD μ code hc hc2) (ho : OwC μ 0 0 o k ∨ (o = μ ∧ k = 5 ∧ ¬ code = 1)) : UD μ code hc (sI hc2 o k v) := by
  refine ⟨h.1, h.2.1, h.2.2.1, h.2.2.2.1, fun a c => ?_⟩
  rw [hI_sI]
  by_cases e : a = o ∧ c = k
  · rw [e.1, e.2]; exact Or.inr ho
  · rw [if_neg e]; exact h.2.2.2.2 a c
theorem lr_congr {μ t b : Nat} : ∀ st : List LV, (∀ k, k < b + off st → hI hc2 (μ + 14) k = hI hc (μ + 14) k) → (∀ o k, (o = 69 ∨ o = 70 ∨ o = 71 ∨ o = 68) → k < 6 * t + st.length → hI hm2 o k = hI hm o k) → (∀ k, k < 3 * (6 * t + st.length) → hI hm2 72 k = hI hm 72 k) → (∀ lv, lv ∈ st → lv.2.1 ≤ 3) → LR μ t b hc hm st → LR μ t b hc2 hm2 st := by
  intro st
  induction st with
  | nil => exact fun _ _ _ _ _ => trivial
  | cons lv st ih =>
    intro h1 h2 h3 h4 h
    obtain ⟨a1, a2, a3, a4, a5, a6⟩ := h
    have hl : (lv :: st).length = st.length + 1 := rfl
    have ho : off (lv :: st) = off st + lv.2.1 + (if lv.2.2 = 0 then 0 else 1) := rfl
    have h3l := h4 lv List.mem_cons_self
    refine ⟨?_, ?_, ?_, fun a ha => ?_, fun hne => ?_, ih (fun k hk => h1 k (by omega)) (fun o k ho hk => h2 o k ho (by omega)) (fun k hk => h3 k (by omega)) (fun x hx => h4 x (List.mem_cons_of_mem _ hx)) a6⟩
    · rw [h2 70 _ (by omega) (by omega)]; exact a1
    · rw [h2 71 _ (by omega) (by omega)]; exact a2
    · rw [h2 69 _ (by omega) (by omega)]; exact a3
    · rw [h1 _ (by omega), h3 _ (by omega)]; exact a4 a ha
    · rw [if_neg hne] at ho
      rw [h1 _ (by omega), h2 68 _ (by omega) (by omega)]; exact a5 hne
theorem wl_seen {ar : Nat → Int32} : ∀ st : List LV, WL ar st → ∀ lv, lv ∈ st → lv.2.1 ≤ 2 := by
  intro st
  induction st with
  | nil => exact fun _ lv h => by cases h
  | cons l st ih =>
    intro h lv hlv
    rcases h.2 with ⟨e, h1, h2⟩ | ⟨h1, h2⟩
    · subst e
      have : lv = l := by simpa using hlv
      subst this; omega
    · rcases List.mem_cons.mp hlv with e | e
      · subst e
        rcases h1 with h1 | ⟨f, k, h3, h4, h5, h6, h7⟩ <;> omega
      · exact ih h2 lv e
theorem off_le {ar : Nat → Int32} : ∀ st : List LV, WL ar st → off st + 2 ≤ 3 * st.length := by
  intro st
  induction st with
  | nil => exact fun h => h.elim
  | cons l st ih =>
    intro h
    have hs := wl_seen _ h l List.mem_cons_self
    have ho : off (l :: st) = off st + l.2.1 + (if l.2.2 = 0 then 0 else 1) := rfl
    have hi : (if l.2.2 = 0 then 0 else 1) ≤ 1 := by split <;> omega
    rw [List.length_cons]
    rcases h.2 with ⟨e, h1, h2⟩ | ⟨h1, h2⟩
    · subst e
      have : off [] = 0 := rfl
      rw [List.length_nil]
      omega
    · have := ih h2
      omega
end RC

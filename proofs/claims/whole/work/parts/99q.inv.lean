-- THE DESK AND THE MODEL side by side: what holds between two calls
def Sm1 (h h2 : Hp) (o : Nat) : Prop := hK h2 o = hK h o ∧ hL h2 o = hL h o ∧ (∀ k, hR h2 o k = hR h o k) ∧ ∀ k, hI h2 o k = hI h o k
def AgC (h h2 : Hp) : Prop := hN h2 = hN h ∧ hU h2 = hU h ∧ ∀ o, (o < 49 ∨ 80 ≤ o) → Sm1 h h2 o
def AgM (h h2 : Hp) : Prop := ∀ o, 49 ≤ o → o < 80 → Sm1 h h2 o
/-- the text that is being written -/
def TXT (hc hm : Hp) : Prop := ∃ n, n ≤ 150 ∧ hI hc 4 1 = nI n ∧ hI hm 49 0 = nI n ∧ ∀ j, j < n → hI hm 50 j = hI hc 5 j ∧ 32 ≤ hI hc 5 j ∧ hI hc 5 j ≤ 126
def NTS (B : Nat) (hc hm : Hp) : Prop := ∃ m, m ≤ B ∧ hI hc 46 1 = nI m ∧ hI hm 49 42 = nI m ∧ ∀ k, k < 16 → hI hc 47 k = hI hm 79 k
def OUT (B : Nat) (hc hm : Hp) : Prop := ∃ u, u ≤ B ∧ hI hc 27 1 = nI u ∧ hI hm 49 40 = nI u ∧ ∀ k, k < 16 → hI hc 28 k = hI hm 78 k
/-- an expression's Code c, and the model's row of it -/
def ASD (ar : Nat → Int32) (row c : Nat) (hc hm : Hp) : Prop := ∃ (TA IA : Nat → Int32) (n z : Nat) (J : List Int32), (∀ j, j < 152 → hI hm 51 (152 * row + j) = TA j) ∧ TX TA n ∧ z ≤ 151 ∧ CO c (c + 1) (c + 2) z hc ∧ (∀ k, k < z → hI hc (c + 1) k = IA k) ∧ (∀ k, k < z → hI hc (c + 2) k = -1) ∧ sm ar TA 0 true (0, 0, 0) [] = some (n, J) ∧ At IA 0 J ∧ IA J.length = iw 0 0 ∧ J.length < z
/-- the condition of a Break o at line l -/
def BCN (ar : Nat → Int32) (l o : Nat) (hc hm : Hp) : Prop := (hR hc o 0 = none ∧ hI hm 74 l = 0) ∨ ∃ c, hR hc o 0 = some c ∧ 80 ≤ c ∧ c + 2 < hN hc ∧ hI hm 74 l = 1 ∧ ASD ar (1 + l) c hc hm
def BRK (ar : Nat → Int32) (B l : Nat) (hc hm : Hp) : Prop := (hR hc 48 l = none ∧ hI hm 73 l = 0) ∨ ∃ o, hR hc 48 l = some o ∧ 80 ≤ o ∧ o < hN hc ∧ hK hc o = 0 ∧ hI hm 73 l = 1 ∧ hI hc o 1 = hI hm 76 l ∧ hI hc o 2 = hI hm 75 l ∧ hI hc o 3 = hI hm 77 l ∧ (∃ c, c ≤ B ∧ hI hc o 3 = nI c) ∧ BCN ar l o hc hm
def DST (hc : Hp) : Prop := ∀ l l2 o, l < 40 → l2 < 40 → hR hc 48 l = some o → hR hc 48 l2 = some o → l = l2
/-- the tables come from reading x's text -/
def RDx (x : PDt) : Prop := ∃ (ay0 Q0 ay : Nat → Int32) (τ0 u : TB), hds x.T x.n 0 (fun _ => 0) ay0 Q0 = some (x.bd, ay, x.V) ∧ pgm (arC x.r) x.T x.n 4 0 τ0 = some u ∧ τ0.2.2.2 = 0 ∧ (∀ j, j < 152 → τ0.2.2.1 j = -1) ∧ u.1 = x.K ∧ u.2.1 = x.W ∧ u.2.2.1 = x.Z
def PRG (x : PDt) (pg : Nat) (hc hm : Hp) : Prop := PDok x ∧ RDx x ∧ HPD hm x ∧ hR hc 3 6 = some pg ∧ 80 ≤ pg ∧ pg + 5 < hN hc ∧ PRO hc pg x.r.2.1 x.r.2.2.1 (aI x.r) (aH x.r) (aS x.r) (aP x.r) ∧ hI hm 49 4 = 1
def a0 : ADt := (fun _ => 0, fun _ => 0, 80, 0, 0, 0)
def RUN (x : PDt) (pg : Nat) (hc hm : Hp) : Prop := (hI hc 12 4 = 1 ∧ hI hc 12 5 = 0 ∧ WAI (mkG x pg 0 a0 0) hc hm) ∨ ((hI hc 12 4 = 0 ∨ hI hc 12 4 = 2 ∨ hI hc 12 4 = 3) ∧ hI hc 12 6 = 0)
def LDD (B : Nat) (hc hm : Hp) : Prop := ∃ x pg, PRG x pg hc hm ∧ (∀ l, l < 40 → BRK (arC x.r) B l hc hm) ∧ DST hc ∧ RUN x pg hc hm
def NOP (hc hm : Hp) : Prop := hR hc 3 6 = none ∧ hI hm 49 4 = 0 ∧ hI hc 12 4 = 0 ∧ hI hc 12 6 = 0 ∧ ∀ l, l < 40 → hR hc 48 l = none
/-- the desk's objects -/
def BAS (i : Nat) (hc hm : Hp) : Prop := DK hc ∧ MI 12 hc ∧ MI 29 hc ∧ TSh hc ∧ 80 ≤ hN hc ∧ hN hc ≤ 80 + 10 * i ∧ hU hc ≤ 20000 + 1000 * i ∧ MO hm
def STT (hc hm : Hp) : Prop := hI hm 49 30 = hI hc 12 4 ∧ hI hm 49 31 = hI hc 12 5 ∧ hI hm 49 32 = hI hc 12 8 ∧ (hI hm 49 29 = 0 ∨ hI hm 49 29 = 1) ∧ (∀ f, f < 4 → ∃ k, k ≤ 3 ∧ hI hm 57 f = nI k) ∧ (∃ ln, hI hm 49 5 = nI ln) ∧ ∀ j, j < 152 → vp_nar .char (hI hm 51 j) = hI hm 51 j
def WTC (hc hm : Hp) : Prop := hI hc 3 7 = hI hm 49 33 ∧ (hI hc 3 7 = 0 ∨ hI hc 3 7 = 1) ∧ hI hc 3 8 = hI hm 49 34
def INV (i : Nat) (hc hm : Hp) : Prop := BAS i hc hm ∧ TXT hc hm ∧ WTC hc hm ∧ NTS (1000000 * i) hc hm ∧ OUT (1000000 * i) hc hm ∧ STT hc hm ∧ (NOP hc hm ∨ LDD (1000000 * i) hc hm)
section IV
variable {xs : Nat → Int32} {L d i : Nat} {h hc hm hc2 hm2 : Hp} {x : PDt} {pg B B2 l o : Nat} {ar : Nat → Int32}
theorem sm1_rfl : Sm1 h h o := ⟨rfl, rfl, fun _ => rfl, fun _ => rfl⟩
theorem sm1_sI {a k : Nat} {v : Int32} (h1 : ¬ o = a) : Sm1 h (sI h a k v) o := ⟨rfl, rfl, fun _ => rfl, fun k2 => by rw [hI_sI, if_neg (fun z => h1 z.1)]⟩
theorem sm1_sR {a k : Nat} {v : Option Nat} (h1 : ¬ o = a) : Sm1 h (sR h a k v) o := ⟨rfl, rfl, fun k2 => by rw [hR_sR, if_neg (fun z => h1 z.1)], fun _ => rfl⟩
theorem sm1_sA {a : Nat} {f : Nat → Int32} (h1 : ¬ o = a) : Sm1 h (sA h a f) o := ⟨rfl, rfl, fun _ => rfl, fun k2 => by rw [hI_sA, if_neg h1]⟩
theorem sm1_tr (h1 : Sm1 h hc o) (h2 : Sm1 hc hc2 o) : Sm1 h hc2 o := ⟨h2.1.trans h1.1, h2.2.1.trans h1.2.1, fun k => (h2.2.2.1 k).trans (h1.2.2.1 k), fun k => (h2.2.2.2 k).trans (h1.2.2.2 k)⟩
theorem agc_rfl : AgC h h := ⟨rfl, rfl, fun _ _ => sm1_rfl⟩
theorem agm_rfl : AgM h h := fun _ _ _ => sm1_rfl
theorem agc_tr (h1 : AgC h hc) (h2 : AgC hc hc2) : AgC h hc2 := ⟨h2.1.trans h1.1, h2.2.1.trans h1.2.1, fun o ho => sm1_tr (h1.2.2 o ho) (h2.2.2 o ho)⟩
theorem agm_tr (h1 : AgM h hc) (h2 : AgM hc hc2) : AgM h hc2 := fun o ho ho2 => sm1_tr (h1 o ho ho2) (h2 o ho ho2)
theorem agc_sI {a k : Nat} {v : Int32} (h1 : AgC h hc) (ha : 49 ≤ a ∧ a < 80) : AgC h (sI hc a k v) := agc_tr h1 ⟨rfl, rfl, fun o ho => sm1_sI (by omega)⟩
theorem agc_sA {a : Nat} {f : Nat → Int32} (h1 : AgC h hc) (ha : 49 ≤ a ∧ a < 80) : AgC h (sA hc a f) := agc_tr h1 ⟨rfl, rfl, fun o ho => sm1_sA (by omega)⟩
theorem agm_sI {a k : Nat} {v : Int32} (h1 : AgM h hc) (ha : a < 49 ∨ 80 ≤ a) : AgM h (sI hc a k v) := agm_tr h1 (fun o ho ho2 => sm1_sI (by omega))
theorem agm_sA {a : Nat} {f : Nat → Int32} (h1 : AgM h hc) (ha : a < 49 ∨ 80 ≤ a) : AgM h (sA hc a f) := agm_tr h1 (fun o ho ho2 => sm1_sA (by omega))
theorem agm_sR {a k : Nat} {v : Option Nat} (h1 : AgM h hc) (ha : a < 49 ∨ 80 ≤ a) : AgM h (sR hc a k v) := agm_tr h1 (fun o ho ho2 => sm1_sR (by omega))
theorem mo_ag (hs : ∀ o, 49 ≤ o → o < 80 → hK hm2 o = hK hm o ∧ hL hm2 o = hL hm o ∧ ∀ k, hR hm2 o k = hR hm o k) (hO : MO hm) : MO hm2 := by
  have kK := fun o h1 h2 => (hs o h1 h2).1
  have kL := fun o h1 h2 => (hs o h1 h2).2.1
  have kR := fun o h1 h2 => (hs o h1 h2).2.2
  exact ⟨(kK 49 (by decide) (by decide)).trans (mo_k hO), (kR 49 (by decide) (by decide) 1).trans (mo_r50 hO), (kK 50 (by decide) (by decide)).trans (mo_k50 hO), (kL 50 (by decide) (by decide)).trans (mo_l50 hO), (kR 49 (by decide) (by decide) 2).trans (mo_r51 hO), (kK 51 (by decide) (by decide)).trans (mo_k51 hO), (kL 51 (by decide) (by decide)).trans (mo_l51 hO), (kR 49 (by decide) (by decide) 6).trans (mo_r52 hO), (kK 52 (by decide) (by decide)).trans (mo_k52 hO), (kL 52 (by decide) (by decide)).trans (mo_l52 hO), (kR 49 (by decide) (by decide) 7).trans (mo_r53 hO), (kK 53 (by decide) (by decide)).trans (mo_k53 hO), (kL 53 (by decide) (by decide)).trans (mo_l53 hO), (kR 49 (by decide) (by decide) 8).trans (mo_r54 hO), (kK 54 (by decide) (by decide)).trans (mo_k54 hO), (kL 54 (by decide) (by decide)).trans (mo_l54 hO), (kR 49 (by decide) (by decide) 9).trans (mo_r55 hO), (kK 55 (by decide) (by decide)).trans (mo_k55 hO), (kL 55 (by decide) (by decide)).trans (mo_l55 hO), (kR 49 (by decide) (by decide) 10).trans (mo_r56 hO), (kK 56 (by decide) (by decide)).trans (mo_k56 hO), (kL 56 (by decide) (by decide)).trans (mo_l56 hO), (kR 49 (by decide) (by decide) 11).trans (mo_r57 hO), (kK 57 (by decide) (by decide)).trans (mo_k57 hO), (kL 57 (by decide) (by decide)).trans (mo_l57 hO), (kR 49 (by decide) (by decide) 12).trans (mo_r58 hO), (kK 58 (by decide) (by decide)).trans (mo_k58 hO), (kL 58 (by decide) (by decide)).trans (mo_l58 hO), (kR 49 (by decide) (by decide) 13).trans (mo_r59 hO), (kK 59 (by decide) (by decide)).trans (mo_k59 hO), (kL 59 (by decide) (by decide)).trans (mo_l59 hO), (kR 49 (by decide) (by decide) 14).trans (mo_r60 hO), (kK 60 (by decide) (by decide)).trans (mo_k60 hO), (kL 60 (by decide) (by decide)).trans (mo_l60 hO), (kR 49 (by decide) (by decide) 15).trans (mo_r61 hO), (kK 61 (by decide) (by decide)).trans (mo_k61 hO), (kL 61 (by decide) (by decide)).trans (mo_l61 hO), (kR 49 (by decide) (by decide) 16).trans (mo_r62 hO), (kK 62 (by decide) (by decide)).trans (mo_k62 hO), (kL 62 (by decide) (by decide)).trans (mo_l62 hO), (kR 49 (by decide) (by decide) 17).trans (mo_r63 hO), (kK 63 (by decide) (by decide)).trans (mo_k63 hO), (kL 63 (by decide) (by decide)).trans (mo_l63 hO), (kR 49 (by decide) (by decide) 18).trans (mo_r64 hO), (kK 64 (by decide) (by decide)).trans (mo_k64 hO), (kL 64 (by decide) (by decide)).trans (mo_l64 hO), (kR 49 (by decide) (by decide) 19).trans (mo_r65 hO), (kK 65 (by decide) (by decide)).trans (mo_k65 hO), (kL 65 (by decide) (by decide)).trans (mo_l65 hO), (kR 49 (by decide) (by decide) 20).trans (mo_r66 hO), (kK 66 (by decide) (by decide)).trans (mo_k66 hO), (kL 66 (by decide) (by decide)).trans (mo_l66 hO), (kR 49 (by decide) (by decide) 21).trans (mo_r67 hO), (kK 67 (by decide) (by decide)).trans (mo_k67 hO), (kL 67 (by decide) (by decide)).trans (mo_l67 hO), (kR 49 (by decide) (by decide) 22).trans (mo_r68 hO), (kK 68 (by decide) (by decide)).trans (mo_k68 hO), (kL 68 (by decide) (by decide)).trans (mo_l68 hO), (kR 49 (by decide) (by decide) 23).trans (mo_r69 hO), (kK 69 (by decide) (by decide)).trans (mo_k69 hO), (kL 69 (by decide) (by decide)).trans (mo_l69 hO), (kR 49 (by decide) (by decide) 24).trans (mo_r70 hO), (kK 70 (by decide) (by decide)).trans (mo_k70 hO), (kL 70 (by decide) (by decide)).trans (mo_l70 hO), (kR 49 (by decide) (by decide) 25).trans (mo_r71 hO), (kK 71 (by decide) (by decide)).trans (mo_k71 hO), (kL 71 (by decide) (by decide)).trans (mo_l71 hO), (kR 49 (by decide) (by decide) 26).trans (mo_r72 hO), (kK 72 (by decide) (by decide)).trans (mo_k72 hO), (kL 72 (by decide) (by decide)).trans (mo_l72 hO), (kR 49 (by decide) (by decide) 35).trans (mo_r73 hO), (kK 73 (by decide) (by decide)).trans (mo_k73 hO), (kL 73 (by decide) (by decide)).trans (mo_l73 hO), (kR 49 (by decide) (by decide) 36).trans (mo_r74 hO), (kK 74 (by decide) (by decide)).trans (mo_k74 hO), (kL 74 (by decide) (by decide)).trans (mo_l74 hO), (kR 49 (by decide) (by decide) 37).trans (mo_r75 hO), (kK 75 (by decide) (by decide)).trans (mo_k75 hO), (kL 75 (by decide) (by decide)).trans (mo_l75 hO), (kR 49 (by decide) (by decide) 38).trans (mo_r76 hO), (kK 76 (by decide) (by decide)).trans (mo_k76 hO), (kL 76 (by decide) (by decide)).trans (mo_l76 hO), (kR 49 (by decide) (by decide) 39).trans (mo_r77 hO), (kK 77 (by decide) (by decide)).trans (mo_k77 hO), (kL 77 (by decide) (by decide)).trans (mo_l77 hO), (kR 49 (by decide) (by decide) 41).trans (mo_r78 hO), (kK 78 (by decide) (by decide)).trans (mo_k78 hO), (kL 78 (by decide) (by decide)).trans (mo_l78 hO), (kR 49 (by decide) (by decide) 43).trans (mo_r79 hO), (kK 79 (by decide) (by decide)).trans (mo_k79 hO), (kL 79 (by decide) (by decide)).trans (mo_l79 hO)⟩
theorem dk_ag (hs : ∀ o, o < 49 → hK hc2 o = hK hc o ∧ hL hc2 o = hL hc o) (hR3 : ∀ k, k < 6 → hR hc2 3 k = hR hc 3 k) (hR4 : hR hc2 4 0 = hR hc 4 0) (hR46 : hR hc2 46 0 = hR hc 46 0) (hD : DK hc) : DK hc2 := by
  obtain ⟨a1, a2, a3, a4, a5, a6, a7, a8, a9, a10, a11, a12, a13, a14, a15, a16, a17⟩ := hD
  have kK := fun o h1 => (hs o h1).1
  have kL := fun o h1 => (hs o h1).2
  exact ⟨(kK 3 (by decide)).trans a1, (hR3 0 (by decide)).trans a2, (hR3 1 (by decide)).trans a3, (hR3 2 (by decide)).trans a4, (hR3 3 (by decide)).trans a5, (hR3 4 (by decide)).trans a6, (hR3 5 (by decide)).trans a7, (kK 4 (by decide)).trans a8, hR4.trans a9, (kK 5 (by decide)).trans a10, (kL 5 (by decide)).trans a11, (kK 46 (by decide)).trans a12, hR46.trans a13, (kK 47 (by decide)).trans a14, (kL 47 (by decide)).trans a15, (kK 48 (by decide)).trans a16, (kL 48 (by decide)).trans a17⟩
/-- objects that were there are the same -/
def Old (h h2 : Hp) : Prop := hN h ≤ hN h2 ∧ ∀ o, 80 ≤ o → o < hN h → Sm1 h h2 o
theorem asd_fr {row c : Nat} (h : ASD ar row c hc hm) (hC : ∀ o, c ≤ o → o < c + 3 → Sm1 hc hc2 o) (hM : ∀ j, j < 152 → hI hm2 51 (152 * row + j) = hI hm 51 (152 * row + j)) : ASD ar row c hc2 hm2 := by
  obtain ⟨TA, IA, n, z, J, a1, a2, a3, ⟨q1, q2, q3, q4, q5, q6, q7, q8, q9⟩, a5, a6, a7⟩ := h
  have c0 := hC c (by omega) (by omega)
  have c1 := hC (c + 1) (by omega) (by omega)
  have c2 := hC (c + 2) (by omega) (by omega)
  exact ⟨TA, IA, n, z, J, fun j hj => (hM j hj).trans (a1 j hj), a2, a3, ⟨c0.1.trans q1, (c0.2.2.1 0).trans q2, (c0.2.2.1 1).trans q3, (c0.2.2.2 2).trans q4, c1.1.trans q5, c1.2.1.trans q6, c2.1.trans q7, c2.2.1.trans q8, q9⟩, fun k hk => (c1.2.2.2 k).trans (a5 k hk), fun k hk => (c2.2.2.2 k).trans (a6 k hk), a7⟩
theorem bcn_fr (h : BCN ar l o hc hm) (hO : Old hc hc2) (hR0 : hR hc2 o 0 = hR hc o 0) (h74 : hI hm2 74 l = hI hm 74 l) (hM : ∀ j, j < 152 → hI hm2 51 (152 * (1 + l) + j) = hI hm 51 (152 * (1 + l) + j)) : BCN ar l o hc2 hm2 := by
  rcases h with ⟨h1, h2⟩ | ⟨c, h1, h2, h3, h4, h5⟩
  · exact Or.inl ⟨hR0.trans h1, h74.trans h2⟩
  · exact Or.inr ⟨c, hR0.trans h1, h2, by have := hO.1; omega, h74.trans h4, asd_fr h5 (fun o h6 h7 => hO.2 o (by omega) (by omega)) hM⟩
theorem brk_fr (h : BRK ar B l hc hm) (hB : B ≤ B2) (hO : Old hc hc2) (h48 : hR hc2 48 l = hR hc 48 l) (hI1 : ∀ o, o = 73 ∨ o = 74 ∨ o = 75 ∨ o = 76 ∨ o = 77 → hI hm2 o l = hI hm o l) (hM : ∀ j, j < 152 → hI hm2 51 (152 * (1 + l) + j) = hI hm 51 (152 * (1 + l) + j)) : BRK ar B2 l hc2 hm2 := by
  rcases h with ⟨h1, h2⟩ | ⟨o, h1, h2, h3, h4, h5, h6, h7, h8, ⟨c, h9, h10⟩, h11⟩
  · exact Or.inl ⟨h48.trans h1, (hI1 73 (by omega)).trans h2⟩
  · have s := hO.2 o h2 h3
    exact Or.inr ⟨o, h48.trans h1, h2, by have := hO.1; omega, s.1.trans h4, (hI1 73 (by omega)).trans h5, (s.2.2.2 1).trans (h6.trans (hI1 76 (by omega)).symm), (s.2.2.2 2).trans (h7.trans (hI1 75 (by omega)).symm), (s.2.2.2 3).trans (h8.trans (hI1 77 (by omega)).symm), ⟨c, by omega, (s.2.2.2 3).trans h10⟩, bcn_fr h11 hO (s.2.2.1 0) (hI1 74 (by omega)) hM⟩
theorem pro_fr {z ln : Nat} {I H S P : Nat → Int32} (h : PRO hc pg z ln I H S P) (hC : ∀ o, pg ≤ o → o < pg + 6 → Sm1 hc hc2 o) : PRO hc2 pg z ln I H S P := by
  obtain ⟨⟨p1, p2, p3, p4, p5, p6, p7, p8⟩, ⟨q1, q2, q3, q4, q5, q6, q7, q8, q9⟩, b1, b2, b3, b4, b5⟩ := h
  have c0 := hC pg (by omega) (by omega)
  have c1 := hC (pg + 1) (by omega) (by omega)
  have c2 := hC (pg + 2) (by omega) (by omega)
  have c3 := hC (pg + 3) (by omega) (by omega)
  have c4 := hC (pg + 4) (by omega) (by omega)
  have c5 := hC (pg + 5) (by omega) (by omega)
  exact ⟨⟨c0.1.trans p1, (c0.2.2.1 0).trans p2, (c0.2.2.1 1).trans p3, (c0.2.2.1 2).trans p4, c4.1.trans p5, c4.2.1.trans p6, c5.1.trans p7, c5.2.1.trans p8⟩, ⟨c1.1.trans q1, (c1.2.2.1 0).trans q2, (c1.2.2.1 1).trans q3, (c1.2.2.2 2).trans q4, c2.1.trans q5, c2.2.1.trans q6, c3.1.trans q7, c3.2.1.trans q8, q9⟩, (c0.2.2.2 3).trans b1, fun k hk => (c2.2.2.2 k).trans (b2 k hk), fun k hk => (c3.2.2.2 k).trans (b3 k hk), fun k hk => (c4.2.2.2 k).trans (b4 k hk), fun k hk => (c5.2.2.2 k).trans (b5 k hk)⟩
/-- the model's program is the same -/
def EqT (h h2 : Hp) : Prop := (∀ k, k = 3 ∨ k = 4 ∨ k = 5 → hI h2 49 k = hI h 49 k) ∧ (∀ j, j < 152 → hI h2 51 j = hI h 51 j) ∧ ∀ o k, 52 ≤ o → o ≤ 57 → hI h2 o k = hI h o k
theorem hpd_fr (h : HPD hm x) (hE : EqT hm hm2) : HPD hm2 x := by
  obtain ⟨a1, a2, a3, a4, a5, a6, a7, a8, a9⟩ := h
  obtain ⟨e1, e2, e3⟩ := hE
  exact ⟨(e1 3 (by omega)).trans a1, fun j hj => (e2 j hj).trans (a2 j hj), fun f hf => (e3 56 f (by omega) (by omega)).trans (a3 f hf), fun f hf hb => (e3 57 f (by omega) (by omega)).trans (a4 f hf hb), (e1 5 (by omega)).trans a5, fun k => (e3 53 k (by omega) (by omega)).trans (a6 k), fun k => (e3 54 k (by omega) (by omega)).trans (a7 k), fun k => (e3 55 k (by omega) (by omega)).trans (a8 k), fun k => (e3 52 k (by omega) (by omega)).trans (a9 k)⟩
theorem prg_fr (h : PRG x pg hc hm) (hO : Old hc hc2) (h36 : hR hc2 3 6 = hR hc 3 6) (hE : EqT hm hm2) : PRG x pg hc2 hm2 := by
  obtain ⟨a1, a2, a3, a4, a5, a6, a7, a8⟩ := h
  exact ⟨a1, a2, hpd_fr a3 hE, h36.trans a4, a5, by have := hO.1; omega, pro_fr a7 (fun o h1 h2 => hO.2 o (by omega) (by omega)), (hE.1 4 (by omega)).trans a8⟩
theorem rd_par (hR : RDx x) : ∀ y, y < x.n → x.T y = 125 → ∃ o, x.V y = nI o ∧ o < y ∧ x.T o = 123 := by
  obtain ⟨ay0, Q0, ay, τ0, u, h1, -⟩ := hR
  exact fun y hy h125 => hds_par x.n 0 _ _ _ _ _ _ (by omega) h1 y h125 (Or.inr ⟨by omega, hy⟩)
theorem smh_mk (hx : PDok x) (hO : MO hm) (hH : HPD hm x) {a : ADt} {tf : Nat} : SMh (mkG x pg 0 a tf) hm := by
  obtain ⟨a1, a2, a3, a4, a5, a6, a7, a8, a9⟩ := hH
  refine ⟨hO, fun al hal => ?_, fun f hf hne => ?_, a6, a7, a8, a9⟩
  · cases al with
    | true => exact absurd (show (0 : Nat) = 1 from hal rfl) (by decide)
    | false => exact fun j hj => by rw [show gb (mkG x pg 0 a tf) false + j = j from Nat.zero_add j]; exact a2 j hj
  · have hne : ¬ arC x.r f = -1 := hne
    unfold arC at hne
    rw [if_pos hf] at hne
    have hb := hx.2.2.2.2.1 f hf
    have h0 : 0 < x.bd f := Nat.pos_of_ne_zero (fun z => hne (hb.2.mpr z))
    rw [mk_bd hf]
    refine ⟨a3 f hf, (a4 f hf h0).trans ?_⟩
    show aP x.r f = arC x.r f
    unfold arC
    rw [if_pos hf]
theorem run_fr (hP : PRG x pg hc hm) (hO2 : MO hm2) (hE : EqT hm hm2) (h : RUN x pg hc hm) (hC : EqC pg hc hc2) (hM : EqM hm hm2) : RUN x pg hc2 hm2 := by
  have c12 := hC 12 (by omega)
  rcases h with ⟨h1, h2, h3⟩ | ⟨h1, h2⟩
  · refine Or.inl ⟨(c12.2.2.2 4).trans h1, (c12.2.2.2 5).trans h2, ?_⟩
    exact wai_tr (K := x.K) (W := x.W) (Z := x.Z) (V := x.V) hP.1.1 (agv_rfl (rd_par hP.2.1)) hC hM (smh_mk (x := x) hP.1 hO2 (hpd_fr hP.2.2.1 hE)) h3
  · exact Or.inr ⟨by rw [c12.2.2.2 4]; exact h1, (c12.2.2.2 6).trans h2⟩
theorem old_agc (h : AgC hc hc2) : Old hc hc2 := ⟨by rw [h.1]; exact Nat.le_refl _, fun o h1 _ => h.2.2 o (Or.inr h1)⟩
theorem eqc_agc (h : AgC hc hc2) (hp : 80 ≤ pg) : EqC pg hc hc2 := fun o ho => h.2.2 o (by omega)
theorem eqt_agm (h : AgM hm hm2) : EqT hm hm2 := ⟨fun k _ => (h 49 (by decide) (by decide)).2.2.2 k, fun j _ => (h 51 (by decide) (by decide)).2.2.2 j, fun o k h1 h2 => (h o (by omega) (by omega)).2.2.2 k⟩
theorem eqm_agm (h : AgM hm hm2) : EqM hm hm2 := ⟨(h 62 (by decide) (by decide)).2.2.2 0, fun o k h1 _ => (h o (by omega) (by omega)).2.2.2 k, fun o k h1 _ => (h o (by omega) (by omega)).2.2.2 k, fun k _ => (h 72 (by decide) (by decide)).2.2.2 k⟩
theorem bas_ag (h : BAS i hc hm) (hC : AgC hc hc2) (hM : AgM hm hm2) : BAS i hc2 hm2 := by
  obtain ⟨a1, a2, a3, a4, a5, a6, a7, a8⟩ := h
  refine ⟨dk_ag (fun o ho => ⟨(hC.2.2 o (Or.inl ho)).1, (hC.2.2 o (Or.inl ho)).2.1⟩) (fun k _ => (hC.2.2 3 (by omega)).2.2.1 k) ((hC.2.2 4 (by omega)).2.2.1 0) ((hC.2.2 46 (by omega)).2.2.1 0) a1, mi_same (fun o h1 h2 => ?_) a2, mi_same (fun o h1 h2 => ?_) a3, kp_tsh (N := 12) (by decide) (fun o h1 h2 => ?_) a4, by rw [hC.1]; exact a5, by rw [hC.1]; exact a6, by rw [hC.2.1]; exact a7, mo_ag (fun o h1 h2 => ?_) a8⟩
  · have s := hC.2.2 o (by omega); exact ⟨s.1, s.2.1, s.2.2.1⟩
  · have s := hC.2.2 o (by omega); exact ⟨s.1, s.2.1, s.2.2.1⟩
  · have s := hC.2.2 o (by omega); exact ⟨s.1, s.2.1, s.2.2.1⟩
  · have s := hM o (by omega) (by omega); exact ⟨s.1, s.2.1, s.2.2.1⟩
theorem inv_ag (h : INV i hc hm) (hC : AgC hc hc2) (hM : AgM hm hm2) : INV i hc2 hm2 := by
  obtain ⟨h1, ⟨n, b1, b2, b3, b4⟩, ⟨c1, c2, c3⟩, ⟨m, d1, d2, d3, d4⟩, ⟨u, e1, e2, e3, e4⟩, ⟨f1, f2, f3, f4, f5, f6, f7⟩, h2⟩ := h
  have C := fun o ho k => (hC.2.2 o ho).2.2.2 k
  have CR := fun o ho k => (hC.2.2 o ho).2.2.1 k
  have M := fun o h1 h2 k => (hM o h1 h2).2.2.2 k
  have M49 := M 49 (by decide) (by decide)
  have C12 := C 12 (by omega)
  have C3 := C 3 (by omega)
  refine ⟨bas_ag h1 hC hM, ⟨n, b1, (C 4 (by omega) 1).trans b2, (M49 0).trans b3, fun j hj => ?_⟩, ⟨(C3 7).trans (c1.trans (M49 33).symm), by rw [C3]; exact c2, (C3 8).trans (c3.trans (M49 34).symm)⟩, ⟨m, d1, (C 46 (by omega) 1).trans d2, (M49 42).trans d3, fun k hk => (C 47 (by omega) k).trans ((d4 k hk).trans (M 79 (by decide) (by decide) k).symm)⟩, ⟨u, e1, (C 27 (by omega) 1).trans e2, (M49 40).trans e3, fun k hk => (C 28 (by omega) k).trans ((e4 k hk).trans (M 78 (by decide) (by decide) k).symm)⟩, ⟨(M49 30).trans (f1.trans (C12 4).symm), (M49 31).trans (f2.trans (C12 5).symm), (M49 32).trans (f3.trans (C12 8).symm), by rw [M49]; exact f4, fun f hf => by rw [M 57 (by decide) (by decide)]; exact f5 f hf, by rw [M49]; exact f6, fun j hj => by rw [M 51 (by decide) (by decide)]; exact f7 j hj⟩, ?_⟩
  · obtain ⟨g1, g2, g3⟩ := b4 j hj
    rw [C 5 (by omega), M 50 (by decide) (by decide)]
    exact ⟨g1, g2, g3⟩
  · rcases h2 with ⟨g1, g2, g3, g4, g5⟩ | ⟨x, pg, g1, g2, g3, g4⟩
    · exact Or.inl ⟨(CR 3 (by omega) 6).trans g1, (M49 4).trans g2, (C12 4).trans g3, (C12 6).trans g4, fun l hl => (CR 48 (by omega) l).trans (g5 l hl)⟩
    · have hpg : 80 ≤ pg := g1.2.2.2.2.1
      refine Or.inr ⟨x, pg, prg_fr g1 (old_agc hC) (CR 3 (by omega) 6) (eqt_agm hM), fun l hl => brk_fr (g2 l hl) (Nat.le_refl _) (old_agc hC) (CR 48 (by omega) l) (fun o ho => M o (by omega) (by omega) l) (fun j hj => M 51 (by decide) (by decide) _), fun l l2 o q1 q2 q3 q4 => g3 l l2 o q1 q2 ((CR 48 (by omega) l).symm.trans q3) ((CR 48 (by omega) l2).symm.trans q4), run_fr g1 (mo_ag (fun o h1 h2 => ?_) h1.2.2.2.2.2.2.2) (eqt_agm hM) g4 (eqc_agc hC hpg) (eqm_agm hM)⟩
      have s := hM o h1 h2; exact ⟨s.1, s.2.1, s.2.2.1⟩
/-- a call of the desk and of the model -/
def CAL (xs : Nat → Int32) (L d i mc mm : Nat) (as : List AV) : Prop := ∀ hc hm, INV i hc hm → ∃ a hc2 hm2, Rn xs L d mc (.inr (some 3) :: as) hc (a, hc2) ∧ Rn xs L d mm (.inr (some 49) :: as) hm (a, hm2) ∧ INV (i + 1) hc2 hm2 ∧ AgM hc hc2 ∧ AgC hm hm2
theorem cal_one {mc mm : Nat} {as : List AV} (hC : CAL xs L d i mc mm as) (hI : INV i h h) : ∃ a h1 h2, Rn xs L d mc (.inr (some 3) :: as) h (a, h1) ∧ Rn xs L d mm (.inr (some 49) :: as) h1 (a, h2) ∧ INV (i + 1) h2 h2 ∧ AgM h h1 ∧ AgC h1 h2 := by
  obtain ⟨a, h1, hx, r1, -, -, g1, -⟩ := hC h h hI
  obtain ⟨b, h1', h2, r2, r3, i2, g2, g3⟩ := hC h h1 (inv_ag hI agc_rfl g1)
  have e := rn_det d _ _ _ _ _ r1 r2
  injection e with e1 e2
  subst e1 e2
  refine ⟨a, h1, h2, r1, r3, inv_ag i2 g3 agm_rfl, g1, g3⟩
end IV

-- THE RUN: instructions, ends, a statement's point
theorem iw_nI {op k : Nat} (ho : op < 16) (hk : k < 2 ^ 27) : iw (nI op) (nI k) = nI (16 * k + op) := by
  refine Int32.toBitVec_inj.mp (BitVec.eq_of_toNat_eq ?_)
  unfold iw
  rw [Int32.toBitVec_or, BitVec.toNat_or, pk_shl _ _ 4 (by decide), pk_tn (by omega), pk_tn (by omega), pk_tn (by omega), Nat.mod_eq_of_lt (by omega)]
  have h := Nat.shiftLeft_add_eq_or_of_lt (i := 4) (b := op) (by omega) k
  rw [Nat.shiftLeft_eq] at h
  rw [← h]
  omega
theorem iw_op {op k : Nat} (ho : op < 16) (hk : k < 2 ^ 27) : iw (nI op) (nI k) &&& 15 = nI op := by
  rw [iw_nI ho hk, pk_andN (by omega) 4 (by decide)]
  congr 1
  omega
theorem iw_sh {op k : Nat} (ho : op < 16) (hk : k < 2 ^ 27) : iw (nI op) (nI k) >>> ((4 : Int32) &&& 31) = nI k := by
  rw [iw_nI ho hk, pk_shrN (by omega) _ 4 (by decide)]
  congr 1
  omega
theorem hI_ne {h : Hp} {o k a c : Nat} {v : Int32} (hn : ¬ (a = o ∧ c = k)) : hI (sI h o k v) a c = hI h a c := by rw [hI_sI, if_neg hn]
theorem hI_is {h : Hp} {o k : Nat} {v : Int32} : hI (sI h o k v) o k = v := by rw [hI_sI, if_pos ⟨rfl, rfl⟩]
/-- the output, what is thrown -/
def ESt (g : CTX) (u : Nat) (hc hm : Hp) : Prop := hI hc (g.u + 15) 1 = nI u ∧ (g.m = 0 → hI hm 49 40 = nI u ∧ (∀ k, k < 16 → hI hc (g.u + 16) k = hI hm 78 k) ∧ (g.tf = 1 → hI hc g.u 9 = hI hm 49 29)) ∧ (hI hm 49 29 = 0 ∨ hI hm 49 29 = 1)
/-- the top frame is q -/
def TP (g : CTX) (hc hm : Hp) (q b M : Nat) : Prop := SCh g hc ∧ SMh g hm ∧ q < 6 ∧ hI hc g.u 6 = nI (q + 1) ∧ hI hm 62 g.m = nI (q + 1) ∧ LOW g hc hm q b M ∧ FV g hc hm q ∧ (fl g q = false → hI hc (g.u + (2 + 2 * q)) 3 = nI b)
def WAI (g : CTX) (hc hm : Hp) : Prop := hI hc g.u 4 = 1 ∧ ∃ q b M pl i hd oh, TP g hc hm q b M ∧ fl g q = false ∧ gFR g pl i hd oh ∧ ¬ g.T pl = 125 ∧ hI hm 65 (6 * g.m + q) = nI pl ∧ hI hc (g.u + (2 + 2 * q)) 5 = g.Z pl ∧ hI hc (g.u + (2 + 2 * q)) 2 = nI (i + 1) ∧ hI hc g.u 7 = nI b
def OVR (g : CTX) (hc hm : Hp) : Prop := hI hc g.u 4 = 2 ∧ hI hc g.u 6 = 0 ∧ hI hc g.u 5 = hI hm 49 28
def DED (g : CTX) (hc hm : Hp) : Prop := hI hc g.u 4 = 3 ∧ hI hc g.u 6 = 0 ∧ hI hc g.u 5 = hI hm 49 28
/-- both run to the same end -/
def DNE (xs : Nat → Int32) (L d : Nat) (g : CTX) (u : Nat) (hc hm : Hp) (M : Nat) : Prop := ∃ (k : Nat) (hc2 hm2 : Hp) (code : Int32) (u2 : Nat), k ≤ 4 * M + 4 ∧ CR xs L (d + 3) g.u k hc hc2 ∧ PX xs L (d + 4) g.m hm (some (.inl code), hm2) ∧ UD g.u code hc hc2 ∧ UM g.m 0 hm hm2 ∧ u ≤ u2 ∧ u2 ≤ u + M + 1 ∧ ESt g u2 hc2 hm2 ∧ ((code = 1 ∧ WAI g hc2 hm2) ∨ (code = 2 ∧ OVR g hc2 hm2) ∨ (code = 3 ∧ DED g hc2 hm2))
section RE
variable {xs : Nat → Int32} {L d : Nat} {g : CTX} {hc hm hc2 hm2 : Hp} {q b M : Nat} {u : Nat}
/-- class and model go on, the class by none or one instruction -/
theorem dne_0 {M2 u2 : Nat} (hm1 : UM g.m 0 hm hm2) (hp : ∀ res, PX xs L (d + 4) g.m hm2 res → PX xs L (d + 4) g.m hm res) (hu : u ≤ u2 ∧ u2 ≤ u + 1) (hM : M2 < M) (h : DNE xs L d g u2 hc hm2 M2) : DNE xs L d g u hc hm M := by
  obtain ⟨k, hc3, hm3, code, u3, h1, h2, h3, h4, h5, h6, h7, h8, h9⟩ := h
  exact ⟨k, hc3, hm3, code, u3, by omega, h2, hp _ h3, h4, um_trans hm1 h5 (Nat.le_refl _), by omega, by omega, h8, h9⟩
theorem dne_1 {M2 u2 : Nat} (hcs : CS xs L (d + 3) g.u hc 1 hc2) (hMI : MI g.u hc2) (hc1 : UC g.u 0 0 hc hc2) (hm1 : UM g.m 0 hm hm2) (hp : ∀ res, PX xs L (d + 4) g.m hm2 res → PX xs L (d + 4) g.m hm res) (hu : u ≤ u2 ∧ u2 ≤ u + 1) (hM : M2 < M) (h : DNE xs L d g u2 hc2 hm2 M2) : DNE xs L d g u hc hm M := by
  obtain ⟨k, hc3, hm3, code, u3, h1, h2, h3, h4, h5, h6, h7, h8, h9⟩ := h
  exact ⟨k + 1, hc3, hm3, code, u3, by omega, Or.inr ⟨hc2, hcs, hMI, h2⟩, hp _ h3, ud_tr hc1 h4, um_trans hm1 h5 (Nat.le_refl _), by omega, by omega, h8, h9⟩
/-- only the class goes on -/
theorem dne_c {hm1 : Hp} {k2 : Nat} (hcs : CS xs L (d + 3) g.u hc 1 hc2) (hMI : MI g.u hc2) {hc3 : Hp} (h : CR xs L (d + 3) g.u k2 hc2 hc3) : CR xs L (d + 3) g.u (k2 + 1) hc hc3 := Or.inr ⟨hc2, hcs, hMI, h⟩
theorem cs_mk {i op k : Nat} {on : Int32} (hS : SCh g hc) (hq : q < 6) (hd : hI hc g.u 6 = nI (q + 1)) (ha : fl g q = true → g.m = 1) (hcd : hR hc (g.u + (2 + 2 * q)) 1 = some (gc g (fl g q))) (hn : hI hc (g.u + (2 + 2 * q)) 2 = nI i) (hi : i < gz g (fl g q)) (hw : gI g (fl g q) i = iw (nI op) (nI k)) (ho : op < 16) (hk : k < 2 ^ 27) (hx : Rn xs L (d + 3) 13 [.inr (some g.u), .inr (some (g.u + (2 + 2 * q))), .inl (nI op), .inl (nI k)] (sI hc (g.u + (2 + 2 * q)) 2 (nI (i + 1))) (some (.inl on), hc2)) : CS xs L (d + 3) g.u hc on hc2 := by
  obtain ⟨s1, s2, s3, s4, s5, s6, s7, s8⟩ := hS
  obtain ⟨⟨c1, c2, c3, c4, c5, c6, c7, c8, c9⟩, d1⟩ := s4 (fl g q) ha
  obtain ⟨f1, f2, f3, f4, f5⟩ := s1.2.2.2.2.2.2.2.2.2.2.2.2 q hq
  refine ⟨q, hI hc (gi g (fl g q)) i, sI hc (g.u + (2 + 2 * q)) 2 (nI (i + 1)), hq, hd, r_fetch (d := d + 2) f2 hcd c1 c2 c5 c6 c4 hn hi c9, ?_, s1.1⟩
  rw [d1 i hi, hw, iw_op ho hk, iw_sh ho hk]
  exact hx
theorem fl_m (ha : fl g q = true) : g.m = 1 := (of_decide_eq_true ha).1
theorem fl_0 (hq : 0 < q) : fl g q = false := decide_eq_false (fun z => by omega)
theorem gz_f (ha : fl g q = false) : gz g (fl g q) = g.z ∧ gI g (fl g q) = g.I ∧ gT g (fl g q) = g.T ∧ gb g (fl g q) = 0 ∧ gn g (fl g q) = g.n ∧ gc g (fl g q) = g.c := by
  rw [ha]; exact ⟨rfl, rfl, rfl, rfl, rfl, rfl⟩
theorem pu_m (hP : PU g) : g.m < 2 := by rcases hP.1 with e | e <;> omega
/-- at a statement: both wait -/
theorem s_point {p i : Nat} {hd oh : Int32} (hP : PU g) (hT : TP g hc hm q b M) (hE : ESt g u hc hm) (ha : fl g q = false) (hf : gFR g p i hd oh) (h125 : ¬ g.T p = 125) (hi : hI hc (g.u + (2 + 2 * q)) 2 = nI i) (hp : hI hm 64 (6 * g.m + q) = nI p) (h7 : hI hc g.u 7 = nI b) (h0 : hI hm 49 27 = 0) : DNE xs L d g u hc hm 0 := by
  obtain ⟨t1, t2, t3, t4, t5, t6, t7, t8⟩ := hT
  obtain ⟨l, l1, l2, l3, l4, l5, l6, -⟩ := fr_st hP.2.1 (by have := hP.2.2.2.1; omega) hf h125
  have hz := hP.2.2.2.1
  have hn := hP.2.1.1
  have hm2 := pu_m hP
  obtain ⟨e1, e2, -⟩ := gz_f ha
  obtain ⟨f1, f2, f3, f4, f5⟩ := t1.1.2.2.2.2.2.2.2.2.2.2.2.2 q t3
  have hcs : CS xs L (d + 3) g.u hc 0 (sI (sI (sI hc (g.u + (2 + 2 * q)) 2 (nI (i + 1))) (g.u + (2 + 2 * q)) 5 (nI l)) g.u 4 1) := cs_mk (op := 5) (k := l) t1 t3 t4 (fun z => by rw [ha] at z; cases z) t7.1 hi (by rw [e1]; exact l2) (by rw [e2]; exact l4) (by decide) (by omega) (x_point t1.1.1 f2)
  have hcp : hI hm 51 p = g.T p := by
    have := t2.2.1 false (fun z => by cases z) p (by omega)
    rw [show gb g false + p = p from Nat.zero_add p] at this
    exact this
  have hpx := p_seek1 (xs := xs) (L := L) (d := d + 3) t2.1 hm2 t5 t3 h0 (m_seek1 (p := p) t2.1 (by omega) hp (by omega) (by rw [hcp]; exact h125))
  have hu1 : UC g.u q b hc (sI (sI (sI hc (g.u + (2 + 2 * q)) 2 (nI (i + 1))) (g.u + (2 + 2 * q)) 5 (nI l)) g.u 4 1) := uc_sI (uc_sI (uc_sI uc_rfl (Or.inr (Or.inr (Or.inr (Or.inl ⟨q, Nat.le_refl _, t3, Or.inl rfl⟩))))) (Or.inr (Or.inr (Or.inr (Or.inl ⟨q, Nat.le_refl _, t3, Or.inl rfl⟩))))) (Or.inl ⟨rfl, by decide, by decide⟩)
  have hu2 : UM g.m q hm (sI hm 65 (6 * g.m + q) (nI p)) := um_sI um_rfl (by unfold OwM; omega)
  refine ⟨1, _, _, 1, u, by omega, Or.inl hcs, hpx, ud_uc ⟨hu1.1, hu1.2.1, hu1.2.2.1, fun o k => (hu1.2.2.2.1 o k).imp id (fun ⟨z1, j, z2, z3, z4⟩ => ⟨z1, j, by omega, z3, z4⟩), fun o k => (hu1.2.2.2.2 o k).imp id (fun z => owc_le z (by omega) (by omega))⟩, ⟨hu2.1, hu2.2.1, hu2.2.2.1, hu2.2.2.2.1, fun o k => (hu2.2.2.2.2 o k).imp id (fun z => owm_le z (by omega))⟩, by omega, by omega, ?_, Or.inl ⟨rfl, ?_⟩⟩
  · obtain ⟨a1, a2, a3⟩ := hE
    refine ⟨?_, fun z => ?_, ?_⟩
    · simp only [hI_sI]
      rw [if_neg (by omega), if_neg (by omega), if_neg (by omega)]; exact a1
    · obtain ⟨b1, b2, b3⟩ := a2 z
      refine ⟨by rw [hI_sI, if_neg (by omega)]; exact b1, fun k hk => ?_, ?_⟩
      · simp only [hI_sI]
        rw [if_neg (by omega), if_neg (by omega), if_neg (by omega), if_neg (by omega)]; exact b2 k hk
      · intro y
        simp only [hI_sI]
        rw [if_neg (by omega), if_neg (by omega), if_neg (by omega), if_neg (by omega)]; exact b3 y
    · rw [hI_sI, if_neg (by omega)]; exact a3
  · refine ⟨by rw [hI_sI, if_pos ⟨rfl, rfl⟩], q, b, M, p, i, hd, oh, ⟨sc_uc hP hu1 t1, sm_um hu2 t2, t3, ?_, ?_, low_uc q b M _ _ _ _ (by omega) hu1 hu2 t6, ?_, ?_⟩, ha, hf, h125, ?_, ?_, ?_, ?_⟩
    · simp only [hI_sI]
      rw [if_neg (by omega), if_neg (by omega), if_neg (by omega)]; exact t4
    · rw [hI_sI, if_neg (by omega)]; exact t5
    · obtain ⟨a1, a2, a3⟩ := t7
      refine ⟨a1, fun v hv => ?_, fun z => ?_⟩
      · simp only [hI_sI]
        rw [if_neg (by omega), if_neg (by omega), if_neg (by omega), if_neg (by omega)]; exact a2 v hv
      · simp only [hI_sI]
        rw [if_neg (by omega), if_neg (by omega), if_neg (by omega), if_neg (by omega)]; exact a3 z
    · intro z
      simp only [hI_sI]
      rw [if_neg (by omega), if_neg (by omega), if_neg (by omega)]; exact t8 z
    · rw [hI_sI, if_pos ⟨rfl, rfl⟩]
    · rw [hI_ne (by omega), hI_is]; exact l5.symm
    · rw [hI_ne (by omega), hI_ne (by omega), hI_is]
    · simp only [hI_sI]
      rw [if_neg (by omega), if_neg (by omega), if_neg (by omega)]; exact h7
end RE

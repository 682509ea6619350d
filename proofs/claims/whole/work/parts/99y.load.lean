-- THE CALL load
section CL1
variable {xs : Nat → Int32} {L d i : Nat} {h g hc hm hc1 hm1 hc2 hm2 hc3 hm3 : Hp} {x y : PDt} {pg pg2 B B2 l o n : Nat} {ar By ay Bk Q Bg F G : Nat → Int32} {v s : Int32} {u : TB}
theorem rd_o {k : Nat} (h1 : ¬ (52 ≤ o ∧ o ≤ 61)) (h2 : ¬ (o = 49 ∧ k = 5)) : hI (kH (hH h By ay Bk Q) u Bg F G) o k = hI h o k := by
  by_cases e : o = 49
  · subst e
    rw [kH_49 (by omega), hH_49]
  · rw [kH_o e (by omega) (by omega) (by omega) (by omega) (by omega) (by omega), hH_o (by omega) (by omega) (by omega) (by omega)]
theorem rd_52 {k : Nat} : hI (kH (hH h By ay Bk Q) u Bg F G) 52 k = Q k := (kH_o (by decide) (by decide) (by decide) (by decide) (by decide) (by decide) (by decide)).trans hH_52
theorem agc_rd : AgC h (kH (hH h By ay Bk Q) u Bg F G) := by
  unfold kH eH kB hH
  exact agc_sA (agc_sA (agc_sA (agc_sA (agc_sA (agc_sA (agc_sI (agc_sA (agc_sA (agc_sA (agc_sA agc_rfl (by omega)) (by omega)) (by omega)) (by omega)) (by omega)) (by omega)) (by omega)) (by omega)) (by omega)) (by omega)) (by omega)
theorem ld2_o {k : Nat} (h1 : ¬ o = 51) (h2 : ¬ (o = 49 ∧ (k = 0 ∨ k = 3))) : hI (ld2 n h) o k = hI h o k := by
  unfold ld2 cpH ld1
  rw [hI_ne (by omega), hI_ne (by omega), hI_sA, if_neg h1, hI_sA, if_neg h1]
theorem ld2_51 {j : Nat} : hI (ld2 n h) 51 j = if j < 152 then tS h n j else if 6232 ≤ j ∧ j < 6384 then hI h 51 (j - 6232) else hI h 51 j := by
  unfold ld2 cpH ld1
  rw [hI_ne (by omega), hI_ne (by omega), hI_sA, if_pos rfl]
  by_cases e : j < 152
  · rw [if_pos (by omega), if_pos e]
    unfold tS
    rw [Nat.mul_zero, Nat.sub_zero]
    by_cases q : j < n
    · rw [if_pos q, if_pos q, hI_sA, if_neg (by decide)]
    · rw [if_neg q, if_neg q]
  · rw [if_neg (by omega), if_neg e, hI_sA, if_pos rfl]
theorem ld2_3 : hI (ld2 n h) 49 3 = nI n := by
  unfold ld2
  rw [hI_ne (by decide), hI_is]
theorem ld2_0 : hI (ld2 n h) 49 0 = 0 := by
  unfold ld2
  rw [hI_is]
theorem agc_ld2 : AgC h (ld2 n h) := by
  unfold ld2 cpH ld1
  exact agc_sI (agc_sI (agc_sA (agc_sA agc_rfl (by omega)) (by omega)) (by omega)) (by omega)
theorem rs1_o {k : Nat} (h1 : ¬ (o = 51 ∧ k < 152)) (h2 : ¬ (o = 49 ∧ k = 3)) : hI (rs1 v h) o k = hI h o k := by
  unfold rs1
  rw [hI_ne (by omega), hI_sA]
  by_cases e : o = 51
  · rw [if_pos e, if_neg (by omega), e]
  · rw [if_neg e]
theorem rs1_51 {j : Nat} (hj : j < 152) : hI (rs1 v h) 51 j = hI h 51 (6232 + j) := by
  unfold rs1
  rw [hI_ne (by omega), hI_sA, if_pos rfl, if_pos hj]
theorem agc_rs1 : AgC h (rs1 v h) := by
  unfold rs1
  exact agc_sI (agc_sA agc_rfl (by omega)) (by omega)
theorem ldm_o {k : Nat} (h1 : ¬ (o = 49 ∧ (k = 4 ∨ k = 30 ∨ k = 31 ∨ k = 32 ∨ k = 33 ∨ k = 34 ∨ k = 40 ∨ k = 42))) (h2 : ¬ (o = 62 ∧ k = 0)) (h3 : ¬ o = 73) : hI (ldM h) o k = hI h o k := by
  unfold ldM
  rw [hI_sA, if_neg h3, hI_ne (by omega), hI_ne (by omega), hI_ne (by omega), hI_ne (by omega), hI_ne (by omega), hI_ne (by omega), hI_ne (by omega), hI_ne (by omega), hI_ne (by omega)]
theorem ldm_49 : hI (ldM h) 49 4 = 1 ∧ hI (ldM h) 49 30 = 0 ∧ hI (ldM h) 49 31 = 0 ∧ hI (ldM h) 49 32 = 0 ∧ hI (ldM h) 49 33 = 0 ∧ hI (ldM h) 49 34 = 0 ∧ hI (ldM h) 49 40 = 0 ∧ hI (ldM h) 49 42 = 0 := by
  unfold ldM
  refine ⟨?_, ?_, ?_, ?_, ?_, ?_, ?_, ?_⟩
  · rw [hI_sA, if_neg (by decide), hI_ne (by decide), hI_ne (by decide), hI_ne (by decide), hI_ne (by decide), hI_ne (by decide), hI_ne (by decide), hI_ne (by decide), hI_ne (by decide), hI_is]
  · rw [hI_sA, if_neg (by decide), hI_ne (by decide), hI_ne (by decide), hI_ne (by decide), hI_ne (by decide), hI_ne (by decide), hI_ne (by decide), hI_ne (by decide), hI_is]
  · rw [hI_sA, if_neg (by decide), hI_ne (by decide), hI_ne (by decide), hI_ne (by decide), hI_ne (by decide), hI_ne (by decide), hI_ne (by decide), hI_is]
  · rw [hI_sA, if_neg (by decide), hI_ne (by decide), hI_ne (by decide), hI_ne (by decide), hI_ne (by decide), hI_ne (by decide), hI_is]
  · rw [hI_sA, if_neg (by decide), hI_ne (by decide), hI_ne (by decide), hI_ne (by decide), hI_is]
  · rw [hI_sA, if_neg (by decide), hI_ne (by decide), hI_ne (by decide), hI_is]
  · rw [hI_sA, if_neg (by decide), hI_ne (by decide), hI_is]
  · rw [hI_sA, if_neg (by decide), hI_is]
theorem ldm_73 (hl : l < 40) : hI (ldM h) 73 l = 0 := by
  unfold ldM
  rw [hI_sA, if_pos rfl, if_pos hl]
theorem agc_ldm : AgC h (ldM h) := by
  unfold ldM
  exact agc_sA (agc_sI (agc_sI (agc_sI (agc_sI (agc_sI (agc_sI (agc_sI (agc_sI (agc_sI agc_rfl (by omega)) (by omega)) (by omega)) (by omega)) (by omega)) (by omega)) (by omega)) (by omega)) (by omega)) (by omega)
theorem ldh_KL : hN (ldH pg g) = hN g ∧ hU (ldH pg g) = hU g ∧ ∀ o, hK (ldH pg g) o = hK g o ∧ hL (ldH pg g) o = hL g o := by
  unfold ldH
  generalize hz : sI (fgH 12 (sR (sI g 4 1 0) 3 6 (some pg))) 46 1 0 = z
  have e1 : hN z = hN g ∧ hU z = hU g := by subst hz; exact ⟨rfl, rfl⟩
  have e2 : ∀ o, hK z o = hK g o ∧ hL z o = hL g o := fun o => by subst hz; exact ⟨rfl, rfl⟩
  refine ⟨?_, ?_, fun o => ⟨?_, ?_⟩⟩
  · rw [hN_sI, hN_sI, (nu_N 40 0 z).1]; exact e1.1
  · rw [hU_sI, hU_sI, (nu_N 40 0 z).2]; exact e1.2
  · rw [hK_sI, hK_sI, nu_K]; exact (e2 o).1
  · rw [hL_sI, hL_sI, nu_L]; exact (e2 o).2
theorem ldh_I {k : Nat} (h3 : ¬ o = 3) (h4 : ¬ o = 4) (h12 : ¬ o = 12) (h27 : ¬ o = 27) (h46 : ¬ o = 46) : hI (ldH pg g) o k = hI g o k := by
  unfold ldH
  rw [hI_ne (by omega), hI_ne (by omega), nu_I]
  unfold fgH
  rw [hI_ne (by omega), hI_ne (by omega), hI_ne (by omega), hI_ne (by omega), hI_ne (by omega), hI_ne (by omega), hI_ne (by omega), hI_sR, hI_ne (by omega)]
theorem ldh_v : hI (ldH pg g) 4 1 = 0 ∧ hI (ldH pg g) 3 7 = 0 ∧ hI (ldH pg g) 3 8 = 0 ∧ hI (ldH pg g) 12 4 = 0 ∧ hI (ldH pg g) 12 5 = 0 ∧ hI (ldH pg g) 12 6 = 0 ∧ hI (ldH pg g) 12 8 = 0 ∧ hI (ldH pg g) 27 1 = 0 ∧ hI (ldH pg g) 46 1 = 0 := by
  unfold ldH
  refine ⟨?_, ?_, ?_, ?_, ?_, ?_, ?_, ?_, ?_⟩
  · rw [hI_ne (by decide), hI_ne (by decide), nu_I]
    unfold fgH
    rw [hI_ne (by decide), hI_ne (by decide), hI_ne (by decide), hI_ne (by decide), hI_ne (by decide), hI_ne (by decide), hI_ne (by decide), hI_sR, hI_is]
  · rw [hI_ne (by decide), hI_is]
  · rw [hI_is]
  · rw [hI_ne (by decide), hI_ne (by decide), nu_I]
    unfold fgH
    rw [hI_ne (by decide), hI_ne (by decide), hI_ne (by decide), hI_ne (by decide), hI_ne (by decide), hI_ne (by decide), hI_is]
  · rw [hI_ne (by decide), hI_ne (by decide), nu_I]
    unfold fgH
    rw [hI_ne (by decide), hI_ne (by decide), hI_ne (by decide), hI_ne (by decide), hI_ne (by decide), hI_is]
  · rw [hI_ne (by decide), hI_ne (by decide), nu_I]
    unfold fgH
    rw [hI_ne (by decide), hI_ne (by decide), hI_ne (by decide), hI_ne (by decide), hI_is]
  · rw [hI_ne (by decide), hI_ne (by decide), nu_I]
    unfold fgH
    rw [hI_ne (by decide), hI_ne (by decide), hI_is]
  · rw [hI_ne (by decide), hI_ne (by decide), nu_I]
    unfold fgH
    rw [hI_ne (by decide), hI_is]
  · rw [hI_ne (by decide), hI_ne (by decide), nu_I, hI_is]
theorem ldh_R {k : Nat} : hR (ldH pg g) o k = if o = 48 ∧ k < 40 then none else if o = 3 ∧ k = 6 then some pg else hR g o k := by
  unfold ldH
  rw [hR_sI, hR_sI, nu_R]
  by_cases e : o = 48 ∧ k < 40
  · rw [if_pos (by omega), if_pos e]
  · rw [if_neg (by omega), if_neg e]
    unfold fgH
    rw [hR_sI, hR_sI, hR_sI, hR_sI, hR_sI, hR_sI, hR_sI, hR_sR]
    rfl
/-- kinds, lengths, references are the same -/
def KLR (h g : Hp) : Prop := ∀ o, hK g o = hK h o ∧ hL g o = hL h o ∧ ∀ k, hR g o k = hR h o k
theorem klr_tr (h1 : KLR hm hm1) (h2 : KLR hm1 hm2) : KLR hm hm2 := fun o => ⟨(h2 o).1.trans (h1 o).1, (h2 o).2.1.trans (h1 o).2.1, fun k => ((h2 o).2.2 k).trans ((h1 o).2.2 k)⟩
theorem klr_sI {a k : Nat} (h1 : KLR h g) : KLR h (sI g a k v) := fun o => ⟨(hK_sI g a k v o).trans (h1 o).1, (hL_sI g a k v o).trans (h1 o).2.1, fun j => (hR_sI g a k v o j).trans ((h1 o).2.2 j)⟩
theorem klr_sA {a : Nat} {f : Nat → Int32} (h1 : KLR h g) : KLR h (sA g a f) := fun o => ⟨(hK_sA g a f o).trans (h1 o).1, (hL_sA g a f o).trans (h1 o).2.1, fun j => (hR_sA g a f o j).trans ((h1 o).2.2 j)⟩
theorem klr_rfl : KLR h h := fun _ => ⟨rfl, rfl, fun _ => rfl⟩
theorem klr_ld2 : KLR h (ld2 n h) := by
  unfold ld2 cpH ld1
  exact klr_sI (klr_sI (klr_sA (klr_sA klr_rfl)))
theorem klr_rd : KLR h (kH (hH h By ay Bk Q) u Bg F G) := by
  unfold kH eH kB hH
  exact klr_sA (klr_sA (klr_sA (klr_sA (klr_sA (klr_sA (klr_sI (klr_sA (klr_sA (klr_sA (klr_sA klr_rfl))))))))))
theorem klr_rs1 {w : Int32} : KLR h (rs1 w h) := by
  unfold rs1
  exact klr_sI (klr_sA klr_rfl)
theorem klr_ldm : KLR h (ldM h) := by
  unfold ldM
  exact klr_sA (klr_sI (klr_sI (klr_sI (klr_sI (klr_sI (klr_sI (klr_sI (klr_sI (klr_sI klr_rfl)))))))))
theorem mo_klr (h1 : KLR hm hm1) (hO : MO hm) : MO hm1 := mo_ag (hm := hm) (fun o _ _ => h1 o) hO
theorem txt_use (hv : INV i hc hm) {n : Nat} (b1 : n ≤ 150) (b4 : ∀ j, j < n → hI hm 50 j = hI hc 5 j ∧ 32 ≤ hI hc 5 j ∧ hI hc 5 j ≤ 126) : (∀ j, j < n → 32 ≤ hI hm 50 j ∧ hI hm 50 j ≤ 126) ∧ TX (tS hm n) n ∧ TC (tS hm n) (hI hc 5) n := by
  have hct : ∀ j, j < n → 32 ≤ hI hm 50 j ∧ hI hm 50 j ≤ 126 := fun j hj => by
    obtain ⟨q1, q2, q3⟩ := b4 j hj
    rw [q1]; exact ⟨q2, q3⟩
  exact ⟨hct, tS_TX b1 hct, b1, fun p hp => by unfold tS; rw [if_pos hp]; exact (b4 p hp).1, fun p hp => if_neg (by omega)⟩
theorem st0_sp : St0 (sp0 h) := ⟨rfl, rfl, rfl, fun f hf => ⟨if_pos hf, if_pos hf⟩⟩
theorem tS_nar (hct : ∀ j, j < n → 32 ≤ hI hm 50 j ∧ hI hm 50 j ≤ 126) (j : Nat) : vp_nar .char (tS hm n j) = tS hm n j := by
  unfold tS
  by_cases e : j < n
  · rw [if_pos e]; exact ch_nar (hct j e).1 (hct j e).2
  · rw [if_neg e]; decide
/-- a text that is taken -/
theorem ld_yes (hv : INV i hc hm) (b1 : n ≤ 150) (b2 : hI hc 4 1 = nI n) (b3 : hI hm 49 0 = nI n) (b4 : ∀ j, j < n → hI hm 50 j = hI hc 5 j ∧ 32 ≤ hI hc 5 j ∧ hI hc 5 j ≤ 126) (ha : cAcc n (cProgL n (hI hc 5) 4 (sp0 hc))) : ∃ a hc2 hm2, Rn xs L (d + 60) 52 [.inr (some 3)] hc (a, hc2) ∧ Rn xs L (d + 60) 89 [.inr (some 49)] hm (a, hm2) ∧ INV (i + 1) hc2 hm2 ∧ AgM hc hc2 ∧ AgC hm hm2 := by
  obtain ⟨hct, hTX, hTC⟩ := txt_use hv b1 b4
  obtain ⟨⟨a1, a2, a3, a4, a5, a6, a7, a8⟩, -, -, ⟨mn, n1, n2, n3, n4⟩, ⟨uo, o1, o2, o3, o4⟩, ⟨-, -, -, s29, s5, ⟨ln, s6⟩, s7⟩, -⟩ := hv
  have hT0 := t0_mk a1 a4 b1 b2 (fun j hj => (b4 j hj).2)
  -- the desk's side
  obtain ⟨g, g1, g2, g3, g4, g5⟩ := t_rp_acc (xs := xs) (L := L) (d := d) hT0 a5 ha
  have hbd := bd_progl (n := n) (tx := hI hc 5) 4 (sp0 hc) (bd_st0 st0_sp) ha.1
  have sm : ∀ o, o < hN hc → ¬ (6 ≤ o ∧ o < 12) → Sm1 hc g o := fun o ho hn => by
    obtain ⟨z1, z2, z3, z4⟩ := g2 o ho
    exact sm1_tr (th_sm (n := n) (s := (cProgL n (hI hc 5) 4 (sp0 hc)).2) hn) ⟨z1, z2, z4, z3⟩
  have kl : ∀ o, o < hN hc → hK g o = hK hc o ∧ hL g o = hL hc o := fun o ho => by
    obtain ⟨z1, z2, z3, z4⟩ := g2 o ho
    exact ⟨z1, z2⟩
  have tsg : TSh g := by
    refine kp_tsh (N := 12) (by decide) (fun o q1 q2 => ?_) (ra_th (n := n) (s := (cProgL n (hI hc 5) 4 (sp0 hc)).2) a4)
    obtain ⟨z1, z2, z3, z4⟩ := g2 o (by omega)
    exact ⟨z1, z2, z4⟩
  have dg : DK g := dk_ag (hc := hc) (fun o ho => kl o (by omega)) (fun k _ => (sm 3 (by omega) (by decide)).2.2.1 k) ((sm 4 (by omega) (by decide)).2.2.1 0) ((sm 46 (by omega) (by decide)).2.2.1 0) a1
  have mg : MI 12 g := mi_same (h := hc) (fun o q1 q2 => ⟨(sm o (by omega) (by omega)).1, (sm o (by omega) (by omega)).2.1, (sm o (by omega) (by omega)).2.2.1⟩) a2
  have mg2 : MI 29 g := mi_same (h := hc) (fun o q1 q2 => ⟨(sm o (by omega) (by omega)).1, (sm o (by omega) (by omega)).2.1, (sm o (by omega) (by omega)).2.2.1⟩) a3
  have rc := d_load (xs := xs) (L := L) (d := d + 57) a1 a4.1.1 (rn_le (by omega) g1) dg mg a5 g5.1.1 g5.2.2.1
  obtain ⟨l1, l2, l3⟩ := ldh_KL (g := g) (pg := hN hc)
  have lR : ∀ o k, ¬ o = 48 → ¬ (o = 3 ∧ k = 6) → hR (ldH (hN hc) g) o k = hR g o k := fun o k q1 q2 => by rw [ldh_R, if_neg (by omega), if_neg q2]
  have lI : ∀ o k, ¬ o = 3 → ¬ o = 4 → ¬ o = 12 → ¬ o = 27 → ¬ o = 46 → hI (ldH (hN hc) g) o k = hI g o k := fun o k q1 q2 q3 q4 q5 => ldh_I q1 q2 q3 q4 q5
  obtain ⟨w1, w2, w3, w4, w5, w6, w7, w8, w9⟩ := ldh_v (g := g) (pg := hN hc)
  have pro : PRO (ldH (hN hc) g) (hN hc) _ _ _ _ _ _ := pro_fr (hc := g) g5 (fun o q1 q2 => ⟨(l3 o).1, (l3 o).2, fun k => lR o k (by omega) (by omega), fun k => lI o k (by omega) (by omega) (by omega) (by omega) (by omega)⟩)
  -- the model's side
  obtain ⟨By, ay, Bk, Q, u, Bg, F, G, p1, p2, bd, ⟨t1, t2, t3, t4⟩, p3, p4, p5⟩ := m_prog_acc (xs := xs) (L := L) (d := d) (h := ld2 n hm) (s := sp0 hc) (ln := ln) (mo_klr klr_ld2 a8) (fun j hj => by rw [ld2_51, if_pos hj]) hTX hTC ld2_3 ((ld2_o (by decide) (by decide)).trans s6) (fun f hf => by rw [ld2_o (by decide) (by omega)]; exact s5 f hf) st0_sp ha
  generalize hme : kH (hH (ld2 n hm) By ay Bk Q) u Bg F G = hm1 at *
  have O1 : MO hm1 := by subst hme; exact mo_klr klr_rd (mo_klr klr_ld2 a8)
  have O2 : MO (ldM hm1) := mo_klr klr_ldm O1
  have e57 : ∀ f, hI hm1 57 f = ay f := fun f => by subst hme; exact kH_57.trans hH_57
  have e53 : hI hm1 53 = u.1 := by subst hme; exact funext (fun k => kH_53)
  have e54 : hI hm1 54 = u.2.1 := by subst hme; exact funext (fun k => kH_54)
  have e55 : hI hm1 55 = u.2.2.1 := by subst hme; exact funext (fun k => kH_55)
  have e52 : hI hm1 52 = Q := by subst hme; exact funext (fun k => rd_52)
  have eo : ∀ o k, ¬ (52 ≤ o ∧ o ≤ 61) → ¬ (o = 49 ∧ k = 5) → hI hm1 o k = hI (ld2 n hm) o k := fun o k q1 q2 => by subst hme; exact rd_o q1 q2
  have em : ∀ o k, ¬ (52 ≤ o ∧ o ≤ 61) → ¬ (o = 49 ∧ (k = 5 ∨ k = 0 ∨ k = 3)) → ¬ o = 51 → hI hm1 o k = hI hm o k := fun o k q1 q2 q3 => (eo o k q1 (by omega)).trans (ld2_o q3 (by omega))
  have e51 : ∀ j, j < 152 → hI hm1 51 j = tS hm n j := fun j hj => by rw [eo _ _ (by omega) (by omega), ld2_51, if_pos hj]
  have rm := m_load_yes (xs := xs) (L := L) (d := d + 58) (n := n) a8 b3 b1 hct s7 (rn_le (by omega) p1) O1
  have cg : AgC hm (ldM hm1) := by
    subst hme
    exact agc_tr agc_ld2 (agc_tr agc_rd agc_ldm)
  obtain ⟨k1, k2, k3, k4, k5, k6, k7, k8⟩ := ldm_49 (h := hm1)
  rw [t3] at rm
  rw [e53, e54, e55, e52] at t4
  have hP : PDok (tS hm n, n, hI hc 5, sp0 hc, u.1, u.2.1, u.2.2.1, Q, bd) := by
    refine ⟨hTX, hTC, st0_sp, ha, fun f hf => ⟨(t1 f hf).2, ?_⟩, t4⟩
    have hr := t2 f hf
    rw [e57] at hr
    obtain ⟨k, z1, z2⟩ := p2 f hf
    rw [z2] at hr
    show aP (cProgL n (hI hc 5) 4 (sp0 hc)).2 f = -1 ↔ bd f = 0
    rw [hr]
    by_cases c : bd f = 0
    · rw [if_pos c]; exact ⟨fun _ => c, fun _ => rfl⟩
    · rw [if_neg c]
      refine ⟨fun z => absurd z ?_, fun z => absurd z c⟩
      have : k = 0 ∨ k = 1 ∨ k = 2 ∨ k = 3 := by omega
      rcases this with e | e | e | e <;> subst e <;> decide
  have hH : HPD (ldM hm1) (tS hm n, n, hI hc 5, sp0 hc, u.1, u.2.1, u.2.2.1, Q, bd) := by
    refine ⟨?_, fun j hj => ?_, fun f hf => ?_, fun f hf h0 => ?_, ?_, fun k => ?_, fun k => ?_, fun k => ?_, fun k => ?_⟩
    · rw [ldm_o (by decide) (by decide) (by decide), eo _ _ (by decide) (by decide), ld2_3]; rfl
    · rw [ldm_o (by omega) (by omega) (by omega)]; exact e51 j hj
    · rw [ldm_o (by omega) (by omega) (by omega)]; exact (t1 f hf).1
    · rw [ldm_o (by omega) (by omega) (by omega)]
      have hr := t2 f hf
      have h0 : 0 < bd f := h0
      rw [if_neg (by omega)] at hr
      exact hr.symm
    · rw [ldm_o (by decide) (by decide) (by decide)]; exact t3
    · rw [ldm_o (by omega) (by omega) (by omega), e53]; rfl
    · rw [ldm_o (by omega) (by omega) (by omega), e54]; rfl
    · rw [ldm_o (by omega) (by omega) (by omega), e55]; rfl
    · rw [ldm_o (by omega) (by omega) (by omega), e52]; rfl
  refine ⟨_, _, _, rc, rm, ⟨⟨dk_ag (hc := g) (fun o _ => l3 o) (fun k hk => lR 3 k (by decide) (by omega)) (lR 4 0 (by decide) (by decide)) (lR 46 0 (by decide) (by decide)) dg, mi_same (h := g) (fun o q1 q2 => ⟨(l3 o).1, (l3 o).2, fun k => lR o k (by omega) (by omega)⟩) mg, mi_same (h := g) (fun o q1 q2 => ⟨(l3 o).1, (l3 o).2, fun k => lR o k (by omega) (by omega)⟩) mg2, kp_tsh (h := g) (N := 12) (by decide) (fun o q1 q2 => ⟨(l3 o).1, (l3 o).2, fun k => lR o k (by omega) (by omega)⟩) tsg, by rw [l1, g3]; omega, by rw [l1, g3]; omega, ?_, O2⟩, ⟨0, by decide, w1, ?_, fun j hj => absurd hj (by omega)⟩, ⟨w2.trans k5.symm, Or.inl w2, w3.trans k6.symm⟩, ⟨0, Nat.zero_le _, w9, k8, fun k hk => ?_⟩, ⟨0, Nat.zero_le _, w8, k7, fun k hk => ?_⟩, ⟨k2.trans w4.symm, k3.trans w5.symm, k4.trans w7.symm, ?_, fun f hf => ?_, ?_, fun j hj => ?_⟩, Or.inr ⟨(tS hm n, n, hI hc 5, sp0 hc, u.1, u.2.1, u.2.2.1, Q, bd), hN hc, ⟨hP, ?_, hH, ?_, a5, by rw [l1, g3]; omega, pro, k1⟩, fun l hl => Or.inl ⟨by rw [ldh_R, if_pos ⟨rfl, hl⟩], ldm_73 hl⟩, fun l l2 o q1 q2 q3 q4 => ?_, Or.inr ⟨Or.inl w4, w6⟩⟩⟩, fun o q1 q2 => ?_, cg⟩
  · have hz : (cProgL n (hI hc 5) 4 (sp0 hc)).2.2.1 ≤ 151 := hbd.2.1
    rw [l2, g4]
    omega
  · rw [ldm_o (by decide) (by decide) (by decide), eo _ _ (by decide) (by decide)]; exact ld2_0
  · rw [lI 47 k (by decide) (by decide) (by decide) (by decide) (by decide), (sm 47 (by omega) (by decide)).2.2.2 k, ldm_o (by omega) (by omega) (by omega), em 79 k (by omega) (by omega) (by omega)]
    exact n4 k hk
  · rw [lI 28 k (by decide) (by decide) (by decide) (by decide) (by decide), (sm 28 (by omega) (by decide)).2.2.2 k, ldm_o (by omega) (by omega) (by omega), em 78 k (by omega) (by omega) (by omega)]
    exact o4 k hk
  · rw [ldm_o (by decide) (by decide) (by decide), em 49 29 (by decide) (by decide) (by decide)]; exact s29
  · rw [ldm_o (by omega) (by omega) (by omega), e57]; exact p2 f hf
  · exact ⟨_, (ldm_o (by decide) (by decide) (by decide)).trans t3⟩
  · rw [ldm_o (by omega) (by omega) (by omega), e51 j hj]; exact tS_nar hct j
  · exact ⟨_, _, ay, u0 (ld2 n hm), u, p4, p5, rfl, fun j hj => if_pos hj, rfl, rfl, rfl⟩
  · rw [ldh_R, if_neg (by decide), if_pos ⟨rfl, rfl⟩]
  · rw [ldh_R, if_pos ⟨rfl, q1⟩] at q3
    cases q3
  · exact sm1_tr (sm o (by omega) (by omega)) ⟨(l3 o).1, (l3 o).2, fun k => lR o k (by omega) (by omega), fun k => lI o k (by omega) (by omega) (by omega) (by omega) (by omega)⟩
end CL1

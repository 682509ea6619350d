-- THE RUN: states; a value is there
def StA (g : CTX) (u : Nat) (hc hm : Hp) (q b M p i : Nat) (hd oh : Int32) : Prop := TP g hc hm q b M ∧ ESt g u hc hm ∧ fl g q = false ∧ gFR g p i hd oh ∧ hI hc (g.u + (2 + 2 * q)) 2 = nI i ∧ hI hm 64 (6 * g.m + q) = nI p ∧ hI hc g.u 7 = nI b ∧ hI hm 49 27 = 0
def StB (g : CTX) (u : Nat) (hc hm : Hp) (q b M : Nat) (lv : LV) (st : List LV) (p e : Nat) (J : List Int32) (i : Nat) : Prop := TP g hc hm q b M ∧ ESt g u hc hm ∧ XF g hc hm q b true p lv st e J i ∧ AF g hc hm q i e (i + J.length) ∧ hI hc g.u 7 = nI (b + off (lv :: st)) ∧ hI hm 49 27 = 1
def StC (g : CTX) (u : Nat) (hc hm : Hp) (q b M : Nat) (lv : LV) (st : List LV) (p e : Nat) (J : List Int32) (i : Nat) (v : Int32) : Prop := TP g hc hm q b M ∧ ESt g u hc hm ∧ XF g hc hm q b false p lv st e J i ∧ AF g hc hm q i e (i + J.length) ∧ hI hc g.u 7 = nI (b + off (lv :: st) + 1) ∧ hI hc (g.u + 14) (b + off (lv :: st)) = v ∧ hI hm 49 28 = v ∧ hI hm 49 27 = 2
section RF
variable {xs : Nat → Int32} {L d : Nat} {g : CTX} {hc hm hc2 hm2 : Hp} {q b M : Nat} {u : Nat}
theorem uc_w {μ : Nat} (h : UC μ q b hc hc2) : UC μ 0 0 hc hc2 := ⟨h.1, h.2.1, h.2.2.1, fun o k => (h.2.2.2.1 o k).imp id (fun ⟨z1, j, z2, z3, z4⟩ => ⟨z1, j, by omega, z3, z4⟩), fun o k => (h.2.2.2.2 o k).imp id (fun z => owc_le z (by omega) (by omega))⟩
theorem um_w {m : Nat} (h : UM m q hm hm2) : UM m 0 hm hm2 := ⟨h.1, h.2.1, h.2.2.1, h.2.2.2.1, fun o k => (h.2.2.2.2 o k).imp id (fun z => owm_le z (by omega))⟩
theorem uc_f {μ k : Nat} {v : Int32} (hq : q < 6) (h : UC μ q b hc hc2) : UC μ q b hc (sI hc2 (μ + (2 + 2 * q)) k v) := uc_sI h (Or.inr (Or.inr (Or.inr (Or.inl ⟨q, Nat.le_refl _, hq, Or.inl rfl⟩))))
theorem uc_x {μ k : Nat} {v : Int32} (hq : q < 6) (h : UC μ q b hc hc2) : UC μ q b hc (sI hc2 (μ + (3 + 2 * q)) k v) := uc_sI h (Or.inr (Or.inr (Or.inr (Or.inl ⟨q, Nat.le_refl _, hq, Or.inr rfl⟩))))
theorem uc_u {μ k : Nat} {v : Int32} (h : UC μ q b hc hc2) (hk : ¬ k = 5 ∧ ¬ k = 8 := by decide) : UC μ q b hc (sI hc2 μ k v) := uc_sI h (Or.inl ⟨rfl, hk.1, hk.2⟩)
theorem uc_v {μ k : Nat} {v : Int32} (hk : b ≤ k) (h : UC μ q b hc hc2) : UC μ q b hc (sI hc2 (μ + 14) k v) := uc_sI h (Or.inr (Or.inr (Or.inr (Or.inr ⟨rfl, hk⟩))))
theorem tp_mk (hP : PU g) (hT : TP g hc hm q b M) (h1 : UC g.u q b hc hc2) (h2 : UM g.m q hm hm2) (e1 : hI hc2 g.u 6 = hI hc g.u 6) (e2 : hI hm2 62 g.m = hI hm 62 g.m) (e3 : FV g hc2 hm2 q) (e4 : hI hc2 (g.u + (2 + 2 * q)) 3 = hI hc (g.u + (2 + 2 * q)) 3) : TP g hc2 hm2 q b M := by
  obtain ⟨t1, t2, t3, t4, t5, t6, t7, t8⟩ := hT
  exact ⟨sc_uc hP h1 t1, sm_um h2 t2, t3, e1.trans t4, e2.trans t5, low_uc q b M _ _ _ _ (by omega) h1 h2 t6, e3, fun z => e4.trans (t8 z)⟩
theorem es_same (hE : ESt g u hc hm) (e1 : hI hc2 (g.u + 15) 1 = hI hc (g.u + 15) 1) (e2 : ∀ k, hI hc2 (g.u + 16) k = hI hc (g.u + 16) k) (e3 : hI hc2 g.u 9 = hI hc g.u 9) (e4 : hI hm2 49 40 = hI hm 49 40) (e5 : ∀ k, hI hm2 78 k = hI hm 78 k) (e6 : hI hm2 49 29 = hI hm 49 29) : ESt g u hc2 hm2 := by
  obtain ⟨a1, a2, a3⟩ := hE
  exact ⟨e1.trans a1, fun z => ⟨e4.trans (a2 z).1, fun k hk => by rw [e2, e5]; exact (a2 z).2.1 k hk, fun y => by rw [e3, e6]; exact (a2 z).2.2 y⟩, by rw [e6]; exact a3⟩
theorem fv_same (h : FV g hc hm q) (e0 : hR hc2 (g.u + (2 + 2 * q)) 1 = hR hc (g.u + (2 + 2 * q)) 1) (e1 : ∀ v, hI hc2 (g.u + (3 + 2 * q)) v = hI hc (g.u + (3 + 2 * q)) v) (e2 : ∀ v, v < 6 → hI hm2 66 (6 * (6 * g.m + q) + v) = hI hm 66 (6 * (6 * g.m + q) + v)) (e3 : hI hc2 (g.u + (2 + 2 * q)) 4 = hI hc (g.u + (2 + 2 * q)) 4) (e4 : hI hm2 63 (6 * g.m + q) = hI hm 63 (6 * g.m + q)) : FV g hc2 hm2 q := by
  obtain ⟨a1, a2, a3⟩ := h
  exact ⟨e0.trans a1, fun v hv => by rw [e1, e2 v hv]; exact a2 v hv, fun z => by rw [e3, e4]; exact a3 z⟩
theorem af_same {i e ie i2 : Nat} (hi : i ≤ i2) (h : AF g hc hm q i e ie) (e1 : hI hm2 65 (6 * g.m + q) = hI hm 65 (6 * g.m + q)) (e2 : hI hc2 (g.u + (2 + 2 * q)) 5 = hI hc (g.u + (2 + 2 * q)) 5) : AF g hc2 hm2 q i2 e ie := by
  rcases h with h | ⟨h3, pl, hd, oh, a1, a2, a3, a4, a5, a6⟩
  · exact Or.inl h
  · exact Or.inr ⟨h3, pl, hd, oh, e1.trans a1, a2, e2.trans a3, a4, fun k h1 h2 => a5 k (by omega) h2, a6⟩
theorem af_z {i e ie : Nat} (h : AF g hc hm q i e ie) : ie < gz g (fl g q) := by
  rcases h with ⟨h1, h2, h3⟩ | ⟨h1, pl, hd, oh, a1, a2, a3, a4, a5, a6, a7⟩
  · rw [h1]; exact h3.1
  · rw [h1]; exact a6
theorem tp_x (hP : PU g) (hT : TP g hc hm q b M) {lv : LV} {st : List LV} (hW : WL g.ar (lv :: st)) (hl : st.length ≤ 5) : b + off (lv :: st) ≤ 96 := by
  have h1 := (low_b q b M hT.2.2.2.2.2.1).1
  have h2 := off_le _ hW
  have h3 := hT.2.2.1
  rw [List.length_cons] at h2
  omega
/-- a term's value is pushed -/
theorem b_val (hP : PU g) {lv : LV} {st : List LV} {p e i p2 : Nat} {w v : Int32} {J : List Int32} (hB : StB g u hc hm q b M lv st p e (w :: J) i) (hs : sm g.ar (gT g (fl g q)) p2 false lv st = some (e, J)) (hp2 : p2 ≤ gn g (fl g q)) : StC g u (puH g.u (b + off (lv :: st)) v (sI hc (g.u + (2 + 2 * q)) 2 (nI (i + 1)))) (sI (sI (sI hm 64 (6 * g.m + q) (nI (gb g (fl g q) + p2))) 49 27 2) 49 28 v) q b M lv st p2 e J (i + 1) v ∧ UC g.u q b hc (puH g.u (b + off (lv :: st)) v (sI hc (g.u + (2 + 2 * q)) 2 (nI (i + 1)))) ∧ UM g.m q hm (sI (sI (sI hm 64 (6 * g.m + q) (nI (gb g (fl g q) + p2))) 49 27 2) 49 28 v) := by
  obtain ⟨hT, hE, hX, hA, h7, h27⟩ := hB
  obtain ⟨x1, x2, x3, x4, x5, x6, x7, x8, x9, x10⟩ := hX
  have hq := hT.2.2.1
  have h1 : UC g.u q b hc (puH g.u (b + off (lv :: st)) v (sI hc (g.u + (2 + 2 * q)) 2 (nI (i + 1)))) := uc_u (uc_v (by omega) (uc_f hq uc_rfl))
  have h2 : UM g.m q hm (sI (sI (sI hm 64 (6 * g.m + q) (nI (gb g (fl g q) + p2))) 49 27 2) 49 28 v) := um_sI (um_sI (um_sI um_rfl (by unfold OwM; omega)) (by unfold OwM; omega)) (by unfold OwM; omega)
  have hl : (w :: J).length = J.length + 1 := rfl
  unfold puH at h1 ⊢
  refine ⟨⟨tp_mk hP hT h1 h2 ?_ ?_ (fv_same hT.2.2.2.2.2.2.1 rfl (fun k => ?_) (fun k _ => ?_) ?_ ?_) ?_, es_same hE ?_ (fun k => ?_) ?_ ?_ (fun k => ?_) ?_, ⟨hs, x2.2, hp2, x4, x5, lr_congr _ (fun k hk => ?_) (fun o k ho hk => ?_) (fun k hk => ?_) (fun l hl => by have := wl_seen _ x5 l hl; omega) x6, ?_, ?_, ?_, ?_⟩, ?_, ?_, ?_, ?_, ?_⟩, h1, h2⟩
  · rw [hI_ne (by omega), hI_ne (by omega), hI_ne (by omega)]
  · rw [hI_ne (by omega), hI_ne (by omega), hI_ne (by omega)]
  · rw [hI_ne (by omega), hI_ne (by omega), hI_ne (by omega)]
  · rw [hI_ne (by omega), hI_ne (by omega), hI_ne (by omega)]
  · rw [hI_ne (by omega), hI_ne (by omega), hI_ne (by omega)]
  · rw [hI_ne (by omega), hI_ne (by omega), hI_ne (by omega)]
  · rw [hI_ne (by omega), hI_ne (by omega), hI_ne (by omega)]
  · rw [hI_ne (by omega), hI_ne (by omega), hI_ne (by omega)]
  · rw [hI_ne (by omega), hI_ne (by omega), hI_ne (by omega)]
  · rw [hI_ne (by omega), hI_ne (by omega), hI_ne (by omega)]
  · rw [hI_ne (by omega), hI_ne (by omega), hI_ne (by omega)]
  · rw [hI_ne (by omega), hI_ne (by omega), hI_ne (by omega)]
  · rw [hI_ne (by omega), hI_ne (by omega), hI_ne (by omega)]
  · rw [hI_ne (by omega), hI_ne (by omega), hI_ne (by omega)]
  · rw [hI_ne (by omega), hI_ne (by omega), hI_ne (by omega)]
  · rw [hI_ne (by omega), hI_ne (by omega), hI_ne (by omega)]
  · rw [hI_ne (by omega), hI_ne (by omega), hI_is]
  · rw [hI_ne (by omega), hI_ne (by omega), hI_ne (by omega)]; exact x8
  · rw [hI_ne (by omega), hI_ne (by omega), hI_is]
  · intro z; rw [hI_ne (by omega), hI_ne (by omega), hI_ne (by omega)]; exact x10 z
  · rw [show i + 1 + J.length = i + (w :: J).length by rw [hl]; omega]
    refine af_same (by omega) hA ?_ ?_
    · rw [hI_ne (by omega), hI_ne (by omega), hI_ne (by omega)]
    · rw [hI_ne (by omega), hI_ne (by omega), hI_ne (by omega)]
  · rw [hI_is]
  · rw [hI_ne (by omega), hI_is]
  · rw [hI_is]
  · rw [hI_ne (by omega), hI_is]
end RF

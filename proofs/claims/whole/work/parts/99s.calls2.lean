-- CALLS: watch, write
section CM
variable {xs : Nat → Int32} {L d i : Nat} {h hc hm hc2 hm2 : Hp} {x : PDt} {pg B B2 l o : Nat} {ar : Nat → Int32}
/-- what breaks and places need of the model -/
def EqB (h h2 : Hp) : Prop := (∀ o l, (o = 73 ∨ o = 74 ∨ o = 75 ∨ o = 76 ∨ o = 77) → l < 40 → hI h2 o l = hI h o l) ∧ ∀ j, 152 ≤ j → j < 6232 → hI h2 51 j = hI h 51 j
theorem ldd_fr (hl : LDD B hc hm) (hB : B ≤ B2) (hO2 : MO hm2) (hO : Old hc hc2) (h36 : hR hc2 3 6 = hR hc 3 6) (h48 : ∀ l, hR hc2 48 l = hR hc 48 l) (h12 : ∀ o, 12 ≤ o → o < 29 → Sm1 hc hc2 o) (hE : EqT hm hm2) (hM : EqM hm hm2) (hEB : EqB hm hm2) : LDD B2 hc2 hm2 := by
  obtain ⟨x, pg, g1, g2, g3, g4⟩ := hl
  have hp := g1.2.2.2.2.1
  have hp2 := g1.2.2.2.2.2.1
  refine ⟨x, pg, prg_fr g1 hO h36 hE, fun l hl => brk_fr (g2 l hl) hB hO (h48 l) (fun o ho => hEB.1 o l ho hl) (fun j hj => hEB.2 _ (by omega) (by omega)), fun l l2 o q1 q2 q3 q4 => g3 l l2 o q1 q2 ((h48 l).symm.trans q3) ((h48 l2).symm.trans q4), run_fr g1 hO2 hE g4 (fun o ho => ?_) hM⟩
  rcases ho with ⟨ho1, ho2⟩ | ⟨ho1, ho2⟩
  · exact h12 o ho1 ho2
  · exact hO.2 o (by omega) (by omega)
theorem nop_fr (hn : NOP hc hm) (h36 : hR hc2 3 6 = hR hc 3 6) (h48 : ∀ l, hR hc2 48 l = hR hc 48 l) (h12 : ∀ o, 12 ≤ o → o < 29 → Sm1 hc hc2 o) (h4 : hI hm2 49 4 = hI hm 49 4) : NOP hc2 hm2 := by
  obtain ⟨g1, g2, g3, g4, g5⟩ := hn
  have c := (h12 12 (by decide) (by decide)).2.2.2
  exact ⟨h36.trans g1, h4.trans g2, (c 4).trans g3, (c 6).trans g4, fun l hl => (h48 l).trans (g5 l hl)⟩
theorem stt_fr (hs : STT hc hm) (h12 : ∀ o, 12 ≤ o → o < 29 → Sm1 hc hc2 o) (h49 : ∀ k, k = 29 ∨ k = 30 ∨ k = 31 ∨ k = 32 → hI hm2 49 k = hI hm 49 k) (hE : EqT hm hm2) : STT hc2 hm2 := by
  obtain ⟨f1, f2, f3, f4, f5, f6, f7⟩ := hs
  have c := (h12 12 (by decide) (by decide)).2.2.2
  exact ⟨(h49 30 (by omega)).trans (f1.trans (c 4).symm), (h49 31 (by omega)).trans (f2.trans (c 5).symm), (h49 32 (by omega)).trans (f3.trans (c 8).symm), by rw [h49 29 (by omega)]; exact f4, fun f hf => by rw [hE.2.2 57 f (by omega) (by omega)]; exact f5 f hf, by rw [hE.1 5 (by omega)]; exact f6, fun j hj => by rw [hE.2.1 j hj]; exact f7 j hj⟩
theorem out_fr (ho : OUT B hc hm) (hB : B ≤ B2) (h12 : ∀ o, 12 ≤ o → o < 29 → Sm1 hc hc2 o) (h40 : hI hm2 49 40 = hI hm 49 40) (h78 : ∀ k, k < 16 → hI hm2 78 k = hI hm 78 k) : OUT B2 hc2 hm2 := by
  obtain ⟨u, e1, e2, e3, e4⟩ := ho
  exact ⟨u, by omega, ((h12 27 (by decide) (by decide)).2.2.2 1).trans e2, h40.trans e3, fun k hk => ((h12 28 (by decide) (by decide)).2.2.2 k).trans ((e4 k hk).trans (h78 k hk).symm)⟩
theorem nts_fr (ho : NTS B hc hm) (hB : B ≤ B2) (h46 : hI hc2 46 1 = hI hc 46 1) (h47 : ∀ k, k < 16 → hI hc2 47 k = hI hc 47 k) (h42 : hI hm2 49 42 = hI hm 49 42) (h79 : ∀ k, k < 16 → hI hm2 79 k = hI hm 79 k) : NTS B2 hc2 hm2 := by
  obtain ⟨u, e1, e2, e3, e4⟩ := ho
  exact ⟨u, by omega, h46.trans e2, h42.trans e3, fun k hk => (h47 k hk).trans ((e4 k hk).trans (h79 k hk).symm)⟩
theorem k_watch {b : Int32} (hb : b = 0 ∨ b = 1) : CAL xs L (d + 60) i 59 113 [.inl b] := fun hc hm hv => by
  obtain ⟨⟨a1, a2, a3, a4, a5, a6, a7, a8⟩, h2, ⟨w1, w2, w3⟩, h4, h5, h6, h7⟩ := inv_up hv
  have h12 : ∀ o, 12 ≤ o → o < 29 → Sm1 hc (sI hc 3 7 b) o := fun o q1 q2 => sm1_sI (by omega)
  have hO : Old hc (sI hc 3 7 b) := ⟨Nat.le_refl _, fun o q1 q2 => sm1_sI (by omega)⟩
  have M : ∀ o k, ¬ (o = 49 ∧ k = 33) → hI (sI hm 49 33 b) o k = hI hm o k := fun o k hn => hI_ne hn
  have hE : EqT hm (sI hm 49 33 b) := ⟨fun k hk => M _ _ (by omega), fun j _ => M _ _ (by omega), fun o k _ _ => M _ _ (by omega)⟩
  have hM : EqM hm (sI hm 49 33 b) := ⟨M _ _ (by omega), fun o k _ _ => M _ _ (by omega), fun o k _ _ => M _ _ (by omega), fun k _ => M _ _ (by omega)⟩
  have hEB : EqB hm (sI hm 49 33 b) := ⟨fun o l _ _ => M _ _ (by omega), fun j _ _ => M _ _ (by omega)⟩
  refine ⟨none, sI hc 3 7 b, sI hm 49 33 b, d_watch (d := d + 59) a1 hb, m_watch (d := d + 59) a8 hb, ⟨⟨a1, a2, a3, a4, a5, a6, a7, a8⟩, ?_, ⟨hI_is.trans hI_is.symm, by rw [hI_is]; exact hb, (hI_ne (by omega)).trans (w3.trans (M _ _ (by omega)).symm)⟩, nts_fr h4 (Nat.le_refl _) (hI_ne (by omega)) (fun k _ => hI_ne (by omega)) (M _ _ (by omega)) (fun k _ => M _ _ (by omega)), out_fr h5 (Nat.le_refl _) h12 (M _ _ (by omega)) (fun k _ => M _ _ (by omega)), stt_fr h6 h12 (fun k hk => M _ _ (by omega)) hE, ?_⟩, agm_sI agm_rfl (by omega), agc_sI agc_rfl (by omega)⟩
  · obtain ⟨n, b1, b2, b3, b4⟩ := h2
    exact ⟨n, b1, (hI_ne (by omega)).trans b2, (M _ _ (by omega)).trans b3, fun j hj => by rw [M _ _ (by omega), hI_ne (by omega)]; exact b4 j hj⟩
  · exact h7.imp (fun z => nop_fr (hc := hc) (hm := hm) z rfl (fun _ => rfl) h12 (M _ _ (by omega))) (fun z => ldd_fr (hc := hc) (hm := hm) z (Nat.le_refl _) a8 hO rfl (fun _ => rfl) h12 hE hM hEB)
theorem k_write {c : Int32} : CAL xs L (d + 60) i 51 76 [.inl c] := fun hc hm hv => by
  obtain ⟨⟨a1, a2, a3, a4, a5, a6, a7, a8⟩, ⟨n, b1, b2, b3, b4⟩, ⟨w1, w2, w3⟩, h4, h5, h6, h7⟩ := inv_up hv
  by_cases cc : n = 150 ∨ c < 32 ∨ 126 < c
  · exact ⟨some (.inl 0), hc, hm, d_write0 (d := d + 58) a1 b2 b1 cc, m_write0 (d := d + 59) a8 b3 b1 cc, inv_up hv, agm_rfl, agc_rfl⟩
  · have q1 : n < 150 := by omega
    have q2 : 32 ≤ c := Int32.not_lt.mp (fun z => cc (Or.inr (Or.inl z)))
    have q3 : c ≤ 126 := Int32.not_lt.mp (fun z => cc (Or.inr (Or.inr z)))
    have C : ∀ o k, ¬ o = 4 → ¬ o = 5 → hI (sI (sI hc 5 n c) 4 1 (nI (n + 1))) o k = hI hc o k := fun o k h1 h2 => by rw [hI_ne (by omega), hI_ne (by omega)]
    have h12 : ∀ o, 12 ≤ o → o < 29 → Sm1 hc (sI (sI hc 5 n c) 4 1 (nI (n + 1))) o := fun o q1 q2 => ⟨rfl, rfl, fun _ => rfl, fun k => C o k (by omega) (by omega)⟩
    have hO : Old hc (sI (sI hc 5 n c) 4 1 (nI (n + 1))) := ⟨Nat.le_refl _, fun o q1 q2 => ⟨rfl, rfl, fun _ => rfl, fun k => C o k (by omega) (by omega)⟩⟩
    have M : ∀ o k, ¬ (o = 49 ∧ k = 0) → ¬ o = 50 → hI (sI (sI hm 50 n c) 49 0 (nI (n + 1))) o k = hI hm o k := fun o k h1 h2 => by rw [hI_ne (by omega), hI_ne (by omega)]
    have hE : EqT hm (sI (sI hm 50 n c) 49 0 (nI (n + 1))) := ⟨fun k hk => M _ _ (by omega) (by omega), fun j _ => M _ _ (by omega) (by omega), fun o k _ _ => M _ _ (by omega) (by omega)⟩
    have hM : EqM hm (sI (sI hm 50 n c) 49 0 (nI (n + 1))) := ⟨M _ _ (by omega) (by omega), fun o k _ _ => M _ _ (by omega) (by omega), fun o k _ _ => M _ _ (by omega) (by omega), fun k _ => M _ _ (by omega) (by omega)⟩
    have hEB : EqB hm (sI (sI hm 50 n c) 49 0 (nI (n + 1))) := ⟨fun o l _ _ => M _ _ (by omega) (by omega), fun j _ _ => M _ _ (by omega) (by omega)⟩
    refine ⟨some (.inl 1), _, _, d_write1 (d := d + 58) a1 b2 q1 q2 q3, m_write1 (d := d + 59) a8 b3 q1 q2 q3, ⟨⟨a1, a2, a3, a4, a5, a6, a7, a8⟩, ⟨n + 1, by omega, hI_is, hI_is, fun j hj => ?_⟩, ⟨(C _ _ (by omega) (by omega)).trans (w1.trans (M _ _ (by omega) (by omega)).symm), by rw [C _ _ (by omega) (by omega)]; exact w2, (C _ _ (by omega) (by omega)).trans (w3.trans (M _ _ (by omega) (by omega)).symm)⟩, nts_fr h4 (Nat.le_refl _) (C _ _ (by omega) (by omega)) (fun k _ => C _ _ (by omega) (by omega)) (M _ _ (by omega) (by omega)) (fun k _ => M _ _ (by omega) (by omega)), out_fr h5 (Nat.le_refl _) h12 (M _ _ (by omega) (by omega)) (fun k _ => M _ _ (by omega) (by omega)), stt_fr h6 h12 (fun k hk => M _ _ (by omega) (by omega)) hE, ?_⟩, agm_sI (agm_sI agm_rfl (by omega)) (by omega), agc_sI (agc_sI agc_rfl (by omega)) (by omega)⟩
    · rw [hI_ne (by omega), hI_ne (o := 4) (by omega)]
      by_cases e : j = n
      · subst e
        rw [hI_is, hI_is]
        exact ⟨rfl, q2, q3⟩
      · rw [hI_ne (by omega), hI_ne (by omega)]
        exact b4 j (by omega)
    · exact h7.imp (fun z => nop_fr (hc := hc) (hm := hm) z rfl (fun _ => rfl) h12 (M _ _ (by omega) (by omega))) (fun z => ldd_fr (hc := hc) (hm := hm) z (Nat.le_refl _) a8 hO rfl (fun _ => rfl) h12 hE hM hEB)
end CM

-- THE LINK of the translator's functions: what the model takes, the translator takes
def zc (bd : Nat → Nat) : Nat := (if bd 0 = 0 then 1 else 0) + (if bd 1 = 0 then 1 else 0) + (if bd 2 = 0 then 1 else 0) + (if bd 3 = 0 then 1 else 0)
section PC
variable {s t u : TS} {n p : Nat} {tx ar T : Nat → Int32}
theorem zc_up {bd : Nat → Nat} {f q : Nat} (hf : f < 4) (h0 : bd f = 0) (hq : 0 < q) : zc (upN bd f q) + 1 = zc bd := by
  unfold zc upN
  have hq' : ¬ q = 0 := by omega
  have h4 : f = 0 ∨ f = 1 ∨ f = 2 ∨ f = 3 := by omega
  rcases h4 with e | e | e | e <;> subst e <;> simp [h0, hq'] <;> omega
theorem zc_0 {bd : Nat → Nat} (h : zc bd = 0) {f : Nat} (hf : f < 4) : ¬ bd f = 0 := fun h0 => by
  have := zc_up (q := 1) hf h0 (by decide)
  omega
theorem pg_back (hTC : TC T tx n) (hTX : TX T n) (hA : Ars ar) : ∀ (m : Nat) (s : TS) (bd : Nat → Nat) (ay Q : Nat → Int32) (τ τ' : TB) (bd' : Nat → Nat) (ay' Q' : Nat → Int32), Bd n s → s.2.1 ≤ s.1 → τ.2.2.2 = s.2.2.1 → PCr s bd ay → Fit ar (aA s) → zc bd = m → hds T n s.1 bd ay Q = some (bd', ay', Q') → pgm ar T n m s.1 τ = some τ' → (∀ f, f < 4 → ar f = if bd' f = 0 then -1 else ay' f) →
    (cProgL n tx m s).1 = true ∧ (cProgL n tx m s).2.1 = n ∧ Fit ar (aA (cProgL n tx m s).2) ∧ ∀ f, f < 4 → aP (cProgL n tx m s).2 f = ar f := by
  intro m
  have hn := hTC.1
  have base : ∀ (m : Nat) (s : TS) (bd bd' : Nat → Nat) (ay Q ay' Q' : Nat → Int32), s.1 = n → PCr s bd ay → Fit ar (aA s) → hds T n s.1 bd ay Q = some (bd', ay', Q') → (∀ f, f < 4 → ar f = if bd' f = 0 then -1 else ay' f) → cProgL n tx m s = (true, s) → (cProgL n tx m s).1 = true ∧ (cProgL n tx m s).2.1 = n ∧ Fit ar (aA (cProgL n tx m s).2) ∧ ∀ f, f < 4 → aP (cProgL n tx m s).2 f = ar f := by
    intro m s bd bd' ay Q ay' Q' h1 h2 h3 h4 h5 h6
    rw [h6]
    rw [hds_end (by omega)] at h4
    cases h4
    refine ⟨rfl, h1, h3, fun f hf => ?_⟩
    rw [h5 f hf]
    rcases h2 f hf with ⟨g1, g2⟩ | ⟨g1, g2, g3⟩
    · rw [if_pos g1]; exact g2
    · rw [if_neg (by omega)]; exact g2
  induction m with
  | zero =>
    intro s bd ay Q τ τ' bd' ay' Q' hb hz hlm hP hF hzc h1 h2 h3
    have hsn : s.1 = n := by
      rcases Nat.lt_or_ge s.1 n with q | q
      · rw [hds_no q (fun z => by
          obtain ⟨f, hf, e⟩ := fun_ix z.1 (Int32.lt_of_le_of_lt z.2.1 (by decide))
          have := z.2.2.1
          rw [e, fx_f hf] at this
          exact zc_0 hzc hf this)] at h1
        cases h1
      · have := hb.1; omega
    exact base 0 s bd bd' ay Q ay' Q' hsn hP hF h1 h3 rfl
  | succ m ih =>
    intro s bd ay Q τ τ' bd' ay' Q' hb hz hlm hP hF hzc h1 h2 h3
    have hun : cProgL n tx (m + 1) s = if s.1 < n then (if (cFun n tx s).1 then cProgL n tx m (cFun n tx s).2 else cFun n tx s) else (true, s) := rfl
    by_cases c : s.1 < n
    · by_cases hc : 65 ≤ T s.1 ∧ T s.1 ≤ 68 ∧ bd (fx (T s.1)) = 0 ∧ 48 ≤ T (s.1 + 1) ∧ T (s.1 + 1) ≤ 51 ∧ T (s.1 + 2) = 123
      · obtain ⟨f, hf, e1⟩ := fun_ix hc.1 (Int32.lt_of_le_of_lt hc.2.1 (by decide))
        obtain ⟨a, ha, e2⟩ := dig_ix hc.2.2.2.1 hc.2.2.2.2.1
        have hbf := hc.2.2.1
        rw [e1, fx_f hf] at hbf
        have hp2 : s.1 + 2 < n := tx_lt hTX (by omega) (by rw [hc.2.2.2.2.2]; decide)
        have hPf : aP s f = -1 := by
          rcases hP f hf with h7 | h7
          · exact h7.2
          · omega
        have hbS : Bd n (fS f a s) := ⟨by show s.1 + 2 ≤ n; omega, hb.2⟩
        rcases lk_B hTC hTX hA 6 (fS f a s) [] (up τ.1 (s.1 + 2) 0, τ.2) hbS (by show s.2.1 ≤ s.1 + 2 + 1; omega) hF rfl hlm with hok | ⟨h7, -⟩
        · have h5 := hok.1
          have hF2 := hok.2.1
          obtain ⟨e, fu, g1, g2, g3, g4, g5, g6, g7, g8, g9, g10, g11, g12, g13, g14, g15, g16, g17⟩ := fun_ok hTC hTX hz hbS (bd_B 6 _ hbS h5) hok
          obtain ⟨r1, r2, r3⟩ := sl_run hTX _ _ _ _ _ _ _ _ _ _ (g17 0)
          obtain ⟨u, R, u1, u2, u3, u4, u5⟩ := r3 (s.1 + 2) [] (up τ.1 (s.1 + 2) 0, τ.2) Q (by decide) hlm
          have huK : u.1 (s.1 + 2) = 0 := by rw [(u4 (s.1 + 2) (Or.inl (by omega))).1]; exact up_eq
          rw [bm_close (by omega) g2 (by rw [huK]; decide), bm_nil] at u2
          rw [hsc_close r1 g2, hsc_nil] at u3
          obtain ⟨d1, d2, d3⟩ := hd_f hf e1
          obtain ⟨d4, d5, d6⟩ := hd_a ha e2
          have hhds := hds_some (bd := bd) (ay := ay) c hc u3 (by omega)
          rw [d3, d6] at hhds
          rw [hhds] at h1
          rw [pgm_1 c u2] at h2
          rw [if_pos c, fun_go hTC hf ha (by omega) e1 e2 hPf h5, if_pos rfl] at hun
          rw [hun]
          refine ih (fE (cB n tx 6 (fS f a s)).2) (upN bd f (s.1 + 2)) (up ay f (nI a)) _ u τ' bd' ay' Q' g10 g7 (u1.trans g8.symm) (pcr_step hP ha (by omega) g14) (by rw [g9]; exact hF2) (by have := zc_up (q := s.1 + 2) hf hbf (by omega); omega) (by rw [g5]; exact h1) (by rw [g5]; exact h2) h3
        · have h8 := h7 hc.2.2.2.2.2 (by decide)
          rw [pgm_none c h8] at h2
          cases h2
      · rw [hds_no c hc] at h1
        cases h1
    · rw [if_neg c] at hun
      exact base (m + 1) s bd bd' ay Q ay' Q' (by have := hb.1; omega) hP hF h1 h3 hun
end PC

-- THE LINK of the translator's functions: programs
def PCr (s : TS) (bd : Nat → Nat) (ay : Nat → Int32) : Prop := ∀ f, f < 4 → (bd f = 0 ∧ aP s f = -1) ∨ (0 < bd f ∧ aP s f = ay f ∧ ∃ a, a ≤ 3 ∧ ay f = nI a)
section PB
variable {s t u : TS} {n p : Nat} {tx ar T : Nat → Int32}
theorem upN_eq {f : Nat → Nat} {k v : Nat} : upN f k v k = v := if_pos rfl
theorem upN_ne {f : Nat → Nat} {k v j : Nat} (h : ¬ j = k) : upN f k v j = f j := if_neg h
theorem ma_fun (hTC : TC T tx n) : MA (cFun n tx) := by
  intro s g hg h1
  obtain ⟨f, a, hf, ha, hp, e1, e2, hP, h3, h4⟩ := fun_inv hTC h1
  rw [h4]
  show aA (cEmit 0 0 (cEmit 1 0 _)) g = _
  rw [emit_A, emit_A, ma_B 6 (fS f a s) g hg h3]
  rfl
theorem ma_progl (hTC : TC T tx n) : ∀ (m : Nat) (s : TS) (g : Nat), ¬ aA s g = -1 → (cProgL n tx m s).1 = true → aA (cProgL n tx m s).2 g = aA s g := by
  intro m
  induction m with
  | zero => intro s g hg h1; rfl
  | succ m ih =>
    intro s g hg h1
    have hun : cProgL n tx (m + 1) s = if s.1 < n then (if (cFun n tx s).1 then cProgL n tx m (cFun n tx s).2 else cFun n tx s) else (true, s) := rfl
    rw [hun] at h1 ⊢
    by_cases c : s.1 < n
    · rw [if_pos c] at h1 ⊢
      by_cases c2 : (cFun n tx s).1 = true
      · rw [if_pos c2] at h1 ⊢
        have e := ma_fun hTC s g hg c2
        rw [ih _ g (by rw [e]; exact hg) h1, e]
      · rw [if_neg c2] at h1
        exact absurd h1 c2
    · rw [if_neg c]
theorem fun_ok (hTC : TC T tx n) (hTX : TX T n) {f a : Nat} (hz : s.2.1 ≤ s.1) (hb : Bd n (fS f a s)) {r : Bool × TS} (hrb : Bd n r.2) (hok : OKb ar T n 6 (fS f a s) r) :
    ∃ e fu, T (s.1 + 2) = 123 ∧ T e = 125 ∧ s.1 + 2 < e ∧ e < n ∧ (fE r.2).1 = e + 1 ∧ (fE r.2).2.1 = r.2.2.1 + 2 ∧ (fE r.2).2.1 ≤ (fE r.2).1 ∧ (fE r.2).2.2.1 = r.2.2.2.1 ∧ aA (fE r.2) = aA r.2 ∧ Bd n (fE r.2) ∧ s.2.1 ≤ r.2.2.1 ∧ (∀ k, k < s.2.1 → aI (fE r.2) k = aI s k ∧ aH (fE r.2) k = aH s k) ∧ aS (fE r.2) = up (aS s) f (nI s.2.1) ∧ aP (fE r.2) = up (aP s) f (nI a) ∧ aI (fE r.2) r.2.2.1 = iw 1 0 ∧ aI (fE r.2) (r.2.2.1 + 1) = iw 0 0 ∧ ∀ oh, S0 ar T n (fE r.2) fu 5 (s.1 + 3) e s.2.1 r.2.2.1 s.2.2.1 r.2.2.2.1 (-1) oh := by
  have hn := hTC.1
  obtain ⟨k1, k2, k3, e, fu, k4, k5, k6, k7, k8, k9⟩ := hok
  have k4 : r.2.1 = e + 1 := k4
  have k5 : T (s.1 + 2) = 123 := k5
  have k9 : r.2.2.1 + (s.1 + 2) + 2 ≤ s.2.1 + r.2.1 := k9
  have k8 : ∀ oh, S0 ar T n r.2 fu 5 (s.1 + 3) e s.2.1 r.2.2.1 s.2.2.1 r.2.2.2.1 (-1) oh := k8
  have hsz : s.2.1 ≤ r.2.2.1 := k3.1
  obtain ⟨q1, q2, -⟩ := s0_run hTX (k8 0)
  generalize hv : r.2 = v at *
  have hem1 := em_emit (s := v) (op := 1) (x := 0) (by omega)
  have hz1 : (cEmit 1 0 v).2.1 = v.2.1 + 1 := hem1.1
  have hem2 := em_emit (s := cEmit 1 0 v) (op := 0) (x := 0) (by omega)
  have hz2 : (fE v).2.1 = v.2.1 + 2 := by show (cEmit 0 0 (cEmit 1 0 v)).2.1 = _; rw [hem2.1, hz1]; rfl
  have hat : (fE v).1 = e + 1 := by show (cEmit 0 0 (cEmit 1 0 v)).1 = _; rw [emit_at, emit_at]; exact k4
  have hln : (fE v).2.2.1 = v.2.2.1 := hem2.2.1.trans hem1.2.1
  have hlow : ∀ k, k < v.2.1 → aI (fE v) k = aI v k ∧ aH (fE v) k = aH v k := fun k hk => ⟨(hem2.2.2.1 k (by omega)).1.trans (hem1.2.2.1 k hk).1, (hem2.2.2.1 k (by omega)).2.trans (hem1.2.2.1 k hk).2⟩
  refine ⟨e, fu, k5, k6, by omega, q1, hat, hz2, by omega, hln, ?_, ⟨by omega, by omega, by rw [hln]; exact hrb.2.2⟩, hsz, fun k hk => ⟨(hlow k (by omega)).1.trans (k3.2.1 k hk).1, (hlow k (by omega)).2.trans (k3.2.1 k hk).2⟩, ?_, ?_, ?_, ?_, fun oh => s0_ex hTX (fun y g1 g2 => hlow y g2) (by omega) (k8 oh)⟩
  · show aA (cEmit 0 0 (cEmit 1 0 v)) = _; rw [emit_A, emit_A]
  · exact hem2.2.2.2.2.2.1.trans (hem1.2.2.2.2.2.1.trans k3.2.2.1)
  · exact hem2.2.2.2.2.2.2.trans (hem1.2.2.2.2.2.2.trans k3.2.2.2)
  · exact (hem2.2.2.1 v.2.1 (by omega)).1.trans hem1.2.2.2.1.1
  · have := hem2.2.2.2.1.1
    rw [hz1] at this
    exact this
theorem hd_f {f : Nat} (hf : f < 4) (h : T p = nI (65 + f)) : 65 ≤ T p ∧ T p ≤ 68 ∧ fx (T p) = f := by
  rw [h]
  exact ⟨nI_le (a := 65) (by omega) (by omega), nI_le (b := 68) (by omega) (by decide), fx_f hf⟩
theorem hd_a {a : Nat} (ha : a ≤ 3) (h : T p = nI (48 + a)) : 48 ≤ T p ∧ T p ≤ 51 ∧ T p - 48 = nI a := by
  rw [h]
  refine ⟨nI_le (a := 48) (by omega) (by omega), nI_le (b := 51) (by omega) (by decide), ?_⟩
  rw [show (48 : Int32) = nI 48 from rfl, pk_sub (by omega)]
  congr 1
  omega
theorem pcr_step {bd : Nat → Nat} {ay : Nat → Int32} {f a q : Nat} (hP : PCr s bd ay) (ha : a ≤ 3) (hq : 0 < q) (e : aP t = up (aP s) f (nI a)) : PCr t (upN bd f q) (up ay f (nI a)) := fun g hg => by
  rw [e]
  by_cases c : g = f
  · subst c
    rw [upN_eq, up_eq, up_eq]
    exact Or.inr ⟨hq, rfl, a, ha, rfl⟩
  · rw [upN_ne c, up_ne c, up_ne c]
    exact hP g hg
theorem pg_acc (hTC : TC T tx n) (hTX : TX T n) (hA : Ars ar) : ∀ (m : Nat) (s : TS) (bd : Nat → Nat) (ay Q : Nat → Int32) (τ : TB), Bd n s → s.2.1 ≤ s.1 → τ.2.2.2 = s.2.2.1 → PCr s bd ay → (cProgL n tx m s).1 = true → (cProgL n tx m s).2.1 = n → Fit ar (aA (cProgL n tx m s).2) →
    ∃ (bd' : Nat → Nat) (ay' Q' : Nat → Int32) (τ' : TB), hds T n s.1 bd ay Q = some (bd', ay', Q') ∧ pgm ar T n m s.1 τ = some τ' ∧ τ'.2.2.2 = (cProgL n tx m s).2.2.2.1 ∧ PCr (cProgL n tx m s).2 bd' ay' ∧ (∀ x, x < s.1 → τ'.1 x = τ.1 x ∧ τ'.2.1 x = τ.2.1 x ∧ τ'.2.2.1 x = τ.2.2.1 x ∧ Q' x = Q x) ∧ (∀ f, f < 4 → 0 < bd f → bd' f = bd f ∧ aS (cProgL n tx m s).2 f = aS s f) ∧ s.2.1 ≤ (cProgL n tx m s).2.2.1 ∧ s.2.2.1 ≤ (cProgL n tx m s).2.2.2.1 ∧ (∀ k, k < s.2.1 → aI (cProgL n tx m s).2 k = aI s k ∧ aH (cProgL n tx m s).2 k = aH s k) ∧
    (Enc T Q' s.1 [] → Enc T Q' n [] ∧ ∀ f, f < 4 → bd f = 0 → 0 < bd' f → FB ar T n (aI (cProgL n tx m s).2) (aH (cProgL n tx m s).2) (aS (cProgL n tx m s).2) τ'.1 τ'.2.1 τ'.2.2.1 Q' bd' (cProgL n tx m s).2.2.1 (cProgL n tx m s).2.2.2.1 f) := by
  intro m
  have hn := hTC.1
  have base : ∀ (m : Nat) (s : TS) (bd : Nat → Nat) (ay Q : Nat → Int32) (τ : TB), s.1 = n → τ.2.2.2 = s.2.2.1 → PCr s bd ay → cProgL n tx m s = (true, s) → ∃ (bd' : Nat → Nat) (ay' Q' : Nat → Int32) (τ' : TB), hds T n s.1 bd ay Q = some (bd', ay', Q') ∧ pgm ar T n m s.1 τ = some τ' ∧ τ'.2.2.2 = (cProgL n tx m s).2.2.2.1 ∧ PCr (cProgL n tx m s).2 bd' ay' ∧ (∀ x, x < s.1 → τ'.1 x = τ.1 x ∧ τ'.2.1 x = τ.2.1 x ∧ τ'.2.2.1 x = τ.2.2.1 x ∧ Q' x = Q x) ∧ (∀ f, f < 4 → 0 < bd f → bd' f = bd f ∧ aS (cProgL n tx m s).2 f = aS s f) ∧ s.2.1 ≤ (cProgL n tx m s).2.2.1 ∧ s.2.2.1 ≤ (cProgL n tx m s).2.2.2.1 ∧ (∀ k, k < s.2.1 → aI (cProgL n tx m s).2 k = aI s k ∧ aH (cProgL n tx m s).2 k = aH s k) ∧
      (Enc T Q' s.1 [] → Enc T Q' n [] ∧ ∀ f, f < 4 → bd f = 0 → 0 < bd' f → FB ar T n (aI (cProgL n tx m s).2) (aH (cProgL n tx m s).2) (aS (cProgL n tx m s).2) τ'.1 τ'.2.1 τ'.2.2.1 Q' bd' (cProgL n tx m s).2.2.1 (cProgL n tx m s).2.2.2.1 f) := by
    intro m s bd ay Q τ h1 h2 h3 h4
    rw [h4]
    exact ⟨bd, ay, Q, τ, hds_end (by omega), pgm_end (by omega), h2, h3, fun x _ => ⟨rfl, rfl, rfl, rfl⟩, fun f _ _ => ⟨rfl, rfl⟩, Nat.le_refl _, Nat.le_refl _, fun _ _ => ⟨rfl, rfl⟩, fun hE => ⟨by rw [← h1]; exact hE, fun f hf h5 h6 => by omega⟩⟩
  induction m with
  | zero =>
    intro s bd ay Q τ hb hz hlm hP h1 h2 h3
    exact base 0 s bd ay Q τ h2 hlm hP rfl
  | succ m ih =>
    intro s bd ay Q τ hb hz hlm hP h1 h2 h3
    have hun : cProgL n tx (m + 1) s = if s.1 < n then (if (cFun n tx s).1 then cProgL n tx m (cFun n tx s).2 else cFun n tx s) else (true, s) := rfl
    by_cases c : s.1 < n
    · rw [if_pos c] at hun
      have c2 : (cFun n tx s).1 = true := by
        cases h5 : (cFun n tx s).1 with
        | true => rfl
        | false =>
          rw [h5, if_neg (by decide)] at hun
          rw [hun, h5] at h1
          cases h1
      rw [if_pos c2] at hun
      rw [hun] at h1 h2 h3 ⊢
      obtain ⟨f, a, hf, ha, hp, e1, e2, hPf, h5, h6⟩ := fun_inv hTC c2
      have hAr : aA (cFun n tx s).2 = aA (cB n tx 6 (fS f a s)).2 := by rw [h6]; show aA (cEmit 0 0 (cEmit 1 0 _)) = _; rw [emit_A, emit_A]
      have hF2 : Fit ar (aA (cB n tx 6 (fS f a s)).2) := fun g hg => by
        by_cases d : aA (cB n tx 6 (fS f a s)).2 g = -1
        · exact Or.inl d
        · have e := ma_progl hTC m _ g (by rw [hAr]; exact d) h1
          rw [← hAr, ← e]
          exact h3 g hg
      have hF1 : Fit ar (aA s) := fun g hg => by
        by_cases d : aA s g = -1
        · exact Or.inl d
        · have e : aA (cB n tx 6 (fS f a s)).2 g = aA s g := ma_B 6 (fS f a s) g d h5
          rw [← e]
          exact hF2 g hg
      have hbS : Bd n (fS f a s) := ⟨by show s.1 + 2 ≤ n; omega, hb.2⟩
      have hok : OKb ar T n 6 (fS f a s) (cB n tx 6 (fS f a s)) := by
        rcases lk_B hTC hTX hA 6 (fS f a s) [] (up τ.1 (s.1 + 2) 0, τ.2) hbS (by show s.2.1 ≤ s.1 + 2 + 1; omega) hF1 rfl hlm with h7 | ⟨-, h7⟩
        · exact h7
        · rcases h7 with h7 | h7
          · rw [h5] at h7; cases h7
          · exact absurd hF2 h7
      obtain ⟨e, fu, g1, g2, g3, g4, g5, g6, g7, g8, g9, g10, g11, g12, g13, g14, g15, g16, g17⟩ := fun_ok hTC hTX hz hbS (bd_B 6 _ hbS h5) hok
      rw [h6] at h1 h2 h3 ⊢
      obtain ⟨r1, r2, r3⟩ := sl_run hTX _ _ _ _ _ _ _ _ _ _ (g17 0)
      have hml := (sl_mono hTX _ _ _ _ _ _ _ _ _ _ (g17 0)).2.2
      obtain ⟨u, R, u1, u2, u3, u4, u5⟩ := r3 (s.1 + 2) [] (up τ.1 (s.1 + 2) 0, τ.2) Q (by decide) hlm
      have huK : u.1 (s.1 + 2) = 0 := by rw [(u4 (s.1 + 2) (Or.inl (by omega))).1]; exact up_eq
      rw [bm_close (by omega) g2 (by rw [huK]; decide), bm_nil] at u2
      rw [hsc_close r1 g2, hsc_nil] at u3
      obtain ⟨d1, d2, d3⟩ := hd_f hf e1
      obtain ⟨d4, d5, d6⟩ := hd_a ha e2
      have hbf : bd f = 0 := by
        rcases hP f hf with h7 | ⟨h7, h8, a2, h9, h10⟩
        · exact h7.1
        · rw [hPf, h10] at h8
          exact absurd h8.symm (nI_m1 (by omega))
      have hhds := hds_some (bd := bd) (ay := ay) c ⟨d1, d2, by rw [d3]; exact hbf, d4, d5, g1⟩ u3 (by omega)
      rw [d3, d6] at hhds
      obtain ⟨bd', ay', Q', τ', i1, i2, i3, i4, i5, i6, i7, i8, i9, i10⟩ := ih (fE (cB n tx 6 (fS f a s)).2) (upN bd f (s.1 + 2)) (up ay f (nI a)) (up (up R e (nI (s.1 + 2))) (s.1 + 2) (nI e)) u g10 g7 (u1.trans g8.symm) (pcr_step hP ha (by omega) g14) h1 h2 h3
      rw [g5] at i1 i2 i5 i10
      refine ⟨bd', ay', Q', τ', hhds.trans i1, (pgm_1 c u2).trans i2, i3, i4, fun x hx => ?_, fun g hg h7 => ?_, by omega, by omega, fun k hk => ?_, fun hE => ?_⟩
      · obtain ⟨a1, a2, a3, a4⟩ := i5 x (by omega)
        obtain ⟨b1, b2, b3, b4⟩ := u4 x (Or.inl (by omega))
        refine ⟨a1.trans (b1.trans (up_ne (by omega))), a2.trans b2, a3.trans b3, ?_⟩
        rw [a4, up_ne (by omega), up_ne (by omega), b4]
      · have hgf : ¬ g = f := fun z => by rw [z] at h7; omega
        obtain ⟨a1, a2⟩ := i6 g hg (by rw [upN_ne hgf]; exact h7)
        rw [a1, a2, upN_ne hgf, g13, up_ne hgf]
        exact ⟨rfl, rfl⟩
      · obtain ⟨a1, a2⟩ := i9 k (by omega)
        obtain ⟨b1, b2⟩ := g12 k hk
        exact ⟨a1.trans b1, a2.trans b2⟩
      · have nb : ∀ j, s.1 ≤ j → j < s.1 + 2 → ¬ T j = 123 := fun j q1 q2 => by
          by_cases q : j = s.1
          · subst q; exact fun z => by rw [z] at d2; exact absurd d2 (by decide)
          · have : j = s.1 + 1 := by omega
            subst this; exact fun z => by rw [z] at d5; exact absurd d5 (by decide)
        have hE2 := enc_push (enc_skip hE (by omega) nb)
        have hVb : Q' (s.1 + 2) = nI e := by rw [(i5 (s.1 + 2) (by omega)).2.2.2]; exact up_eq
        have hVe : Q' e = nI (s.1 + 2) := by rw [(i5 e (by omega)).2.2.2, up_ne (by omega)]; exact up_eq
        have hKb : τ'.1 (s.1 + 2) = 0 := by rw [(i5 (s.1 + 2) (by omega)).1]; exact huK
        obtain ⟨v1, v2⟩ := u5 τ'.1 τ'.2.1 τ'.2.2.1 Q' (fun x q1 q2 => by
          obtain ⟨a1, a2, a3, a4⟩ := i5 x (by omega)
          exact ⟨a1, a2, a3, by rw [a4, up_ne (by omega), up_ne (by omega)]⟩) ⟨by omega, g1, trivial⟩ (fun x hx => by
          have : x = s.1 + 2 := by simpa using hx
          subst this
          exact ⟨e, hVb, Nat.le_refl _, by omega⟩) hE2
        obtain ⟨w1, w2⟩ := i10 (enc_pop v2 hVb g2)
        refine ⟨w1, fun g hg h7 h8 => ?_⟩
        by_cases q : g = f
        · subst q
          obtain ⟨a1, a2⟩ := i6 g hg (by rw [upN_eq]; omega)
          rw [upN_eq] at a1
          rw [show tin τ'.1 [s.1 + 2] = -1 from if_neg (by rw [hKb]; decide)] at v1
          have hsz := g11
          have v3 := sl_map (I' := aI (cProgL n tx m (fE (cB n tx 6 (fS g a s)).2)).2) (H' := aH (cProgL n tx m (fE (cB n tx 6 (fS g a s)).2)).2) hTX (z := -1) _ _ _ _ _ _ _ _ _ _ (fun y q1 q2 => ⟨(i9 y (by omega)).1, by rw [gm_1]; exact (i9 y (by omega)).2⟩) (by have := (bd_B 6 _ hbS h5).2.1; omega) v1
          rw [gm_1] at v3
          refine ⟨e, s.2.1, (cB n tx 6 (fS g a s)).2.2.1, s.2.2.1, (cB n tx 6 (fS g a s)).2.2.2.1, fu, by omega, by rw [a1]; exact g1, ?_, ?_, g2, by rw [a1]; exact hKb, by rw [a1]; exact hVb, by rw [a1]; exact hVe, ?_, ?_, by omega, by omega⟩
          · rw [a2, g13]; exact up_eq
          · rw [a1]; exact v3
          · rw [(i9 _ (by omega)).1]; exact g15
          · rw [(i9 _ (by omega)).1]; exact g16
        · exact w2 g hg (by rw [upN_ne q]; exact h7) h8
    · rw [if_neg c] at hun
      rw [hun] at h2
      exact base (m + 1) s bd ay Q τ h2 hlm hP hun
end PB

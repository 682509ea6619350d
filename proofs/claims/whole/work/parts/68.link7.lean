-- THE LINK of the translator's statements: try, lists, blocks
section LG
variable {s t u : TS} {n : Nat} {tx ar T : Nat → Int32} {B St : TS → Bool × TS}
theorem cat_t {f e : Nat} : (cCat f e s).1 = s.1 ∧ (cCat f e s).2.1 = s.2.1 ∧ (cCat f e s).2.2.1 = s.2.2.1 ∧ aI (cCat f e s) = aI s ∧ (∀ k, aH (cCat f e s) k = if f ≤ k ∧ k < e ∧ aH s k = -1 then nI s.2.1 else aH s k) ∧ aS (cCat f e s) = aS s ∧ aP (cCat f e s) = aP s ∧ aA (cCat f e s) = aA s := ⟨rfl, rfl, rfl, rfl, fun _ => rfl, rfl, rfl, rfl⟩
theorem lk_try (hTC : TC T tx n) (hTX : TX T n) {k o : Nat} {st : List Nat} {τ : TB} (hB : LBk ar T n k B) (hM : MA B) (hE : EB n B) (hp : s.1 < n) (hz : s.2.1 ≤ s.1) (hl : st.length + 1 + k = 6) (hlm : τ.2.2.2 = s.2.2.1) (h40 : s.2.2.1 < 40) (hx : Exs s t) (hi : aI t s.2.1 = iw 5 (nI s.2.2.1)) (ht1 : t.1 = s.1 + 1) (ht2 : t.2.1 = s.2.1 + 1) (ht3 : t.2.2.1 = s.2.2.1 + 1) (hF : Fit ar (aA t)) (hb : Bd n t) (hc : T s.1 = 126) : OKs ar T n k s (cTry B t) ∨ (bm ar T n s.1 (o :: st) τ = none ∧ ((cTry B t).1 = false ∨ ¬ Fit ar (aA (cTry B t).2))) := by
  have hn := hTC.1
  have h125 : ¬ T s.1 = 125 := by rw [hc]; decide
  have hun : cTry B t = if (B t).1 then cTr2 B (B t).2.2.1 (cCat t.2.1 (B t).2.2.1 (cEmit 10 0 (B t).2)) else B t := rfl
  have hun2 : ∀ j u, cTr2 B j u = if (B u).1 then (true, cAim j (B u).2) else B u := fun j u => rfl
  rcases hB t (o :: st) (up τ.1 (s.1 + 1) 3, up τ.2.1 (s.1 + 1) (nI s.1), up τ.2.2.1 s.1 (nI s.2.2.1), s.2.2.1 + 1) hb (by omega) hF (by rw [List.length_cons]; omega) ht3.symm with ⟨k1, k2, k3, e, f, k4, k5, k6, k7, k8, k9⟩ | ⟨k1, k2⟩
  · rw [if_pos k1, hun2] at hun
    have hb2 := hE t hb k1
    have hb2a := hb2.1
    rw [ht1] at k5 k8 k9
    rw [ht2] at k8 k9
    rw [ht3] at k8
    have hvz0 := k3.1
    generalize hv : (B t).2 = v at *
    have hem := em_emit (s := v) (op := 10) (x := 0) (by omega)
    have hv1 : (cEmit 10 0 v).1 = e + 1 := by rw [emit_at]; exact k4
    have hv2 : (cEmit 10 0 v).2.1 = v.2.1 + 1 := hem.1
    have hv3 : (cEmit 10 0 v).2.2.1 = v.2.2.1 := hem.2.1
    have hvA : aA (cEmit 10 0 v) = aA v := emit_A
    have hvb : Bd n (cEmit 10 0 v) := bd_emit hb2
    generalize hw : cEmit 10 0 v = w at *
    obtain ⟨c1, c2, c3, c4, c5, c6, c7, c8⟩ := cat_t (s := w) (f := t.2.1) (e := v.2.1)
    generalize hy : cCat t.2.1 v.2.1 w = y at *
    have hyb : Bd n y := ⟨by rw [c1]; exact hvb.1, by rw [c2]; exact hvb.2.1, by rw [c3]; exact hvb.2.2⟩
    obtain ⟨r1, r2, r3⟩ := s0_run hTX (k8 0)
    obtain ⟨u, u1, u2, u3, u4⟩ := r3 (s.1 + 1) (o :: st) (up τ.1 (s.1 + 1) 3, up τ.2.1 (s.1 + 1) (nI s.1), up τ.2.2.1 s.1 (nI s.2.2.1), s.2.2.1 + 1) (by omega) (by rw [List.length_cons]; omega) rfl
    have u2 : u.1 (s.1 + 1) = 3 := u2.trans up_eq
    rcases hB y (o :: st) (up u.1 (e + 1) 4, up u.2.1 (e + 1) (u.2.1 (s.1 + 1)), u.2.2) hyb (by rw [c1, c2]; omega) (by rw [c8, hvA]; exact k2) (by rw [List.length_cons]; omega) (by rw [c3, hv3]; exact u1) with ⟨q1, q2, q3, e2, f2, q4, q5, q6, q7, q8, q9⟩ | ⟨q1, q2⟩
    · left
      have hb3 := hE y hyb q1
      have hb3a := hb3.1
      rw [if_pos q1] at hun
      rw [hun]
      rw [c1, hv1] at q5 q8 q9
      rw [c2, hv2] at q8 q9
      rw [c3, hv3] at q8
      have hzz := q3.1
      generalize hg : (B y).2 = g at *
      obtain ⟨a1, a2, a3, a4, a5, a6, a7⟩ := aim_t (s := g) (j := v.2.1) (by omega)
      have hIx : aI g v.2.1 = iw 10 0 := by
        rw [(q3.2.1 v.2.1 (by omega)).1, c4]
        exact hem.2.2.2.1.1
      rw [hIx, aim_iw (Or.inr rfl)] at a4
      have hI : ∀ j, ¬ j = v.2.1 → aI (cAim v.2.1 g) j = aI g j := fun j hj => by rw [a4]; exact up_ne hj
      have hlow : ∀ j, j < v.2.1 → aI (cAim v.2.1 g) j = aI v j ∧ aH (cAim v.2.1 g) j = if t.2.1 ≤ j ∧ aH v j = -1 then nI (v.2.1 + 1) else aH v j := fun j hj => by
        refine ⟨?_, ?_⟩
        · rw [hI j (by omega), (q3.2.1 j (by omega)).1, c4]
          exact (hem.2.2.1 j hj).1
        · rw [a5, (q3.2.1 j (by omega)).2, c5 j, (hem.2.2.1 j hj).2, hv2]
          by_cases d : t.2.1 ≤ j ∧ aH v j = -1
          · rw [if_pos d, if_pos ⟨d.1, hj, d.2⟩]
          · rw [if_neg d, if_neg (fun z => d ⟨z.1, z.2.2⟩)]
      refine ⟨rfl, ?_, ?_, ?_, ?_⟩
      · show Fit ar (aA (cAim v.2.1 g)); rw [aim_A]; exact q2
      · refine ⟨by show s.2.1 ≤ (cAim v.2.1 g).2.1; omega, fun j hj => ?_, ?_, ?_⟩
        · show aI (cAim v.2.1 g) j = aI s j ∧ aH (cAim v.2.1 g) j = aH s j
          obtain ⟨d1, d2⟩ := hlow j (by omega)
          rw [if_neg (fun z => by omega)] at d2
          exact ⟨d1.trans ((k3.2.1 j (by omega)).1.trans (hx.2.1 j hj).1), d2.trans ((k3.2.1 j (by omega)).2.trans (hx.2.1 j hj).2)⟩
        · exact a6.trans (q3.2.2.1.trans (c6.trans (hem.2.2.2.2.2.1.trans (k3.2.2.1.trans hx.2.2.1))))
        · exact a7.trans (q3.2.2.2.trans (c7.trans (hem.2.2.2.2.2.2.trans (k3.2.2.2.trans hx.2.2.2))))
      · refine ⟨max f f2, fun oh => ⟨h125, h40, hp, ?_, trivial, Or.inr (Or.inr ⟨e, v.2.1, e2, v.2.2.1, hc, k5, ⟨k7, ?_⟩, k6, trivial, ?_, q5, ⟨k7, ?_⟩, q6, trivial, ?_⟩)⟩⟩
        · exact (hlow s.2.1 (by omega)).1.trans ((k3.2.1 s.2.1 (by omega)).1.trans hi)
        · have := sl_map (I' := aI (cAim v.2.1 g)) (H' := aH (cAim v.2.1 g)) hTX (z := nI (v.2.1 + 1)) _ _ _ _ _ _ _ _ _ _ (fun j h1 h2 => by
            obtain ⟨d1, d2⟩ := hlow j h2
            refine ⟨d1, d2.trans ?_⟩
            unfold gm
            by_cases d : aH v j = -1
            · rw [if_pos ⟨by omega, d⟩, if_pos d]
            · rw [if_neg (fun z => d z.2), if_neg d]) (by omega) (k8 (nI (s.1 + 1)))
          exact sl_up (Nat.le_max_left _ _) this
        · show aI (cAim v.2.1 g) v.2.1 = iw 10 (nI (cAim v.2.1 g).2.1)
          rw [a4, a2]
          exact up_eq
        · have := s0_ex hTX (t := cAim v.2.1 g) (fun j h1 h2 => ⟨hI j (by omega), by rw [a5]⟩) (by omega) (q8 oh)
          rw [← a3, ← a2] at this
          exact sl_up (Nat.le_max_right _ _) this
        · show (cAim v.2.1 g).1 = e2 + 1
          omega
      · show (cAim v.2.1 g).2.1 + s.1 ≤ s.2.1 + (cAim v.2.1 g).1
        omega
    · right
      refine ⟨?_, ?_⟩
      · rw [bm_blk (by omega) h125 (stS_try hc k5) (by omega) (by omega), hlm, if_neg (by omega), if_neg (by omega), show nI 3 = 3 from rfl]
        rw [u4, bm_try (by omega) k6 u2]
        by_cases c : T (e + 1) = 123
        · rw [if_pos c]
          rw [c1, hv1] at q1
          exact q1 c (by rw [List.length_cons]; omega)
        · rw [if_neg c]
      · rw [hun]
        cases h3 : (B y).1 with
        | false => rw [if_neg (by decide)]; exact Or.inl h3
        | true =>
          rw [if_pos rfl]
          rw [h3] at q2
          right
          show ¬ Fit ar (aA (cAim v.2.1 (B y).2))
          rw [aim_A]
          exact q2.resolve_left (by decide)
  · right
    refine ⟨?_, ?_⟩
    · by_cases c : T (s.1 + 1) = 123
      · rw [bm_blk (by omega) h125 (stS_try hc c) (by omega) (by omega), hlm, if_neg (by omega)]
        by_cases c6 : 6 ≤ st.length + 1
        · rw [if_pos c6]
        · rw [if_neg c6]
          rw [ht1] at k1
          exact k1 c (by rw [List.length_cons]; omega)
      · refine bm_none (by omega) h125 ?_
        unfold stS
        rw [if_pos hc, if_neg c]
    · rw [hun]
      cases h3 : (B t).1 with
      | false => rw [if_neg (by decide)]; exact Or.inl h3
      | true =>
        rw [if_pos rfl, hun2]
        rw [h3] at k2
        have k3 := k2.resolve_left (by decide)
        have e0 : aA (cCat t.2.1 (B t).2.2.1 (cEmit 10 0 (B t).2)) = aA (B t).2 := emit_A
        cases h4 : (B (cCat t.2.1 (B t).2.2.1 (cEmit 10 0 (B t).2))).1 with
        | false => rw [if_neg (by decide)]; exact Or.inl h4
        | true =>
          rw [if_pos rfl]
          right
          show ¬ Fit ar (aA (cAim _ _))
          rw [aim_A]
          exact ma_fit hM (by rw [e0]; exact k3) h4
theorem lk_st (hTC : TC T tx n) (hTX : TX T n) (hA : Ars ar) {k : Nat} (hB : LBk ar T n k B) (hM : MA B) (hE : EB n B) (hN : ∀ s : TS, ¬ T s.1 = 123 → (B s).1 = false) : LSt ar T n k (cSt n tx B) := by
  intro s o st τ hb hz hF hl hlm h125
  have hn := hTC.1
  have hp : s.1 < 152 := by have := hb.1; omega
  have hun : cSt n tx B s = if 40 ≤ s.2.2.1 then (false, s) else cSt2 n tx B (pk n tx s.1) s.2.1 (sLn (s.2.2.1 + 1) (cEmit 5 (nI s.2.2.1) (sAt (s.1 + 1) s))) := rfl
  by_cases c40 : 40 ≤ s.2.2.1
  · rw [hun, if_pos c40]
    exact Or.inr ⟨bm_40 hp h125 (by rw [hlm]; exact c40), Or.inl rfl⟩
  rw [if_neg c40] at hun
  have hun2 : ∀ (c : Int32) (pt : Nat) (t : TS), cSt2 n tx B c pt t = if c = 126 then cTry B t else if 97 ≤ c ∧ c < 103 then (if (cTakes n tx 61 t).1 then cSt3 n tx B c pt (cTakes n tx 61 t).2 else cTakes n tx 61 t) else if isBe c = true then cSt3 n tx B c pt t else (false, t) := fun _ _ _ => rfl
  by_cases hpn : s.1 < n
  · rw [pk_tin hTC hpn] at hun
    have hem := em_emit (s := sAt (s.1 + 1) s) (op := 5) (x := nI s.2.2.1) (by show s.2.1 < 151; omega)
    have e1 : (sLn (s.2.2.1 + 1) (cEmit 5 (nI s.2.2.1) (sAt (s.1 + 1) s))).1 = s.1 + 1 := (emit_at (s := sAt (s.1 + 1) s))
    have e2 : (sLn (s.2.2.1 + 1) (cEmit 5 (nI s.2.2.1) (sAt (s.1 + 1) s))).2.1 = s.2.1 + 1 := hem.1
    have e3 : (sLn (s.2.2.1 + 1) (cEmit 5 (nI s.2.2.1) (sAt (s.1 + 1) s))).2.2.1 = s.2.2.1 + 1 := rfl
    have eA : aA (sLn (s.2.2.1 + 1) (cEmit 5 (nI s.2.2.1) (sAt (s.1 + 1) s))) = aA s := (emit_A (s := sAt (s.1 + 1) s))
    have eX : Exs s (sLn (s.2.2.1 + 1) (cEmit 5 (nI s.2.2.1) (sAt (s.1 + 1) s))) := (show Exs (sAt (s.1 + 1) s) (cEmit 5 (nI s.2.2.1) (sAt (s.1 + 1) s)) from em_ex hem)
    have eI : aI (sLn (s.2.2.1 + 1) (cEmit 5 (nI s.2.2.1) (sAt (s.1 + 1) s))) s.2.1 = iw 5 (nI s.2.2.1) := hem.2.2.2.1.1
    have eB : Bd n (sLn (s.2.2.1 + 1) (cEmit 5 (nI s.2.2.1) (sAt (s.1 + 1) s))) := ⟨by rw [e1]; exact hpn, by rw [e2]; omega, by rw [e3]; omega⟩
    generalize sLn (s.2.2.1 + 1) (cEmit 5 (nI s.2.2.1) (sAt (s.1 + 1) s)) = t at *
    rw [hun2] at hun
    by_cases c126 : T s.1 = 126
    · rw [if_pos c126] at hun
      rw [hun]
      exact lk_try hTC hTX hB hM hE hpn hz hl hlm (by omega) eX eI e1 e2 e3 (by rw [eA]; exact hF) eB c126
    rw [if_neg c126] at hun
    by_cases cv : 97 ≤ T s.1 ∧ T s.1 ≤ 102
    · rw [if_pos ⟨cv.1, (c_lt (k := 102) (by decide)).mpr cv.2⟩] at hun
      rcases lk_takes (s := t) hTC (c := 61) (by decide) with ⟨d1, d2, d3⟩ | ⟨d1, d3⟩
      · rw [e1] at d1 d2 d3
        rw [d3, if_pos rfl] at hun
        rw [hun]
        exact lk_st3 (t := sAt (s.1 + 1 + 1) t) hTC hTX hA hB hM hE hN hpn hz hl hlm h125 (by omega) eX eI (by unfold sx; rw [if_pos cv]; rfl) e2 e3 (by show Fit ar (aA t); rw [eA]; exact hF) ⟨d2, eB.2⟩ (Or.inl ⟨cv.1, cv.2, d1⟩)
      · rw [e1] at d1
        simp only [d3, Bool.false_eq_true, ↓reduceIte] at hun
        rw [hun]
        refine Or.inr ⟨bm_none hp h125 ?_, Or.inl rfl⟩
        unfold stS
        rw [if_neg c126, if_neg (fun z => z.elim (fun z => d1 z.2.2) (fun z => by
          unfold isBe at z
          simp only [Bool.or_eq_true, decide_eq_true_eq] at z
          rcases z with (((z | z) | z) | z) | z <;> rw [z] at cv <;> exact absurd cv.1 (by decide)))]
    · rw [if_neg (fun z => cv ⟨z.1, (c_lt (k := 102) (by decide)).mp z.2⟩)] at hun
      by_cases cb : isBe (T s.1) = true
      · rw [if_pos cb] at hun
        rw [hun]
        exact lk_st3 (t := t) hTC hTX hA hB hM hE hN hpn hz hl hlm h125 (by omega) eX eI (by unfold sx; rw [if_neg cv]; exact e1) e2 e3 (by rw [eA]; exact hF) eB (Or.inr cb)
      · rw [if_neg cb] at hun
        rw [hun]
        refine Or.inr ⟨bm_none hp h125 ?_, Or.inl rfl⟩
        unfold stS
        rw [if_neg c126, if_neg (fun z => z.elim (fun z => cv ⟨z.1, z.2.1⟩) cb)]
  · have h59 : T s.1 = 59 := hTC.2.2 _ (by omega)
    refine Or.inr ⟨bm_none hp h125 ?_, Or.inl ?_⟩
    · unfold stS
      rw [h59, if_neg (by decide), if_neg (fun z => z.elim (fun z => absurd z.1 (by decide)) (fun z => absurd z (by decide)))]
    · rw [hun, pk_tout hpn, hun2, if_neg (by decide), if_neg (by decide), if_neg (by decide)]
theorem lk_blkl (hTC : TC T tx n) (hTX : TX T n) {k : Nat} (hS : LSt ar T n k St) (hM : MA St) (hE : EB n St) : ∀ (m : Nat) (s : TS) (o : Nat) (st : List Nat) (τ : TB), Bd n s → s.2.1 ≤ s.1 → Fit ar (aA s) → st.length + 1 + k = 6 → τ.2.2.2 = s.2.2.1 → 41 ≤ m + s.2.2.1 →
    ((cBlkL n tx St m s).1 = true ∧ Fit ar (aA (cBlkL n tx St m s).2) ∧ Exs s (cBlkL n tx St m s).2 ∧ ∃ e f, (cBlkL n tx St m s).2.1 = e + 1 ∧ T e = 125 ∧ (∀ oh, S0 ar T n (cBlkL n tx St m s).2 f k s.1 e s.2.1 (cBlkL n tx St m s).2.2.1 s.2.2.1 (cBlkL n tx St m s).2.2.2.1 (-1) oh) ∧ (cBlkL n tx St m s).2.2.1 + s.1 + 1 ≤ s.2.1 + (cBlkL n tx St m s).2.1)
    ∨ (bm ar T n s.1 (o :: st) τ = none ∧ ((cBlkL n tx St m s).1 = false ∨ ¬ Fit ar (aA (cBlkL n tx St m s).2))) := by
  intro m
  have hn := hTC.1
  induction m with
  | zero => intro s o st τ hb hz hF hl hlm hm; have := hb.2.2; omega
  | succ m ih =>
    intro s o st τ hb hz hF hl hlm hm
    have hun : cBlkL n tx St (m + 1) s = if s.1 < n ∧ tx s.1 = 125 then (true, sAt (s.1 + 1) s) else if (St s).1 then cBlkL n tx St m (St s).2 else St s := rfl
    by_cases c : s.1 < n ∧ tx s.1 = 125
    · rw [if_pos c] at hun
      rw [hun]
      have hc : T s.1 = 125 := by rw [hTC.2.1 _ c.1]; exact c.2
      exact Or.inl ⟨rfl, hF, ⟨Nat.le_refl _, fun _ _ => ⟨rfl, rfl⟩, rfl, rfl⟩, s.1, 1, rfl, hc, fun oh => Or.inl ⟨rfl, rfl, rfl, hc, c.1⟩, by show s.2.1 + s.1 + 1 ≤ s.2.1 + (s.1 + 1); omega⟩
    · rw [if_neg c] at hun
      have hc : ¬ T s.1 = 125 := fun e => by
        rcases Nat.lt_or_ge s.1 n with q | q
        · exact c ⟨q, by rw [← hTC.2.1 _ q]; exact e⟩
        · rw [hTC.2.2 _ q] at e; exact absurd e (by decide)
      rcases hS s o st τ hb hz hF hl hlm hc with ⟨g1, g2, g3, ⟨f, g4⟩, g5⟩ | ⟨g1, g2⟩
      · rw [if_pos g1] at hun
        rw [hun]
        have hb2 := hE s hb g1
        obtain ⟨r1, r2, r3⟩ := ss0_run hTX (g4 0)
        obtain ⟨u, u1, u2⟩ := r3 o st τ (by omega) hlm
        have hmono := ss_mono hTX (fun a b c d u v x y z => sl_mono hTX _ _ _ _ _ _ _ _ _ _ z.2) (g4 0)
        rw [u2]
        rcases ih (St s).2 o st u hb2 (by omega) g2 hl u1 (by omega) with ⟨h1, h2, h3, e, f2, h4, h5, h6, h7⟩ | ⟨h1, h2⟩
        · left
          have hmono2 := sl_mono hTX _ _ _ _ _ _ _ _ _ _ (h6 0)
          have hbz := (bd_blkl hE m _ hb2 h1).2.1
          refine ⟨h1, h2, ex_trans g3 h3, e, max f f2 + 1, h4, h5, fun oh => Or.inr ⟨(St s).2.1, (St s).2.2.1, (St s).2.2.2.1, ?_, sl_up (Nat.le_max_right _ _) (h6 oh)⟩, by omega⟩
          have := ss0_ex hTX (t := (cBlkL n tx St m (St s).2).2) (fun y q1 q2 => h3.2.1 y q2) (by omega) (g4 oh)
          exact ss_up (fun a b c d u v x y z => ⟨z.1, sl_up (Nat.le_max_left _ _) z.2⟩) this
        · exact Or.inr ⟨h1, h2⟩
      · refine Or.inr ⟨g1, ?_⟩
        rw [hun]
        cases h3 : (St s).1 with
        | false => rw [if_neg (by decide)]; exact Or.inl h3
        | true =>
          rw [if_pos rfl]
          rw [h3] at g2
          have g3 := g2.resolve_left (by decide)
          cases h4 : (cBlkL n tx St m (St s).2).1 with
          | false => exact Or.inl rfl
          | true =>
            right
            intro hG
            refine g3 (fun g hg => ?_)
            by_cases c2 : aA (St s).2 g = -1
            · exact Or.inl c2
            · have e := ma_blkl hM m _ g c2 h4
              rw [← e]
              exact hG g hg
theorem lk_B (hTC : TC T tx n) (hTX : TX T n) (hA : Ars ar) : ∀ k, LBk ar T n k (cB n tx k) := by
  intro k
  induction k with
  | zero =>
    intro s st τ hb hz hF hl hlm
    exact Or.inr ⟨fun _ h => by omega, Or.inl rfl⟩
  | succ k ih =>
    have hn := hTC.1
    have hN : ∀ (k : Nat) (s : TS), ¬ T s.1 = 123 → (cB n tx k s).1 = false := by
      intro k s h
      cases k with
      | zero => rfl
      | succ k =>
        show (if s.1 < n ∧ tx s.1 = 123 then cBlkL n tx (cSt n tx (cB n tx k)) 41 (sAt (s.1 + 1) s) else (false, s)).1 = false
        rw [if_neg (fun z => h (by rw [hTC.2.1 _ z.1]; exact z.2))]
    intro s st τ hb hz hF hl hlm
    have hun : cB n tx (k + 1) s = if s.1 < n ∧ tx s.1 = 123 then cBlkL n tx (cSt n tx (cB n tx k)) 41 (sAt (s.1 + 1) s) else (false, s) := rfl
    by_cases c : s.1 < n ∧ tx s.1 = 123
    · have hc : T s.1 = 123 := by rw [hTC.2.1 _ c.1]; exact c.2
      rw [if_pos c] at hun
      rw [hun]
      rcases lk_blkl hTC hTX (lk_st hTC hTX hA ih (ma_B k) (bd_B k) (hN k)) (ma_st (ma_B k)) (bd_st (bd_B k)) 41 (sAt (s.1 + 1) s) s.1 st τ (bd_at hb c.1) (by show s.2.1 ≤ s.1 + 1; omega) hF (by omega) hlm (by omega) with ⟨h1, h2, h3, e, f2, h4, h5, h6, h7⟩ | ⟨h1, h2⟩
      · have h7 : _ + (s.1 + 1) + 1 ≤ s.2.1 + _ := h7
        exact Or.inl ⟨h1, h2, h3, e, f2, h4, hc, h5, by omega, h6, by omega⟩
      · exact Or.inr ⟨fun _ _ => h1, h2⟩
    · rw [if_neg c] at hun
      rw [hun]
      exact Or.inr ⟨fun e => absurd ⟨by
        rcases Nat.lt_or_ge s.1 n with q | q
        · exact q
        · rw [hTC.2.2 _ q] at e; exact absurd e (by decide), by
        rcases Nat.lt_or_ge s.1 n with q | q
        · rw [← hTC.2.1 _ q]; exact e
        · rw [hTC.2.2 _ q] at e; exact absurd e (by decide)⟩ c, Or.inl rfl⟩
end LG

-- THE LINK of the translator to the spec: expressions
section LC
variable {s t u : TS} {J K : List Int32} {n : Nat} {tx ar T : Nat → Int32} {lv : LV} {st : List LV} {f cnt : Nat} {E Tm : TS → Bool × TS}
theorem lk_args (hTC : TC T tx n) {len : Nat} (hE : LEx ar T n (len + 1) E) (hM : MA E) (hB : EB n E) (hf : f < 4) (hA : Ars ar) (hb : Bd n s) (hz : s.2.1 ≤ s.1) (hF : Fit ar (aA s)) (hl : st.length = len) {x : SE} (hx : x = if ar f = -1 then none else if ar f = 0 then (if T s.1 = 41 then prep [iw 4 (nI f)] (sm ar T (s.1 + 1) false lv st) else none) else sm ar T s.1 true (2 + f, 0, 0) (lv :: st)) : OKr ar T s (cArgs n tx E f s) lv st x ∨ (x = none ∧ ((cArgs n tx E f s).1 = false ∨ ¬ Fit ar (aA (cArgs n tx E f s).2))) := by
  have hn := hTC.1
  have hp : s.1 < 152 := by have := hb.1; omega
  have hun : cArgs n tx E f s = if (cTakes n tx 41 s).1 then cCall f 0 (cTakes n tx 41 s).2 else cArgL n tx E f 3 0 (cTakes n tx 41 s).2 := rfl
  rcases lk_takes (s := s) hTC (c := 41) (by decide) with ⟨c1, c2, c3⟩ | ⟨c1, c3⟩
  · simp only [c3, ↓reduceIte] at hun
    rw [hun]
    rcases lk_call (s := sAt (s.1 + 1) s) (cnt := 0) hF hf (by show s.2.1 < 151; omega) (by omega) with ⟨k1, k2, k3, k4, k5⟩ | ⟨k1, k2⟩
    · have k5 : (cCall f 0 (sAt (s.1 + 1) s)).2.1 = s.1 + 1 := k5
      have k1 : ar f = 0 := k1
      rw [hx, k1, if_neg (by decide), if_pos rfl, if_pos c1]
      exact Or.inl ⟨k2, k3, by omega, [iw 4 (nI f)], em_trans em_at k4, by rw [List.length_singleton]; omega, by rw [k5]⟩
    · refine Or.inr ⟨?_, k2⟩
      rw [hx]
      by_cases q : ar f = -1
      · rw [if_pos q]
      · rw [if_neg q, if_neg (show ¬ ar f = 0 from k1), sm_no hp (by rw [c1]; decide) (by rw [c1]; decide) (by rw [c1]; decide) (by rw [c1]; decide)]
  · simp only [c3, ↓reduceIte, Bool.false_eq_true] at hun
    rw [hun]
    have hbig : ∀ k, ar f = nI k → k = 0 → (cArgL n tx E f 3 0 s).1 = false ∨ ¬ Fit ar (aA (cArgL n tx E f 3 0 s).2) := by
      intro k hk hk0
      cases g1 : (cArgL n tx E f 3 0 s).1 with
      | false => exact Or.inl rfl
      | true =>
        obtain ⟨-, c, q1, q2, q3⟩ := ma_argl hM 3 0 _ g1
        refine Or.inr (fun hG => (hG f hf).elim (fun e => nI_m1 (by omega) (q3.symm.trans e)) (fun e => ?_))
        have q4 := (nI_eq (a := c) (b := k) (by omega) (by omega)).mp (q3.symm.trans (e.trans hk))
        omega
    rcases hA f hf with ha | ⟨k, hk3, hk⟩
    · refine Or.inr ⟨by rw [hx, if_pos ha], ?_⟩
      cases g1 : (cArgL n tx E f 3 0 s).1 with
      | false => exact Or.inl rfl
      | true =>
        obtain ⟨-, c, q1, q2, q3⟩ := ma_argl hM 3 0 _ g1
        exact Or.inr (fun hG => (hG f hf).elim (fun e => nI_m1 (by omega) (q3.symm.trans e)) (fun e => nI_m1 (k := c) (by omega) (q3.symm.trans (e.trans ha))))
    · have hk1 : ¬ ar f = -1 := by rw [hk]; exact nI_m1 (by omega)
      by_cases hk0 : k = 0
      · have ha0 : ar f = 0 := by rw [hk, hk0]; rfl
        refine Or.inr ⟨by rw [hx, if_neg hk1, if_pos ha0, if_neg c1], hbig k hk hk0⟩
      · have ha0 : ¬ ar f = 0 := by rw [hk]; exact nI_ne0 (by omega) (by omega)
        rw [hx, if_neg hk1, if_neg ha0]
        exact lk_argl hTC hE hM hB hf hk hk3 3 0 s (by omega) (by omega) hb hz hF hl
theorem pk_tin {p : Nat} (hTC : TC T tx n) (hp : p < n) : pk n tx p = T p := by
  rw [hTC.2.1 p hp]; exact if_pos hp
theorem pk_tout {p : Nat} (hp : ¬ p < n) : pk n tx p = 0 := if_neg hp
theorem num_run {p : Nat} (hTC : TC T tx n) (hTX : TX T n) (hpn : p ≤ n) : ∀ (m i : Nat) (s : TS), i + m = 3 → s.1 = p + i → i ≤ nd T 200 p → cNum n tx m (dvI T p i) s = cEmit 1 (dvI T p (min (nd T 200 p) 3)) (sAt (p + min (nd T 200 p) 3) s) := by
  intro m
  induction m with
  | zero =>
    intro i s hi hs hj
    have e : min (nd T 200 p) 3 = i := by omega
    rw [e, ← hs]
    rfl
  | succ m ih =>
    intro i s hi hs hj
    unfold cNum
    by_cases c : i < nd T 200 p
    · have hin := nd_in hTX hpn
      have hd : 48 ≤ T (p + i) ∧ T (p + i) ≤ 57 := nd_dig 200 p i c
      rw [hs, pk_tin hTC (by omega), if_pos hd]
      have e : dvI T p i * 10 + (T (p + i) - 48) = dvI T p (i + 1) := by
        show _ = 10 * dvI T p i + T (p + i) - 48
        rw [Int32.mul_comm, Int32.sub_eq_add_neg, ← Int32.add_assoc, ← Int32.sub_eq_add_neg]
      rw [e, ih (i + 1) (sAt (p + i + 1) s) (by omega) rfl (by omega)]
      rfl
    · have e : nd T 200 p = i := by omega
      have hno := nd_no hTX hpn
      rw [e] at hno
      have e2 : min (nd T 200 p) 3 = i := by omega
      have hno2 : ¬ (48 ≤ pk n tx s.1 ∧ pk n tx s.1 ≤ 57) := by
        rw [hs]
        by_cases q : p + i < n
        · rw [pk_tin hTC q]; exact hno
        · rw [pk_tout q]; decide
      rw [if_neg hno2, e2, ← hs]
      rfl
theorem lk_term {k : Nat} (hTC : TC T tx n) (hTX : TX T n) (hk5 : k ≤ 5) (hE : ¬ k = 0 → LEx ar T n (5 - k + 1) E) (hM : MA E) (hB : EB n E) (hA : Ars ar) : LTm ar T n (5 - k) (cTerm n tx E k) := by
  intro s lv st hb hz hF hl
  have hn := hTC.1
  have hp : s.1 < 152 := by have := hb.1; omega
  by_cases hpn : s.1 < n
  · have hpk := pk_tin hTC hpn
    unfold cTerm
    rw [hpk]
    by_cases hd : 48 ≤ T s.1 ∧ T s.1 ≤ 57
    · rw [if_pos hd, show (0 : Int32) = dvI T s.1 0 from rfl, num_run (p := s.1) hTC hTX (by omega) 3 0 s (by omega) rfl (by omega)]
      have hj0 : 0 < nd T 200 s.1 := Nat.pos_of_ne_zero (fun e => nd_0.mp e hd)
      rw [sm_dig hp hj0]
      by_cases h3 : nd T 200 s.1 ≤ 3
      · rw [if_pos h3, show min (nd T 200 s.1) 3 = nd T 200 s.1 by omega]
        refine Or.inl ⟨rfl, ?_, ?_, [iw 1 (dvI T s.1 (nd T 200 s.1))], em_trans em_at (em_emit (s := sAt (s.1 + nd T 200 s.1) s) (by show s.2.1 < 151; omega)), ?_, ?_⟩
        · show Fit ar (aA (cEmit 1 _ _)); rw [emit_A]; exact hF
        · show s.1 < (cEmit 1 _ _).1; rw [emit_at]; show s.1 < s.1 + nd T 200 s.1; omega
        · show 1 + s.1 ≤ (cEmit 1 _ _).1; rw [emit_at]; show 1 + s.1 ≤ s.1 + nd T 200 s.1; omega
        · show _ = prep _ (sm ar T (cEmit 1 _ _).1 false lv st); rw [emit_at]; rfl
      · rw [if_neg h3, show min (nd T 200 s.1) 3 = 3 by omega]
        refine Or.inr ⟨rfl, Or.inr (Or.inr ?_)⟩
        show isDg (T (cEmit 1 _ _).1)
        rw [emit_at]
        exact nd_dig 200 s.1 3 (by omega)
    rw [if_neg hd]
    by_cases hv : 97 ≤ T s.1 ∧ T s.1 ≤ 102
    · rw [if_pos (show 97 ≤ T s.1 ∧ T s.1 < 103 from ⟨hv.1, (c_lt (k := 102) (by decide)).mpr hv.2⟩), sm_var hp hv]
      refine Or.inl ⟨rfl, ?_, ?_, [iw 2 (T s.1 - 97)], em_trans em_at (em_emit (s := sAt (s.1 + 1) s) (by show s.2.1 < 151; omega)), ?_, ?_⟩
      · show Fit ar (aA (cEmit 2 _ _)); rw [emit_A]; exact hF
      · show s.1 < (cEmit 2 _ _).1; rw [emit_at]; show s.1 < s.1 + 1; omega
      · show 1 + s.1 ≤ (cEmit 2 _ _).1; rw [emit_at]; show 1 + s.1 ≤ s.1 + 1; omega
      · show _ = prep _ (sm ar T (cEmit 2 _ _).1 false lv st); rw [emit_at]; rfl
    rw [if_neg (show ¬ (97 ≤ T s.1 ∧ T s.1 < 103) from fun z => hv ⟨z.1, (c_lt (k := 102) (by decide)).mp z.2⟩)]
    by_cases hf : 65 ≤ T s.1 ∧ T s.1 ≤ 68
    · rw [if_pos (show 65 ≤ T s.1 ∧ T s.1 < 69 from ⟨hf.1, (c_lt (k := 68) (by decide)).mpr hf.2⟩)]
      by_cases hk0 : k = 0
      · rw [if_pos hk0]
        exact Or.inr ⟨sm_5 hp hd hv (by omega), Or.inl rfl⟩
      · rw [if_neg hk0]
        obtain ⟨f, hf4, hfc⟩ := fun_ix hf.1 (Int32.lt_of_le_of_lt hf.2 (by decide))
        rw [sm_fun hp hf4 hfc (by omega), hfc, show (nI (65 + f) - 65).toNatClampNeg = f from fx_f hf4]
        rcases lk_takes (s := sAt (s.1 + 1) s) hTC (c := 40) (by decide) with ⟨c1, c2, c3⟩ | ⟨c1, c3⟩
        · have c1 : T (s.1 + 1) = 40 := c1
          have c2 : s.1 + 1 < n := c2
          rw [c3]
          have ec : ∀ y : SE, (if ar f = -1 ∨ ¬ T (s.1 + 1) = 40 then none else y) = if ar f = -1 then none else y := fun y => by
            by_cases q : ar f = -1
            · rw [if_pos q, if_pos (Or.inl q)]
            · rw [if_neg q, if_neg (fun z => z.elim q (fun z => z c1))]
          rw [ec, if_pos rfl]
          have hs2 : (sAt ((sAt (s.1 + 1) s).1 + 1) (sAt (s.1 + 1) s)) = sAt (s.1 + 2) s := rfl
          rw [hs2]
          rcases lk_args (s := sAt (s.1 + 2) s) (lv := lv) (st := st) hTC (hE hk0) hM hB hf4 hA (⟨c2, hb.2⟩ : Bd n (sAt (s.1 + 2) s)) (by show s.2.1 ≤ s.1 + 2; omega) hF hl rfl with ⟨g1, g2, g3, K, g4, g5, g6⟩ | ⟨g1, g2⟩
          · have g3 : s.1 + 2 < _ := g3
            have g5 : K.length + (s.1 + 2) ≤ _ := g5
            exact Or.inl ⟨g1, g2, by show s.1 < (cArgs n tx E f (sAt (s.1 + 2) s)).2.1; omega, K, em_trans em_at g4, by show K.length + s.1 ≤ (cArgs n tx E f (sAt (s.1 + 2) s)).2.1; omega, g6⟩
          · exact Or.inr ⟨g1, g2.elim Or.inl (fun z => Or.inr (Or.inl z))⟩
        · have c1 : ¬ T (s.1 + 1) = 40 := c1
          rw [c3, if_pos (Or.inr c1)]
          exact Or.inr ⟨rfl, Or.inl rfl⟩
    rw [if_neg (show ¬ (65 ≤ T s.1 ∧ T s.1 < 69) from fun z => hf ⟨z.1, (c_lt (k := 68) (by decide)).mp z.2⟩)]
    by_cases h40 : T s.1 = 40
    · by_cases hk0 : k = 0
      · rw [if_neg (fun z => z.2 hk0)]
        exact Or.inr ⟨sm_5 hp hd hv (by omega), Or.inl rfl⟩
      · rw [if_pos ⟨h40, hk0⟩, sm_open hp h40 (by omega)]
        rcases hE hk0 (sAt (s.1 + 1) s) (1, 0, 0) (lv :: st) (bd_at hb hpn) (by show s.2.1 ≤ s.1 + 1; omega) hF (by rw [List.length_cons, hl]) rfl with ⟨⟨h1, h2, h3, J, h4, h5, h6⟩, h7⟩ | ⟨h1, h2⟩
        · have h3 : s.1 + 1 < _ := h3
          have h5 : J.length + (s.1 + 1) ≤ _ := h5
          have hb2 := hB _ (bd_at hb hpn) h1
          have hq : (E (sAt (s.1 + 1) s)).2.1 < 152 := by have := hb2.1; omega
          rw [show sm ar T (s.1 + 1) true (1, 0, 0) (lv :: st) = _ from h6, if_pos h1]
          rcases lk_takes (s := (E (sAt (s.1 + 1) s)).2) hTC (c := 41) (by decide) with ⟨c1, c2, c3⟩ | ⟨c1, c3⟩
          · rw [c3, sm_close hq c1, if_pos rfl, show opI ((1, 0, 0) : LV).2.2 = [] from rfl, prep_nil]
            exact Or.inl ⟨rfl, h2, by show s.1 < _ + 1; omega, J, by
              have := em_trans em_at (em_trans h4 (em_at (b := (E (sAt (s.1 + 1) s)).2.1 + 1)))
              rw [List.append_nil, List.nil_append] at this
              exact this, by show J.length + s.1 ≤ _ + 1; omega, rfl⟩
          · rw [c3]
            refine Or.inr ⟨?_, Or.inl rfl⟩
            by_cases c4 : T (E (sAt (s.1 + 1) s)).2.1 = 44
            · rw [sm_comma hq c4, if_neg (fun z => z.1 rfl)]; rfl
            · rw [sm_bad hq h7 c1 c4]; rfl
        · have h1 : sm ar T (s.1 + 1) true (1, 0, 0) (lv :: st) = none := h1
          rw [h1]
          refine Or.inr ⟨rfl, ?_⟩
          cases hE1 : (E (sAt (s.1 + 1) s)).1 with
          | false => rw [if_neg (by decide)]; exact Or.inl hE1
          | true =>
            rw [if_pos rfl]
            rw [hE1] at h2
            rcases h2 with h2 | h2 | h2
            · cases h2
            · exact Or.inr (Or.inl (by rw [takes_A]; exact h2))
            · have t41 : ¬ T (E (sAt (s.1 + 1) s)).2.1 = 41 := fun e => by rw [e] at h2; exact absurd h2.1 (by decide)
              have e41 := ((lk_takes (s := (E (sAt (s.1 + 1) s)).2) hTC (c := 41) (by decide)).resolve_left (fun z => t41 z.1)).2
              rw [e41]
              exact Or.inl rfl
    · rw [if_neg (fun z => h40 z.1)]
      exact Or.inr ⟨sm_no hp hd hv h40 hf, Or.inl rfl⟩
  · have h59 : T s.1 = 59 := hTC.2.2 _ (by omega)
    refine Or.inr ⟨sm_no hp (by rw [h59]; decide) (by rw [h59]; decide) (by rw [h59]; decide) (by rw [h59]; decide), Or.inl ?_⟩
    unfold cTerm
    rw [pk_tout hpn, if_neg (by decide), if_neg (by decide), if_neg (by decide), if_neg (fun z => absurd z.1 (by decide))]
theorem sm_H0 {p : Nat} {op : Int32} : sm ar T p false (lv.1, lv.2.1, op) st = prep (opI op) (sm ar T p false (lv.1, lv.2.1, 0) st) := by
  have e0 : opI 0 = [] := rfl
  by_cases hp : p < 152
  · by_cases ho : isOp (T p) = true
    · rw [sm_op hp ho, sm_op hp ho]
      show prep (opI op) _ = prep (opI op) (prep (opI 0) _)
      rw [e0, prep_nil]
    · cases st with
      | nil =>
        rw [sm_end hp ho, sm_end hp ho]
        show prep (opI op) _ = prep (opI op) (prep (opI 0) _)
        rw [e0, prep_nil]
      | cons l2 st =>
        by_cases c1 : T p = 41
        · rw [sm_close hp c1, sm_close hp c1]
          show prep (opI op) _ = prep (opI op) (prep (opI 0) _)
          rw [e0, prep_nil]
        · by_cases c2 : T p = 44
          · rw [sm_comma hp c2, sm_comma hp c2]
            show prep (opI op) _ = prep (opI op) (prep (opI 0) _)
            rw [e0, prep_nil]
          · rw [sm_bad hp ho c1 c2, sm_bad hp ho c1 c2]
            rfl
  · rw [sm_hi (by omega), sm_hi (by omega)]
    rfl
end LC

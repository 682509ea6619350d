-- THE LINK of the translator to the spec: terms and expressions
def OKr (ar T : Nat → Int32) (s : TS) (r : Bool × TS) (lv : LV) (st : List LV) (x : SE) : Prop := r.1 = true ∧ Fit ar (aA r.2) ∧ s.1 < r.2.1 ∧ ∃ J, Em J s r.2 ∧ J.length + s.1 ≤ r.2.1 ∧ x = prep J (sm ar T r.2.1 false lv st)
def NOr (ar T : Nat → Int32) (r : Bool × TS) (x : SE) : Prop := x = none ∧ (r.1 = false ∨ ¬ Fit ar (aA r.2) ∨ isDg (T r.2.1))
def LTm (ar T : Nat → Int32) (n len : Nat) (E : TS → Bool × TS) : Prop := ∀ (s : TS) (lv : LV) (st : List LV), Bd n s → s.2.1 ≤ s.1 → Fit ar (aA s) → st.length = len → OKr ar T s (E s) lv st (sm ar T s.1 true lv st) ∨ NOr ar T (E s) (sm ar T s.1 true lv st)
def LEx (ar T : Nat → Int32) (n len : Nat) (E : TS → Bool × TS) : Prop := ∀ (s : TS) (lv : LV) (st : List LV), Bd n s → s.2.1 ≤ s.1 → Fit ar (aA s) → st.length = len → lv.2.2 = 0 → (OKr ar T s (E s) lv st (sm ar T s.1 true lv st) ∧ ¬ isOp (T (E s).2.1) = true) ∨ NOr ar T (E s) (sm ar T s.1 true lv st)
/-- the text that the translator reads -/
def TC (T tx : Nat → Int32) (n : Nat) : Prop := n ≤ 150 ∧ (∀ p, p < n → T p = tx p) ∧ ∀ p, n ≤ p → T p = 59
def Ars (ar : Nat → Int32) : Prop := ∀ f, f < 4 → ar f = -1 ∨ ∃ k, k ≤ 3 ∧ ar f = nI k
section LB
variable {s t u : TS} {J K : List Int32} {n : Nat} {tx ar T : Nat → Int32} {lv : LV} {st : List LV} {f cnt : Nat} {E Tm : TS → Bool × TS}
theorem c_lt {c : Int32} {k : Nat} (hk : k + 1 < 2 ^ 31) : c < nI (k + 1) ↔ c ≤ nI k := by
  rw [Int32.lt_iff_toInt_lt, Int32.le_iff_toInt_le, nI_toInt hk, nI_toInt (by omega)]
  omega
theorem nI_m1 {k : Nat} (hk : k < 2 ^ 31) : ¬ nI k = -1 := fun e => absurd (nI_le (a := 0) (b := k) (by omega) hk) (by rw [e]; decide)
theorem lk_call (hF : Fit ar (aA s)) (hf : f < 4) (hz : s.2.1 < 151) (hc : cnt < 10) : (ar f = nI cnt ∧ (cCall f cnt s).1 = true ∧ Fit ar (aA (cCall f cnt s).2) ∧ Em [iw 4 (nI f)] s (cCall f cnt s).2 ∧ (cCall f cnt s).2.1 = s.1) ∨ (¬ ar f = nI cnt ∧ ((cCall f cnt s).1 = false ∨ ¬ Fit ar (aA (cCall f cnt s).2))) := by
  by_cases ha : ar f = nI cnt
  · refine Or.inl ⟨ha, ?_⟩
    have c : aA s f = -1 ∨ aA s f = nI cnt := by rw [← ha]; exact hF f hf
    have e : cCall f cnt s = (true, cEmit 4 (nI f) (sArg f (nI cnt) s)) := if_pos c
    rw [e]
    refine ⟨rfl, fun g hg => ?_, em_trans em_arg (em_emit hz), emit_at⟩
    show aA (cEmit 4 (nI f) (sArg f (nI cnt) s)) g = -1 ∨ aA (cEmit 4 (nI f) (sArg f (nI cnt) s)) g = ar g
    rw [emit_A]
    show up (aA s) f (nI cnt) g = -1 ∨ up (aA s) f (nI cnt) g = ar g
    by_cases q : g = f
    · subst q; rw [up_eq]; exact Or.inr ha.symm
    · rw [up_ne q]; exact hF g hg
  · refine Or.inr ⟨ha, ?_⟩
    cases h1 : (cCall f cnt s).1 with
    | false => exact Or.inl rfl
    | true => exact Or.inr (fun hG => (hG f hf).elim (fun e => nI_m1 (by omega) ((call_n h1).symm.trans e)) (fun e => ha (e.symm.trans (call_n h1))))
theorem lk_takes (hTC : TC T tx n) {c : Int32} (hc : ¬ c = 59) : (T s.1 = c ∧ s.1 < n ∧ cTakes n tx c s = (true, sAt (s.1 + 1) s)) ∨ (¬ T s.1 = c ∧ cTakes n tx c s = (false, s)) := by
  by_cases hp : s.1 < n
  · by_cases q : T s.1 = c
    · exact Or.inl ⟨q, hp, cTakes_t ⟨hp, by rw [← hTC.2.1 _ hp]; exact q⟩⟩
    · exact Or.inr ⟨q, cTakes_f (fun z => q (by rw [hTC.2.1 _ hp]; exact z.2))⟩
  · refine Or.inr ⟨?_, cTakes_f (fun z => hp z.1)⟩
    rw [hTC.2.2 _ (by omega)]
    exact fun e => hc e.symm
theorem lk_argl (hTC : TC T tx n) {len kk : Nat} (hE : LEx ar T n (len + 1) E) (hM : MA E) (hB : EB n E) (hf : f < 4) (ha : ar f = nI kk) (hkk : kk ≤ 3) : ∀ (m cnt : Nat) (s : TS), cnt + m = 3 → cnt < kk → Bd n s → s.2.1 ≤ s.1 → Fit ar (aA s) → st.length = len → OKr ar T s (cArgL n tx E f m cnt s) lv st (sm ar T s.1 true (2 + f, cnt, 0) (lv :: st)) ∨ (sm ar T s.1 true (2 + f, cnt, 0) (lv :: st) = none ∧ ((cArgL n tx E f m cnt s).1 = false ∨ ¬ Fit ar (aA (cArgL n tx E f m cnt s).2))) := by
  intro m
  have hn := hTC.1
  induction m with
  | zero => intro cnt s h1 h2; omega
  | succ m ih =>
    intro cnt s hm hck hb hz hF hl
    have hun : cArgL n tx E f (m + 1) cnt s = if (E s).1 then (if (cTakes n tx 44 (E s).2).1 then cArgL n tx E f m (cnt + 1) (cTakes n tx 44 (E s).2).2 else if (cTakes n tx 41 (cTakes n tx 44 (E s).2).2).1 then cCall f (cnt + 1) (cTakes n tx 41 (cTakes n tx 44 (E s).2).2).2 else cTakes n tx 41 (cTakes n tx 44 (E s).2).2) else E s := rfl
    rcases hE s (2 + f, cnt, 0) (lv :: st) hb hz hF (by rw [List.length_cons, hl]) rfl with ⟨⟨h1, h2, h3, J, h4, h5, h6⟩, h7⟩ | ⟨h1, h2⟩
    · have hb2 := hB s hb h1
      have hq : (E s).2.1 < 152 := by have := hb2.1; omega
      have hz2 : (E s).2.2.1 = s.2.1 + J.length := h4.1
      rw [h1, if_pos rfl] at hun
      rcases lk_takes (s := (E s).2) hTC (c := 44) (by decide) with ⟨c1, c2, c3⟩ | ⟨c1, c3⟩
      · simp only [c3, ↓reduceIte] at hun
        rw [hun, h6, sm_comma hq c1]
        show OKr _ _ _ _ _ _ (prep J (prep (opI 0) (if ¬ 2 + f = 1 ∧ nI (cnt + 1) < ar (2 + f - 2) then _ else none))) ∨ _
        rw [show opI 0 = [] from rfl, prep_nil, show 2 + f - 2 = f by omega, ha]
        by_cases c4 : cnt + 1 < kk
        · rw [if_pos ⟨by omega, nI_lt c4 (by omega)⟩]
          rcases ih (cnt + 1) (sAt ((E s).2.1 + 1) (E s).2) (by omega) c4 (bd_at hb2 c2) (by show (E s).2.2.1 ≤ (E s).2.1 + 1; omega) h2 hl with ⟨g1, g2, g3, K, g4, g5, g6⟩ | ⟨g1, g2⟩
          · have g3 : (E s).2.1 + 1 < _ := g3
            have g5 : K.length + ((E s).2.1 + 1) ≤ _ := g5
            refine Or.inl ⟨g1, g2, by omega, J ++ K, em_trans h4 (em_trans em_at g4), by rw [List.length_append]; omega, ?_⟩
            rw [← prep_prep]
            exact congrArg (prep J) g6
          · exact Or.inr ⟨prep_none.mpr g1, g2⟩
        · rw [if_neg (fun z => c4 ((nI_ltI (by omega) (by omega)).mp z.2))]
          refine Or.inr ⟨rfl, ?_⟩
          cases g1 : (cArgL n tx E f m (cnt + 1) (sAt ((E s).2.1 + 1) (E s).2)).1 with
          | false => exact Or.inl rfl
          | true =>
            obtain ⟨-, c, q1, q2, q3⟩ := ma_argl hM m (cnt + 1) _ g1
            refine Or.inr (fun hG => (hG f hf).elim (fun e => nI_m1 (by omega) (q3.symm.trans e)) (fun e => ?_))
            have q4 := (nI_eq (a := c) (b := kk) (by omega) (by omega)).mp (q3.symm.trans (e.trans ha))
            omega
      · simp only [c3, ↓reduceIte, Bool.false_eq_true] at hun
        rcases lk_takes (s := (E s).2) hTC (c := 41) (by decide) with ⟨d1, d2, d3⟩ | ⟨d1, d3⟩
        · simp only [d3, ↓reduceIte] at hun
          rw [hun, h6, sm_close hq d1]
          show OKr _ _ _ _ _ _ (prep J (prep (opI 0) (if 2 + f = 1 then _ else if ar (2 + f - 2) = nI (cnt + 1) then prep [iw 4 (nI (2 + f - 2))] _ else none))) ∨ _
          rw [show opI 0 = [] from rfl, prep_nil, if_neg (by omega), show 2 + f - 2 = f by omega]
          rcases lk_call (s := sAt ((E s).2.1 + 1) (E s).2) (cnt := cnt + 1) h2 hf (by show (E s).2.2.1 < 151; omega) (by omega) with ⟨k1, k2, k3, k4, k5⟩ | ⟨k1, k2⟩
          · have k5 : (cCall f (cnt + 1) (sAt ((E s).2.1 + 1) (E s).2)).2.1 = (E s).2.1 + 1 := k5
            rw [if_pos k1]
            refine Or.inl ⟨k2, k3, by omega, J ++ [iw 4 (nI f)], em_trans h4 (em_trans em_at k4), by rw [List.length_append, List.length_singleton]; omega, ?_⟩
            rw [← prep_prep, k5]
          · rw [if_neg k1]
            exact Or.inr ⟨rfl, k2⟩
        · simp only [d3, ↓reduceIte, Bool.false_eq_true] at hun
          rw [hun, h6, sm_bad hq h7 d1 c1]
          exact Or.inr ⟨rfl, Or.inl rfl⟩
    · refine Or.inr ⟨h1, ?_⟩
      cases hE1 : (E s).1 with
      | false =>
        rw [hE1, if_neg (by decide)] at hun
        rw [hun]
        exact Or.inl hE1
      | true =>
        rw [hE1, if_pos rfl] at hun
        have hb2 := hB s hb hE1
        rw [hE1] at h2
        rcases h2 with h2 | h2 | h2
        · cases h2
        · cases g1 : (cArgL n tx E f (m + 1) cnt s).1 with
          | false => exact Or.inl rfl
          | true =>
            refine Or.inr (fun hG => h2 (fun g hg => ?_))
            by_cases c : aA (E s).2 g = -1
            · exact Or.inl c
            · have e : aA (cArgL n tx E f (m + 1) cnt s).2 g = aA (E s).2 g := by
                rw [hun] at g1 ⊢
                by_cases c2 : (cTakes n tx 44 (E s).2).1 = true
                · rw [if_pos c2] at g1 ⊢
                  rw [(ma_argl hM m (cnt + 1) _ g1).1 g (by rw [takes_A]; exact c), takes_A]
                · rw [if_neg c2] at g1 ⊢
                  by_cases c3 : (cTakes n tx 41 (cTakes n tx 44 (E s).2).2).1 = true
                  · rw [if_pos c3] at g1 ⊢
                    rw [call_A (by rw [takes_A, takes_A]; exact c) g1, takes_A, takes_A]
                  · rw [if_neg c3] at g1
                    exact absurd g1 c3
              rw [← e]
              exact hG g hg
        · have t44 : ¬ T (E s).2.1 = 44 := fun e => by rw [e] at h2; exact absurd h2.1 (by decide)
          have t41 : ¬ T (E s).2.1 = 41 := fun e => by rw [e] at h2; exact absurd h2.1 (by decide)
          have e44 := ((lk_takes (s := (E s).2) hTC (c := 44) (by decide)).resolve_left (fun z => t44 z.1)).2
          have e41 := ((lk_takes (s := (E s).2) hTC (c := 41) (by decide)).resolve_left (fun z => t41 z.1)).2
          simp only [e44, e41, ↓reduceIte, Bool.false_eq_true] at hun
          rw [hun]
          exact Or.inl rfl
end LB

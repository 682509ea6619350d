-- THE LINK of the translator to the spec: whole expressions
section LD
variable {s t u : TS} {J K : List Int32} {n : Nat} {tx ar T : Nat → Int32} {st : List LV} {f cnt : Nat} {E Tm : TS → Bool × TS}
theorem op_pk {p : Nat} (hTC : TC T tx n) : isOp (pk n tx p) = isOp (T p) := by
  by_cases q : p < n
  · rw [pk_tin hTC q]
  · rw [pk_tout q, hTC.2.2 p (by omega)]
    rfl
theorem op_dig {c : Int32} (hd : isDg c) : ¬ isOp c = true := fun ho => by
  obtain ⟨h1, h2⟩ := hd
  unfold isOp at ho
  simp only [Bool.or_eq_true, decide_eq_true_eq] at ho
  rcases ho with ((((h | h) | h) | h) | h) | h <;> subst h <;> revert h1 h2 <;> decide
theorem lk_loop (hTC : TC T tx n) {len : Nat} (hTm : LTm ar T n len Tm) (hM : MA Tm) (hB : EB n Tm) : ∀ (m : Nat) (s : TS) (lv : LV) (st : List LV), lv.2.2 = 0 → Bd n s → s.2.1 ≤ s.1 → Fit ar (aA s) → st.length = len → 151 ≤ s.1 + m →
    ((cLoop n tx Tm m s).1 = true ∧ Fit ar (aA (cLoop n tx Tm m s).2) ∧ s.1 ≤ (cLoop n tx Tm m s).2.1 ∧ (∃ J, Em J s (cLoop n tx Tm m s).2 ∧ J.length + s.1 ≤ (cLoop n tx Tm m s).2.1 ∧ sm ar T s.1 false lv st = prep J (sm ar T (cLoop n tx Tm m s).2.1 false lv st)) ∧ ¬ isOp (T (cLoop n tx Tm m s).2.1) = true) ∨ NOr ar T (cLoop n tx Tm m s) (sm ar T s.1 false lv st) := by
  intro m
  have hn := hTC.1
  induction m with
  | zero => intro s lv st hlv hb hz hF hl hm; have := hb.1; omega
  | succ m ih =>
    intro s lv st hlv hb hz hF hl hm
    have hp : s.1 < 152 := by have := hb.1; omega
    have hun : cLoop n tx Tm (m + 1) s = if isOp (pk n tx s.1) = true then (if (Tm (sAt (s.1 + 1) s)).1 then cLoop n tx Tm m (cEmit 3 (pk n tx s.1) (Tm (sAt (s.1 + 1) s)).2) else Tm (sAt (s.1 + 1) s)) else (true, s) := rfl
    rw [op_pk hTC] at hun
    by_cases ho : isOp (T s.1) = true
    · have hpn : s.1 < n := by
        rcases Nat.lt_or_ge s.1 n with q | q
        · exact q
        · rw [hTC.2.2 _ q] at ho; exact absurd ho (by decide)
      rw [if_pos ho, pk_tin hTC hpn] at hun
      have hop0 : ¬ T s.1 = 0 := fun e => by rw [e] at ho; exact absurd ho (by decide)
      have hopI : opI (T s.1) = [iw 3 (T s.1)] := if_neg hop0
      have hlv2 : lv = (lv.1, lv.2.1, 0) := by rw [← hlv]
      rw [sm_op hp ho, hlv, show opI 0 = [] from rfl, prep_nil]
      rcases hTm (sAt (s.1 + 1) s) (lv.1, lv.2.1, T s.1) st (bd_at hb hpn) (by show s.2.1 ≤ s.1 + 1; omega) hF hl with ⟨h1, h2, h3, J, h4, h5, h6⟩ | ⟨h1, h2⟩
      · have h3 : s.1 + 1 < _ := h3
        have h5 : J.length + (s.1 + 1) ≤ _ := h5
        have h6 : sm ar T (s.1 + 1) true (lv.1, lv.2.1, T s.1) st = prep J (sm ar T (Tm (sAt (s.1 + 1) s)).2.1 false (lv.1, lv.2.1, T s.1) st) := h6
        have hb2 := hB _ (bd_at hb hpn) h1
        have hq := hb2.1
        have hz2 : (Tm (sAt (s.1 + 1) s)).2.2.1 = s.2.1 + J.length := h4.1
        rw [if_pos h1] at hun
        have hem := em_emit (s := (Tm (sAt (s.1 + 1) s)).2) (op := 3) (x := T s.1) (by omega)
        have hsz : (cEmit 3 (T s.1) (Tm (sAt (s.1 + 1) s)).2).2.1 = s.2.1 + J.length + 1 := by rw [hem.1, hz2]; rfl
        rw [sm_H0, ← hlv2, hopI] at h6
        rw [h6, hun]
        rcases ih (cEmit 3 (T s.1) (Tm (sAt (s.1 + 1) s)).2) lv st hlv (bd_emit hb2) (by rw [hsz, emit_at]; omega) (by rw [emit_A]; exact h2) hl (by rw [emit_at]; omega) with ⟨g1, g2, g3, ⟨K, g4, g5, g6⟩, g7⟩ | ⟨g1, g2⟩
        · rw [emit_at] at g3 g5 g6
          refine Or.inl ⟨g1, g2, by omega, ⟨J ++ ([iw 3 (T s.1)] ++ K), em_trans (J := []) em_at (em_trans h4 (em_trans hem g4)), ?_, ?_⟩, g7⟩
          · rw [List.length_append, List.length_append, List.length_singleton]; omega
          · rw [g6, prep_prep, prep_prep, List.append_assoc]
        · rw [emit_at] at g1
          exact Or.inr ⟨by rw [g1]; rfl, g2⟩
      · refine Or.inr ⟨h1, ?_⟩
        cases hT1 : (Tm (sAt (s.1 + 1) s)).1 with
        | false =>
          rw [hT1, if_neg (by decide)] at hun
          rw [hun]
          exact Or.inl hT1
        | true =>
          rw [hT1, if_pos rfl] at hun
          rw [hT1] at h2
          have hb2 := hB _ (bd_at hb hpn) hT1
          rcases h2 with h2 | h2 | h2
          · cases h2
          · rw [hun]
            cases g1 : (cLoop n tx Tm m (cEmit 3 (T s.1) (Tm (sAt (s.1 + 1) s)).2)).1 with
            | false => exact Or.inl rfl
            | true =>
              refine Or.inr (Or.inl (fun hG => h2 (fun g hg => ?_)))
              by_cases c : aA (Tm (sAt (s.1 + 1) s)).2 g = -1
              · exact Or.inl c
              · have e := ma_loop hM m _ g (by rw [emit_A]; exact c) g1
                rw [emit_A] at e
                rw [← e]
                exact hG g hg
          · have hm0 : ∃ m', m = m' + 1 := ⟨m - 1, by omega⟩
            obtain ⟨m', rfl⟩ := hm0
            have e : cLoop n tx Tm (m' + 1) (cEmit 3 (T s.1) (Tm (sAt (s.1 + 1) s)).2) = (true, cEmit 3 (T s.1) (Tm (sAt (s.1 + 1) s)).2) := by
              show (if isOp (pk n tx (cEmit 3 (T s.1) (Tm (sAt (s.1 + 1) s)).2).1) = true then _ else (true, cEmit 3 (T s.1) (Tm (sAt (s.1 + 1) s)).2)) = _
              rw [op_pk hTC, emit_at, if_neg (op_dig h2)]
            rw [hun, e]
            exact Or.inr (Or.inr (by show isDg (T (cEmit 3 _ _).1); rw [emit_at]; exact h2))
    · rw [if_neg ho] at hun
      rw [hun]
      exact Or.inl ⟨rfl, hF, Nat.le_refl _, ⟨[], em_nil rfl rfl rfl rfl rfl rfl, by rw [List.length_nil]; show 0 + s.1 ≤ s.1; omega, by rw [prep_nil]⟩, ho⟩
theorem lk_ex (hTC : TC T tx n) {len : Nat} (hTm : LTm ar T n len Tm) (hM : MA Tm) (hB : EB n Tm) : LEx ar T n len (cEx n tx Tm) := by
  intro s lv st hb hz hF hl hlv
  have hn := hTC.1
  have hun : cEx n tx Tm s = if (Tm s).1 then cLoop n tx Tm 150 (Tm s).2 else Tm s := rfl
  rcases hTm s lv st hb hz hF hl with ⟨h1, h2, h3, J, h4, h5, h6⟩ | ⟨h1, h2⟩
  · have hb2 := hB s hb h1
    rw [if_pos h1] at hun
    rw [hun, h6]
    rcases lk_loop hTC hTm hM hB 150 (Tm s).2 lv st hlv hb2 (by rw [h4.1]; omega) h2 hl (by omega) with ⟨g1, g2, g3, ⟨K, g4, g5, g6⟩, g7⟩ | ⟨g1, g2⟩
    · exact Or.inl ⟨⟨g1, g2, by omega, J ++ K, em_trans h4 g4, by rw [List.length_append]; omega, by rw [g6, prep_prep]⟩, g7⟩
    · exact Or.inr ⟨by rw [g1]; rfl, g2⟩
  · refine Or.inr ⟨h1, ?_⟩
    cases hT1 : (Tm s).1 with
    | false =>
      rw [hT1, if_neg (by decide)] at hun
      rw [hun]
      exact Or.inl hT1
    | true =>
      rw [hT1, if_pos rfl] at hun
      rw [hT1] at h2
      rw [hun]
      rcases h2 with h2 | h2 | h2
      · cases h2
      · cases g1 : (cLoop n tx Tm 150 (Tm s).2).1 with
        | false => exact Or.inl rfl
        | true =>
          refine Or.inr (Or.inl (fun hG => h2 (fun g hg => ?_)))
          by_cases c : aA (Tm s).2 g = -1
          · exact Or.inl c
          · have e := ma_loop hM 150 _ g c g1
            rw [← e]
            exact hG g hg
      · have e : cLoop n tx Tm 150 (Tm s).2 = (true, (Tm s).2) := by
          show (if isOp (pk n tx (Tm s).2.1) = true then _ else (true, (Tm s).2)) = _
          rw [op_pk hTC, if_neg (op_dig h2)]
        rw [e]
        exact Or.inr (Or.inr h2)
theorem lk_E (hTC : TC T tx n) (hTX : TX T n) (hA : Ars ar) : ∀ k, k ≤ 5 → LEx ar T n (5 - k) (cE n tx k) := by
  intro k
  induction k with
  | zero =>
    intro _
    have hM : MA (fun s : TS => ((false, s) : Bool × TS)) := fun s f hf h1 => by cases h1
    have hB : EB n (fun s : TS => ((false, s) : Bool × TS)) := fun s hb h1 => by cases h1
    exact lk_ex hTC (lk_term hTC hTX (by decide) (fun z => absurd rfl z) hM hB hA) (ma_term hM) (bd_term hB)
  | succ k ih =>
    intro hk
    have h1 := ih (by omega)
    exact lk_ex hTC (lk_term hTC hTX hk (fun _ => by rw [show 5 - (k + 1) + 1 = 5 - k by omega]; exact h1) (ma_E k) (bd_E k) hA) (ma_term (ma_E k)) (bd_term (bd_E k))
end LD

-- THE LINK of the translator's statements
def OKb (ar T : Nat → Int32) (n k : Nat) (s : TS) (r : Bool × TS) : Prop := r.1 = true ∧ Fit ar (aA r.2) ∧ Exs s r.2 ∧ ∃ e f, r.2.1 = e + 1 ∧ T s.1 = 123 ∧ T e = 125 ∧ 0 < k ∧ (∀ oh, S0 ar T n r.2 f (k - 1) (s.1 + 1) e s.2.1 r.2.2.1 s.2.2.1 r.2.2.2.1 (-1) oh) ∧ r.2.2.1 + s.1 + 2 ≤ s.2.1 + r.2.1
def LBk (ar T : Nat → Int32) (n k : Nat) (B : TS → Bool × TS) : Prop := ∀ (s : TS) (st : List Nat) (τ : TB), Bd n s → s.2.1 ≤ s.1 + 1 → Fit ar (aA s) → st.length + k = 6 → τ.2.2.2 = s.2.2.1 → OKb ar T n k s (B s) ∨ ((T s.1 = 123 → st.length < 6 → bm ar T n (s.1 + 1) (s.1 :: st) τ = none) ∧ ((B s).1 = false ∨ ¬ Fit ar (aA (B s).2)))
def OKs (ar T : Nat → Int32) (n k : Nat) (s : TS) (r : Bool × TS) : Prop := r.1 = true ∧ Fit ar (aA r.2) ∧ Exs s r.2 ∧ (∃ f, ∀ oh, SS0 ar T n r.2 f k s.1 r.2.1 s.2.1 r.2.2.1 s.2.2.1 r.2.2.2.1 (-1) oh) ∧ r.2.2.1 + s.1 ≤ s.2.1 + r.2.1
def LSt (ar T : Nat → Int32) (n k : Nat) (St : TS → Bool × TS) : Prop := ∀ (s : TS) (o : Nat) (st : List Nat) (τ : TB), Bd n s → s.2.1 ≤ s.1 → Fit ar (aA s) → st.length + 1 + k = 6 → τ.2.2.2 = s.2.2.1 → ¬ T s.1 = 125 → OKs ar T n k s (St s) ∨ (bm ar T n s.1 (o :: st) τ = none ∧ ((St s).1 = false ∨ ¬ Fit ar (aA (St s).2)))
section LF
variable {s t u : TS} {n : Nat} {tx ar T : Nat → Int32} {B St : TS → Bool × TS}
theorem end_em {c : Int32} (hz : s.2.1 < 151) : Em [endI c] s (cEnd c s) := by
  unfold cEnd endI
  split
  · exact em_emit hz
  split
  · exact em_emit hz
  split
  · exact em_emit hz
  · exact em_emit hz
theorem end_at {c : Int32} : (cEnd c s).1 = s.1 := by
  unfold cEnd
  split
  · exact emit_at
  split
  · exact emit_at
  split
  · exact emit_at
  · exact emit_at
theorem aim_iw {op x : Int32} (h : op = 9 ∨ op = 10) : (iw op 0 &&& (15 : Int32)) ||| (x <<< ((4 : Int32) &&& 31)) = iw op x := by
  unfold iw
  rcases h with e | e
  · rw [e, show ((0 : Int32) <<< ((4 : Int32) &&& 31) ||| 9) &&& 15 = 9 from by decide, Int32.or_comm]
  · rw [e, show ((0 : Int32) <<< ((4 : Int32) &&& 31) ||| 10) &&& 15 = 10 from by decide, Int32.or_comm]
theorem aim_t {j : Nat} (hj : j < s.2.1) : (cAim j s).1 = s.1 ∧ (cAim j s).2.1 = s.2.1 ∧ (cAim j s).2.2.1 = s.2.2.1 ∧ aI (cAim j s) = up (aI s) j ((aI s j &&& (15 : Int32)) ||| (nI s.2.1 <<< ((4 : Int32) &&& 31))) ∧ aH (cAim j s) = aH s ∧ aS (cAim j s) = aS s ∧ aP (cAim j s) = aP s := by
  obtain ⟨a, z, l, I, H, S, P, A⟩ := s
  have hj : j < z := hj
  have e : cAim j (a, z, l, I, H, S, P, A) = (a, z, l, up I j ((I j &&& (15 : Int32)) ||| (nI z <<< ((4 : Int32) &&& 31))), H, S, P, A) := if_pos hj
  rw [e]
  exact ⟨rfl, rfl, rfl, rfl, rfl, rfl, rfl⟩
theorem bm_40 {p o : Nat} {st : List Nat} {τ : TB} (hp : p < 152) (h1 : ¬ T p = 125) (h40 : 40 ≤ τ.2.2.2) : bm ar T n p (o :: st) τ = none := by
  rw [bm.eq_def ar T n p (o :: st) τ]
  simp only [hp, h1, h40, dite_true, if_true, if_false]
  split
  · rfl
  · split <;> rfl
/-- s before the statement, t where its expression begins -/
theorem lk_st3 (hTC : TC T tx n) (hTX : TX T n) (hA : Ars ar) {k o : Nat} {st : List Nat} {τ : TB} (hB : LBk ar T n k B) (hM : MA B) (hE : EB n B) (hN : ∀ s : TS, ¬ T s.1 = 123 → (B s).1 = false) (hp : s.1 < n) (hz : s.2.1 ≤ s.1) (hl : st.length + 1 + k = 6) (hlm : τ.2.2.2 = s.2.2.1) (h125 : ¬ T s.1 = 125) (h40 : s.2.2.1 < 40) (hx : Exs s t) (hi : aI t s.2.1 = iw 5 (nI s.2.2.1)) (ht1 : t.1 = s.1 + sx T s.1) (ht2 : t.2.1 = s.2.1 + 1) (ht3 : t.2.2.1 = s.2.2.1 + 1) (hF : Fit ar (aA t)) (hb : Bd n t) (hc : (97 ≤ T s.1 ∧ T s.1 ≤ 102 ∧ T (s.1 + 1) = 61) ∨ isBe (T s.1) = true) : OKs ar T n k s (cSt3 n tx B (T s.1) s.2.1 t) ∨ (bm ar T n s.1 (o :: st) τ = none ∧ ((cSt3 n tx B (T s.1) s.2.1 t).1 = false ∨ ¬ Fit ar (aA (cSt3 n tx B (T s.1) s.2.1 t).2))) := by
  have hn := hTC.1
  have h126 : ¬ T s.1 = 126 := fun e => by
    rcases hc with h | h
    · rw [e] at h; exact absurd h.2.1 (by decide)
    · rw [e] at h; exact absurd h (by decide)
  have hsx : 1 ≤ sx T s.1 := by unfold sx; split <;> omega
  have hstN : sm ar T (s.1 + sx T s.1) true (0, 0, 0) [] = none → stS ar T n s.1 = none := fun h => by
    unfold stS
    rw [if_neg h126, if_pos hc, h]
  have hstS : ∀ x, sm ar T (s.1 + sx T s.1) true (0, 0, 0) [] = some x → stS ar T n s.1 = if T s.1 = 63 ∨ T s.1 = 64 then (if T x.1 = 123 then some (x.1 + 1, if T s.1 = 63 then 1 else 2) else none) else (if T x.1 = 59 ∧ x.1 < n then some (x.1 + 1, 0) else none) := fun x h => by
    unfold stS
    rw [if_neg h126, if_pos hc, h]
  have hun : cSt3 n tx B (T s.1) s.2.1 t = if (cE n tx 5 t).1 then (if T s.1 = 63 ∨ T s.1 = 64 then cGrd B (decide (T s.1 = 64)) s.2.1 (cE n tx 5 t).2 else cTakes n tx 59 (cEnd (T s.1) (cE n tx 5 t).2)) else cE n tx 5 t := rfl
  rcases lk_E hTC hTX hA 5 (by decide) t (0, 0, 0) [] hb (by omega) hF rfl rfl with ⟨⟨h1, h2, h3, J, h4, h5, h6⟩, h7⟩ | ⟨h1, h2⟩
  · have hb2 := bd_E 5 t hb h1
    have hq : (cE n tx 5 t).2.1 < 152 := by have := hb2.1; omega
    have hq2 := hb2.1
    rw [sm_end hq h7, show opI ((0, 0, 0) : LV).2.2 = [] from rfl, prep_nil] at h6
    have h6 : sm ar T (s.1 + sx T s.1) true (0, 0, 0) [] = some ((cE n tx 5 t).2.1, J) := by
      rw [← ht1, h6]
      show some (_, J ++ []) = _
      rw [List.append_nil]
    have hz2 : (cE n tx 5 t).2.2.1 = s.2.1 + 1 + J.length := by rw [h4.1, ht2]
    have hstS := hstS _ h6
    rw [if_pos h1] at hun
    have hxt := ex_trans hx (em_ex h4)
    have hi2 : aI (cE n tx 5 t).2 s.2.1 = iw 5 (nI s.2.2.1) := by rw [(h4.2.2.1 s.2.1 (by omega)).1]; exact hi
    have hli : (cE n tx 5 t).2.2.2.1 = s.2.2.1 + 1 := by rw [h4.2.1, ht3]
    have hat : At (aI (cE n tx 5 t).2) (s.2.1 + 1) J := by rw [← ht2]; exact h4.2.2.2.1
    have hhr : ∀ y, s.2.1 + 1 ≤ y → y < (cE n tx 5 t).2.2.1 → aH (cE n tx 5 t).2 y = -1 := fun y g1 g2 => h4.2.2.2.2.1 y (by omega) g2
    generalize hr : (cE n tx 5 t).2 = r at *
    by_cases cg : T s.1 = 63 ∨ T s.1 = 64
    · rw [if_pos cg] at hun
      have hsx1 := sx_1 cg
      rw [hsx1] at h6 ht1
      have hem := em_emit (s := r) (op := 9) (x := 0) (by omega)
      have hr1 : (cEmit 9 0 r).1 = r.1 := emit_at
      have hrz : (cEmit 9 0 r).2.1 = s.2.1 + 2 + J.length := by rw [hem.1, hz2]; show _ + 1 = _; omega
      have hrl : (cEmit 9 0 r).2.2.1 = s.2.2.1 + 1 := hem.2.1.trans hli
      have hg3 : (if T s.1 = 63 then 1 else 2) = 1 ∨ (if T s.1 = 63 then 1 else 2) = 2 := by
        split
        · exact Or.inl rfl
        · exact Or.inr rfl
      have hung : cGrd B (decide (T s.1 = 64)) s.2.1 r = if (B (cEmit 9 0 r)).1 then (true, cAim r.2.1 (if decide (T s.1 = 64) then cEmit 10 (nI s.2.1) (B (cEmit 9 0 r)).2 else (B (cEmit 9 0 r)).2)) else B (cEmit 9 0 r) := rfl
      rcases hB (cEmit 9 0 r) (o :: st) (up τ.1 r.1 (nI (if T s.1 = 63 then 1 else 2)), up τ.2.1 r.1 (nI s.1), up τ.2.2.1 s.1 (nI s.2.2.1), s.2.2.1 + 1) (bd_emit hb2) (by rw [hrz, hr1]; omega) (by rw [emit_A]; exact h2) (by rw [List.length_cons]; omega) hrl.symm with ⟨k1, k2, k3, e, f, k4, k5, k6, k7, k8, k9⟩ | ⟨k1, k2⟩
      · left
        rw [hun, hung, if_pos k1]
        rw [hr1] at k5 k8 k9
        rw [hrz] at k8 k9
        rw [hrl] at k8
        have hB2 := hE _ (bd_emit hb2) k1
        have hBa := hB2.1
        generalize hv : (B (cEmit 9 0 r)).2 = v at *
        -- the jump back, if it is a loop
        have hw : ∃ w : TS, (if decide (T s.1 = 64) then cEmit 10 (nI s.2.1) v else v) = w ∧ w.1 = v.1 ∧ w.2.2.1 = v.2.2.1 ∧ aA w = aA v ∧ Exs v w ∧ (T s.1 = 63 → w.2.1 = v.2.1) ∧ (T s.1 = 64 → w.2.1 = v.2.1 + 1 ∧ aI w v.2.1 = iw 10 (nI s.2.1)) := by
          by_cases c64 : T s.1 = 64
          · have hem2 := em_emit (s := v) (op := 10) (x := nI s.2.1) (by omega)
            refine ⟨_, by rw [if_pos (decide_eq_true c64)], emit_at, hem2.2.1, emit_A, em_ex hem2, fun e => by rw [e] at c64; exact absurd c64 (by decide), fun _ => ⟨hem2.1, hem2.2.2.2.1.1⟩⟩
          · exact ⟨v, by rw [if_neg (fun z => c64 (of_decide_eq_true z))], rfl, rfl, rfl, ⟨Nat.le_refl _, fun _ _ => ⟨rfl, rfl⟩, rfl, rfl⟩, fun _ => rfl, fun e => absurd e c64⟩
        obtain ⟨w, w0, w1, w2, w3, w4, w5, w6⟩ := hw
        rw [w0]
        have hwz : v.2.1 ≤ w.2.1 ∧ w.2.1 ≤ v.2.1 + 1 := by
          rcases cg with c | c
          · have := w5 c; omega
          · have := (w6 c).1; omega
        have hvz : s.2.1 + 2 + J.length ≤ v.2.1 := by have := k3.1; omega
        obtain ⟨a1, a2, a3, a4, a5, a6, a7⟩ := aim_t (s := w) (j := r.2.1) (by omega)
        have hIr : aI w r.2.1 = iw 9 0 := by
          rw [(w4.2.1 r.2.1 (by omega)).1, (k3.2.1 r.2.1 (by omega)).1]
          exact hem.2.2.2.1.1
        rw [hIr, aim_iw (Or.inl rfl)] at a4
        have hIt : ∀ y, y < w.2.1 → ¬ y = r.2.1 → aI (cAim r.2.1 w) y = aI w y := fun y _ hy => by rw [a4]; exact up_ne hy
        have hlow : ∀ y, y < r.2.1 → aI (cAim r.2.1 w) y = aI r y ∧ aH (cAim r.2.1 w) y = aH r y := fun y hy => by
          rw [hIt y (by omega) (by omega), a5, (w4.2.1 y (by omega)).1, (w4.2.1 y (by omega)).2, (k3.2.1 y (by omega)).1, (k3.2.1 y (by omega)).2]
          exact hem.2.2.1 y hy
        refine ⟨rfl, ?_, ?_, ?_, ?_⟩
        · show Fit ar (aA (cAim r.2.1 w)); rw [aim_A, w3]; exact k2
        · exact ⟨by show s.2.1 ≤ (cAim r.2.1 w).2.1; omega, fun y hy => ⟨(hlow y (by omega)).1.trans (hxt.2.1 y hy).1, (hlow y (by omega)).2.trans (hxt.2.1 y hy).2⟩, a6.trans (w4.2.2.1.trans (k3.2.2.1.trans (hem.2.2.2.2.2.1.trans hxt.2.2.1))), a7.trans (w4.2.2.2.trans (k3.2.2.2.trans (hem.2.2.2.2.2.2.trans hxt.2.2.2)))⟩
        · refine ⟨f, fun oh => ⟨h125, h40, hp, ?_, trivial, Or.inr (Or.inl ⟨r.1, e, v.2.1, J, cg, h6, k5, ?_, ?_, ⟨k7, ?_⟩, k6, trivial, ?_, ?_, ?_⟩)⟩⟩
          · exact (hlow s.2.1 (by omega)).1.trans hi2
          · rw [at_app]
            refine ⟨at_congr J _ (fun y g1 g2 => (hlow y (by omega)).1) hat, ?_, trivial⟩
            show aI (cAim r.2.1 w) (s.2.1 + 1 + J.length) = iw 9 (nI (cAim r.2.1 w).2.1)
            rw [a4, show s.2.1 + 1 + J.length = r.2.1 by omega, a2]
            exact up_eq
          · intro y g1 g2
            show aH (cAim r.2.1 w) y = -1
            by_cases c : y = r.2.1
            · subst c
              rw [a5, (w4.2.1 r.2.1 (by omega)).2, (k3.2.1 r.2.1 (by omega)).2]
              exact hem.2.2.2.2.1 r.2.1 (Nat.le_refl _) (by omega)
            · rw [(hlow y (by omega)).2]
              exact hhr y g1 (by omega)
          · have := s0_ex hTX (t := cAim r.2.1 w) (fun y g1 g2 => ⟨by rw [hIt y (by omega) (by omega)]; exact (w4.2.1 y g2).1, by rw [a5]; exact (w4.2.1 y g2).2⟩) (by omega) (k8 oh)
            rw [← w2, ← a3] at this
            exact this
          · show (cAim r.2.1 w).1 = e + 1
            omega
          · intro c; show (cAim r.2.1 w).2.1 = v.2.1; rw [a2]; exact w5 c
          · intro c
            have := w6 c
            exact ⟨by show aI (cAim r.2.1 w) v.2.1 = _; rw [hIt _ (by omega) (by omega)]; exact this.2, by show (cAim r.2.1 w).2.1 = _; rw [a2]; exact this.1⟩
        · show (cAim r.2.1 w).2.1 + s.1 ≤ s.2.1 + (cAim r.2.1 w).1
          omega
      · right
        refine ⟨?_, ?_⟩
        · by_cases c123 : T r.1 = 123
          · have hs2 : stS ar T n s.1 = some (r.1 + 1, if T s.1 = 63 then 1 else 2) := by
              rw [hstS]
              show (if T s.1 = 63 ∨ T s.1 = 64 then (if T r.1 = 123 then some (r.1 + 1, if T s.1 = 63 then 1 else 2) else none) else _) = _
              rw [if_pos cg, if_pos c123]
            rw [bm_blk (by omega) h125 hs2 (by omega) (by omega), hlm, if_neg (by omega)]
            by_cases c6 : 6 ≤ st.length + 1
            · rw [if_pos c6]
            · rw [if_neg c6]
              rw [hr1] at k1
              exact k1 c123 (by rw [List.length_cons]; omega)
          · refine bm_none (by omega) h125 ?_
            rw [hstS]
            show (if T s.1 = 63 ∨ T s.1 = 64 then (if T r.1 = 123 then _ else none) else _) = none
            rw [if_pos cg, if_neg c123]
        · rw [hun, hung]
          cases hB1 : (B (cEmit 9 0 r)).1 with
          | false => rw [if_neg (by decide)]; exact Or.inl hB1
          | true =>
            rw [if_pos rfl]
            right
            show ¬ Fit ar (aA (cAim r.2.1 (if decide (T s.1 = 64) then cEmit 10 (nI s.2.1) (B (cEmit 9 0 r)).2 else (B (cEmit 9 0 r)).2)))
            rw [hB1] at k2
            have k3 := k2.resolve_left (by decide)
            rw [aim_A]
            split
            · rw [emit_A]; exact k3
            · exact k3
    · rw [if_neg cg] at hun
      have hem := end_em (s := r) (c := T s.1) (by omega)
      have hs2 : stS ar T n s.1 = if T r.1 = 59 ∧ r.1 < n then some (r.1 + 1, 0) else none := by
        rw [hstS]
        show (if T s.1 = 63 ∨ T s.1 = 64 then _ else (if T r.1 = 59 ∧ r.1 < n then some (r.1 + 1, 0) else none)) = _
        rw [if_neg cg]
      by_cases c59 : T r.1 = 59 ∧ r.1 < n
      · left
        have e59 : cTakes n tx 59 (cEnd (T s.1) r) = (true, sAt (r.1 + 1) (cEnd (T s.1) r)) := by
          have := cTakes_t (n := n) (tx := tx) (s := cEnd (T s.1) r) (c := 59) (by rw [end_at]; exact ⟨c59.2, by rw [← hTC.2.1 _ c59.2]; exact c59.1⟩)
          rw [end_at] at this
          exact this
        rw [hun, e59]
        have hst2 : (97 ≤ T s.1 ∧ T s.1 ≤ 102 ∧ T (s.1 + 1) = 61) ∨ T s.1 = 33 ∨ T s.1 = 94 ∨ T s.1 = 35 := by
          rcases hc with h | h
          · exact Or.inl h
          · unfold isBe at h
            simp only [Bool.or_eq_true, decide_eq_true_eq] at h
            rcases h with (((h | h) | h) | h) | h
            · exact Or.inr (Or.inl h)
            · exact Or.inr (Or.inr (Or.inl h))
            · exact Or.inr (Or.inr (Or.inr h))
            · exact absurd (Or.inl h) cg
            · exact absurd (Or.inr h) cg
        have hv1 : (cEnd (T s.1) r).2.1 = s.2.1 + 2 + J.length := by rw [hem.1, hz2]; show _ + 1 = _; omega
        refine ⟨rfl, ?_, ?_, ⟨0, fun oh => ⟨h125, h40, hp, ?_, trivial, Or.inl ⟨r.1, J, hst2, h6, c59.1, c59.2, ?_, ?_, rfl, hv1, ?_⟩⟩⟩, ?_⟩
        · show Fit ar (aA (cEnd (T s.1) r)); rw [end_A]; exact h2
        · exact ex_trans hxt (em_ex hem)
        · exact (hem.2.2.1 s.2.1 (by omega)).1.trans hi2
        · rw [at_app]
          refine ⟨at_congr J _ (fun y g1 g2 => (hem.2.2.1 y (by omega)).1) hat, ?_⟩
          rw [show s.2.1 + 1 + J.length = r.2.1 by omega]
          exact hem.2.2.2.1
        · intro y g1 g2
          by_cases c : y < r.2.1
          · exact (hem.2.2.1 y c).2.trans (hhr y g1 c)
          · exact hem.2.2.2.2.1 y (by omega) (by omega)
        · exact hem.2.1.trans hli
        · show (cEnd (T s.1) r).2.1 + s.1 ≤ s.2.1 + (r.1 + 1)
          omega
      · right
        refine ⟨bm_none (by omega) h125 (by rw [hs2, if_neg c59]), ?_⟩
        have e59 : cTakes n tx 59 (cEnd (T s.1) r) = (false, cEnd (T s.1) r) := cTakes_f (by
          rw [end_at]
          exact fun z => c59 ⟨by rw [hTC.2.1 _ z.1]; exact z.2, z.1⟩)
        rw [hun, e59]
        exact Or.inl rfl
  · right
    have h1 : sm ar T (s.1 + sx T s.1) true (0, 0, 0) [] = none := by rw [← ht1]; exact h1
    refine ⟨bm_none (by omega) h125 (hstN h1), ?_⟩
    rw [hun]
    cases hE1 : (cE n tx 5 t).1 with
    | false => rw [if_neg (by decide)]; exact Or.inl hE1
    | true =>
      rw [if_pos rfl]
      rw [hE1] at h2
      have h2 := h2.resolve_left (by decide)
      have hb2 := bd_E 5 t hb hE1
      rcases h2 with h2 | h2
      · by_cases cg : T s.1 = 63 ∨ T s.1 = 64
        · rw [if_pos cg]
          cases hG : (cGrd B (decide (T s.1 = 64)) s.2.1 (cE n tx 5 t).2).1 with
          | false => exact Or.inl rfl
          | true => exact Or.inr (ma_fit (ma_grd hM) h2 hG)
        · rw [if_neg cg]
          right
          rw [takes_A, end_A]
          exact h2
      · by_cases cg : T s.1 = 63 ∨ T s.1 = 64
        · rw [if_pos cg]
          have hung : cGrd B (decide (T s.1 = 64)) s.2.1 (cE n tx 5 t).2 = if (B (cEmit 9 0 (cE n tx 5 t).2)).1 then (true, cAim (cE n tx 5 t).2.2.1 (if decide (T s.1 = 64) then cEmit 10 (nI s.2.1) (B (cEmit 9 0 (cE n tx 5 t).2)).2 else (B (cEmit 9 0 (cE n tx 5 t).2)).2)) else B (cEmit 9 0 (cE n tx 5 t).2) := rfl
          have hB1 := hN (cEmit 9 0 (cE n tx 5 t).2) (by rw [emit_at]; exact fun e => by rw [e] at h2; exact absurd h2.2 (by decide))
          rw [hung, hB1, if_neg (by decide)]
          exact Or.inl hB1
        · rw [if_neg cg]
          have e59 : cTakes n tx 59 (cEnd (T s.1) (cE n tx 5 t).2) = (false, cEnd (T s.1) (cE n tx 5 t).2) := cTakes_f (by
            rw [end_at]
            intro z
            rw [hTC.2.1 _ z.1, z.2] at h2
            exact absurd h2.2 (by decide))
          rw [e59]
          exact Or.inl rfl
end LF

-- the translator's blocks and statements
def sLn (b : Nat) (s : TS) : TS := (s.1, s.2.1, b, s.2.2.2)
def isBe (c : Int32) : Bool := c = 33 || c = 94 || c = 35 || c = 63 || c = 64
def cBlkL (n : Nat) (tx : Nat → Int32) (St : TS → Bool × TS) : Nat → TS → Bool × TS
  | 0, s => (false, s)
  | m + 1, s => if s.1 < n ∧ tx s.1 = 125 then (true, sAt (s.1 + 1) s) else if (St s).1 then cBlkL n tx St m (St s).2 else St s
def cBlk (n : Nat) (tx : Nat → Int32) (St : TS → Bool × TS) (s : TS) : Bool × TS := if s.1 < n ∧ tx s.1 = 123 then cBlkL n tx St 41 (sAt (s.1 + 1) s) else (false, s)
def cGrd (B : TS → Bool × TS) (again : Bool) (pt : Nat) (s : TS) : Bool × TS := if (B (cEmit 9 0 s)).1 then (true, cAim s.2.1 (if again then cEmit 10 (nI pt) (B (cEmit 9 0 s)).2 else (B (cEmit 9 0 s)).2)) else B (cEmit 9 0 s)
def cTr2 (B : TS → Bool × TS) (j : Nat) (s : TS) : Bool × TS := if (B s).1 then (true, cAim j (B s).2) else B s
def cTry (B : TS → Bool × TS) (s : TS) : Bool × TS := if (B s).1 then cTr2 B (B s).2.2.1 (cCat s.2.1 (B s).2.2.1 (cEmit 10 0 (B s).2)) else B s
/-- a statement behind its first sign c and its POINT at pt -/
def cSt3 (n : Nat) (tx : Nat → Int32) (B : TS → Bool × TS) (c : Int32) (pt : Nat) (s : TS) : Bool × TS := if (cE n tx 5 s).1 then (if c = 63 ∨ c = 64 then cGrd B (decide (c = 64)) pt (cE n tx 5 s).2 else cTakes n tx 59 (cEnd c (cE n tx 5 s).2)) else cE n tx 5 s
def cSt2 (n : Nat) (tx : Nat → Int32) (B : TS → Bool × TS) (c : Int32) (pt : Nat) (s : TS) : Bool × TS := if c = 126 then cTry B s else if 97 ≤ c ∧ c < 103 then (if (cTakes n tx 61 s).1 then cSt3 n tx B c pt (cTakes n tx 61 s).2 else cTakes n tx 61 s) else if isBe c = true then cSt3 n tx B c pt s else (false, s)
def cSt (n : Nat) (tx : Nat → Int32) (B : TS → Bool × TS) (s : TS) : Bool × TS := if 40 ≤ s.2.2.1 then (false, s) else cSt2 n tx B (pk n tx s.1) s.2.1 (sLn (s.2.2.1 + 1) (cEmit 5 (nI s.2.2.1) (sAt (s.1 + 1) s)))
def cB (n : Nat) (tx : Nat → Int32) : Nat → TS → Bool × TS
  | 0 => fun s => (false, s)
  | k + 1 => cBlk n tx (cSt n tx (cB n tx k))
section TE
variable {xs : Nat → Int32} {L d : Nat} {h : Hp} {res : Res} {n : Nat} {tx : Nat → Int32} {s : TS}
theorem rnC {d1 d2 mi : Nat} {as : List AV} {r : Res} (e : d1 = d2) (hr : Rn xs L d1 mi as h r) : Rn xs L d2 mi as h r := e ▸ hr
theorem tw_lnS {b : Nat} : sI (tH h s) 6 9 (nI b) = tH h (sLn b s) := by
  obtain ⟨a, z, l, I, H, S, P, A⟩ := s
  exact tw_ln
theorem idx_be {c : Int32} (hc : isBe c = true) : ¬ s_idx c (s_txt 2) 0 < 0 := by
  unfold isBe at hc
  simp only [Bool.or_eq_true, decide_eq_true_eq] at hc
  rcases hc with (((h | h) | h) | h) | h <;> (subst h; decide)
theorem idx_bn {c : Int32} (hc : ¬ isBe c = true) : s_idx c (s_txt 2) 0 < 0 := by
  unfold isBe at hc
  simp only [Bool.or_eq_true, decide_eq_true_eq, not_or] at hc
  obtain ⟨⟨⟨⟨h1, h2⟩, h3⟩, h4⟩, h5⟩ := hc
  have e : s_idx c (s_txt 2) 0 = -1 := by
    show s_idx c [33, 94, 35, 63, 64] 0 = -1
    simp only [s_idx, h1, h2, h3, h4, h5, if_false]
  rw [e]
  decide
theorem bd_aim {j : Nat} (hb : Bd n s) : Bd n (cAim j s) := by
  obtain ⟨a, z, l, I, H, S, P, A⟩ := s
  by_cases h1 : j < z
  · have e : cAim j (a, z, l, I, H, S, P, A) = (a, z, l, up I j ((I j &&& (15 : Int32)) ||| (nI z <<< ((4 : Int32) &&& 31))), H, S, P, A) := if_pos h1
    rw [e]; exact hb
  · have e : cAim j (a, z, l, I, H, S, P, A) = (a, z, l, I, H, S, P, A) := if_neg h1
    rw [e]; exact hb
theorem bd_cat {f e : Nat} (hb : Bd n s) : Bd n (cCat f e s) := by
  obtain ⟨a, z, l, I, H, S, P, A⟩ := s
  exact hb
theorem bd_end {c : Int32} (hb : Bd n s) : Bd n (cEnd c s) := by
  unfold cEnd
  split
  · exact bd_emit hb
  · split
    · exact bd_emit hb
    · split <;> exact bd_emit hb
theorem bd_blkl {St : TS → Bool × TS} (hE : EB n St) : ∀ (m : Nat) (s : TS), Bd n s → (cBlkL n tx St m s).1 = true → Bd n (cBlkL n tx St m s).2 := by
  intro m
  induction m with
  | zero => intro s hb h1; exact hb
  | succ m ih =>
    intro s hb h1
    unfold cBlkL at h1 ⊢
    by_cases c1 : s.1 < n ∧ tx s.1 = 125
    · rw [if_pos c1]; exact bd_at hb c1.1
    rw [if_neg c1] at h1 ⊢
    by_cases c2 : (St s).1 = true
    · rw [if_pos c2] at h1 ⊢; exact ih _ (hE s hb c2) h1
    · rw [if_neg c2] at h1; exact absurd h1 c2
theorem bd_blk {St : TS → Bool × TS} (hE : EB n St) : EB n (cBlk n tx St) := by
  intro s hb h1
  unfold cBlk at h1 ⊢
  by_cases c1 : s.1 < n ∧ tx s.1 = 123
  · rw [if_pos c1] at h1 ⊢; exact bd_blkl hE _ _ (bd_at hb c1.1) h1
  · rw [if_neg c1]; exact hb
theorem bd_grd {B : TS → Bool × TS} {ag : Bool} {pt : Nat} (hE : EB n B) : EB n (cGrd B ag pt) := by
  intro s hb h1
  unfold cGrd at h1 ⊢
  by_cases c1 : (B (cEmit 9 0 s)).1 = true
  · rw [if_pos c1]
    have hb2 := hE _ (bd_emit hb) c1
    have hb3 : Bd n (if ag = true then cEmit 10 (nI pt) (B (cEmit 9 0 s)).2 else (B (cEmit 9 0 s)).2) := by
      cases ag with
      | true => exact bd_emit hb2
      | false => exact hb2
    exact bd_aim hb3
  · rw [if_neg c1] at h1; exact absurd h1 c1
theorem bd_tr2 {B : TS → Bool × TS} {j : Nat} (hE : EB n B) : EB n (cTr2 B j) := by
  intro s hb h1
  unfold cTr2 at h1 ⊢
  by_cases c1 : (B s).1 = true
  · rw [if_pos c1]; exact bd_aim (hE _ hb c1)
  · rw [if_neg c1] at h1; exact absurd h1 c1
theorem bd_try {B : TS → Bool × TS} (hE : EB n B) : EB n (cTry B) := by
  intro s hb h1
  unfold cTry at h1 ⊢
  by_cases c1 : (B s).1 = true
  · rw [if_pos c1] at h1 ⊢; exact bd_tr2 hE _ (bd_cat (bd_emit (hE _ hb c1))) h1
  · rw [if_neg c1] at h1; exact absurd h1 c1
theorem bd_st3 {B : TS → Bool × TS} {c : Int32} {pt : Nat} (hE : EB n B) : EB n (cSt3 n tx B c pt) := by
  intro s hb h1
  unfold cSt3 at h1 ⊢
  by_cases c1 : (cE n tx 5 s).1 = true
  · rw [if_pos c1] at h1 ⊢
    have hb2 := bd_E 5 s hb c1
    by_cases c2 : c = 63 ∨ c = 64
    · rw [if_pos c2] at h1 ⊢; exact bd_grd hE _ hb2 h1
    · rw [if_neg c2]; exact bd_takes (bd_end hb2)
  · rw [if_neg c1] at h1; exact absurd h1 c1
theorem bd_st2 {B : TS → Bool × TS} {c : Int32} {pt : Nat} (hE : EB n B) : EB n (cSt2 n tx B c pt) := by
  intro s hb h1
  unfold cSt2 at h1 ⊢
  by_cases c1 : c = 126
  · rw [if_pos c1] at h1 ⊢; exact bd_try hE _ hb h1
  rw [if_neg c1] at h1 ⊢
  by_cases c2 : 97 ≤ c ∧ c < 103
  · rw [if_pos c2] at h1 ⊢
    by_cases c3 : (cTakes n tx 61 s).1 = true
    · rw [if_pos c3] at h1 ⊢; exact bd_st3 hE _ (bd_takes hb) h1
    · rw [if_neg c3] at h1; exact absurd h1 c3
  rw [if_neg c2] at h1 ⊢
  by_cases c4 : isBe c = true
  · rw [if_pos c4] at h1 ⊢; exact bd_st3 hE _ hb h1
  · rw [if_neg c4] at h1; exact absurd h1 Bool.false_ne_true
theorem st2_in {B : TS → Bool × TS} {pt p : Nat} (h1 : (cSt2 n tx B (pk n tx p) pt s).1 = true) : p < n := by
  refine pk_at (tx := tx) (fun e => ?_)
  rw [e] at h1
  unfold cSt2 at h1
  rw [if_neg (by decide), if_neg (by decide), if_neg (by decide)] at h1
  exact absurd h1 Bool.false_ne_true
theorem bd_pt (hb : Bd n s) (hp : s.1 < n) (hl : s.2.2.1 < 40) : Bd n (sLn (s.2.2.1 + 1) (cEmit 5 (nI s.2.2.1) (sAt (s.1 + 1) s))) := by
  have h1 := bd_emit (op := 5) (x := nI s.2.2.1) (bd_at hb hp)
  exact ⟨h1.1, h1.2.1, hl⟩
theorem bd_st {B : TS → Bool × TS} (hE : EB n B) : EB n (cSt n tx B) := by
  intro s hb h1
  unfold cSt at h1 ⊢
  by_cases c1 : 40 ≤ s.2.2.1
  · rw [if_pos c1]; exact hb
  rw [if_neg c1] at h1 ⊢
  exact bd_st2 hE _ (bd_pt hb (st2_in h1) (by omega)) h1
theorem bd_B : ∀ k, EB n (cB n tx k) := by
  intro k
  induction k with
  | zero => exact fun s hb h1 => hb
  | succ k ih => exact bd_blk (bd_st ih)
end TE

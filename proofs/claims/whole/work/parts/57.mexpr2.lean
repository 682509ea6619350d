-- the model: expression answers as the automaton
/-- how the model's tables give the functions' parameters -/
def AR (h : Hp) (ar : Nat → Int32) : Prop := ∀ f, f < 4 → ∃ b k, hI h 56 f = nI b ∧ b < 1000 ∧ hI h 57 f = nI k ∧ k ≤ 3 ∧ ar f = if b = 0 then -1 else nI k
/-- the brackets in the model's rows -/
def LM (ar F G : Nat → Int32) : LV → List LV → Prop
  | _, [] => True
  | lv, l2 :: st => ((lv.1 = 1 ∧ F st.length = -1) ∨ (∃ f k, f < 4 ∧ lv.1 = 2 + f ∧ F st.length = nI f ∧ G st.length = nI lv.2.1 ∧ ar f = nI k ∧ 0 < k ∧ k ≤ 3 ∧ lv.2.1 < k)) ∧ LM ar F G l2 st
def eH (h : Hp) (F G : Nat → Int32) : Hp := sA (sA h 60 F) 61 G
def anE (b : Nat) (r : SE) : Int32 := match r with
  | some x => nI (b + x.1)
  | none => -1
section MU
variable {xs : Nat → Int32} {L d : Nat} {h h2 : Hp} {res : Res} {ar T F G : Nat → Int32} {b n p : Nat} {lv l2 : LV} {st : List LV} {p0 : Int32}
theorem anE_prep {J : List Int32} {r : SE} : anE b (prep J r) = anE b r := by
  cases r with
  | none => rfl
  | some x => rfl
theorem eH_51 {j : Nat} : hI (eH h F G) 51 j = hI h 51 j := by
  unfold eH; rw [hI_sA, if_neg (by decide), hI_sA, if_neg (by decide)]
theorem eH_56 {j : Nat} : hI (eH h F G) 56 j = hI h 56 j := by
  unfold eH; rw [hI_sA, if_neg (by decide), hI_sA, if_neg (by decide)]
theorem eH_57 {j : Nat} : hI (eH h F G) 57 j = hI h 57 j := by
  unfold eH; rw [hI_sA, if_neg (by decide), hI_sA, if_neg (by decide)]
theorem eH_60 {j : Nat} : hI (eH h F G) 60 j = F j := by
  unfold eH; rw [hI_sA, if_neg (by decide), hI_sA, if_pos rfl]
theorem eH_61 {j : Nat} : hI (eH h F G) 61 j = G j := by
  unfold eH; rw [hI_sA, if_pos rfl]
theorem eH_s60 {j : Nat} {v : Int32} : sI (eH h F G) 60 j v = eH h (up F j v) G := by
  unfold eH; rw [sI_sAo (by decide), sI_sAs]
theorem eH_s61 {j : Nat} {v : Int32} : sI (eH h F G) 61 j v = eH h F (up G j v) := by
  unfold eH; rw [sI_sAs]
theorem up_ne {f : Nat → Int32} {k j : Nat} {v : Int32} (hj : ¬ j = k) : up f k v j = f j := if_neg hj
theorem up_eq {f : Nat → Int32} {k : Nat} {v : Int32} : up f k v k = v := if_pos rfl
theorem LM_F {v : Int32} : ∀ (st : List LV) (lv : LV) (k : Nat), st.length ≤ k → LM ar F G lv st → LM ar (up F k v) G lv st := by
  intro st
  induction st with
  | nil => intro lv k hk hL; exact trivial
  | cons l2 st ih =>
    intro lv k hk hL
    have hk2 : st.length + 1 ≤ k := hk
    refine ⟨?_, ih l2 k (by omega) hL.2⟩
    rw [up_ne (show ¬ st.length = k by omega)]
    exact hL.1
theorem LM_G {v : Int32} : ∀ (st : List LV) (lv : LV) (k : Nat), st.length ≤ k → LM ar F G lv st → LM ar F (up G k v) lv st := by
  intro st
  induction st with
  | nil => intro lv k hk hL; exact trivial
  | cons l2 st ih =>
    intro lv k hk hL
    have hk2 : st.length + 1 ≤ k := hk
    refine ⟨?_, ih l2 k (by omega) hL.2⟩
    rw [up_ne (show ¬ st.length = k by omega)]
    exact hL.1
/-- only what the bracket is counts, not the operator that waits -/
theorem LM_op {op : Int32} (hL : LM ar F G lv st) : LM ar F G (lv.1, lv.2.1, op) st := by
  cases st with
  | nil => exact trivial
  | cons l2 st => exact hL
theorem ex_preL {w : Int32} (hO : MO h) (hA : AR h ar) (hP : b + p < 6384) (hst : st.length ≤ 5) (hL : LM ar F G lv st) : ∃ cl wt : Int32, (cl = 0 ∨ (cl = 1 ∧ ¬ wt = 0)) ∧ (∀ res, EQ xs L d (eH h F G) p0 (nI (b + p)) (nI st.length) w (hI h 51 (b + p)) cl wt res → EX xs L d (eH h F G) p0 (nI (b + p)) (nI st.length) w res) ∧ ∀ l2 s2, st = l2 :: s2 → ((lv.1 = 1 ∧ cl = 0) ∨ (∃ f k, f < 4 ∧ lv.1 = 2 + f ∧ cl = 1 ∧ wt = nI k ∧ G s2.length = nI lv.2.1 ∧ ar f = nI k ∧ 0 < k ∧ k ≤ 3 ∧ lv.2.1 < k)) := by
  have hO2 : MO (eH h F G) := hO
  cases st with
  | nil =>
    refine ⟨0, 0, Or.inl rfl, fun res hX => ex_pre0 hO2 hP ?_, fun l2 s2 e => by cases e⟩
    rw [eH_51]
    exact hX
  | cons l2 st =>
    have hk : st.length < 6 := by have : st.length + 1 ≤ 5 := hst; omega
    rcases hL.1 with ⟨h1, h2⟩ | ⟨f, k, hf, h1, h2, h3, h4, h5, h6, h7⟩
    · refine ⟨0, 0, Or.inl rfl, fun res hX => ex_pre1 hO2 hP hk (by rw [eH_60]; exact h2) ?_, fun l2 s2 e => Or.inl ⟨h1, rfl⟩⟩
      rw [eH_51]
      exact hX
    · obtain ⟨bb, kk, g1, g2, g3, g4, g5⟩ := hA f hf
      have e1 : nI kk = nI k := by
        by_cases c : bb = 0
        · rw [if_pos c, h4] at g5
          exact absurd (nI_le (a := 0) (b := k) (by omega) (by omega)) (by rw [g5]; decide)
        · rw [if_neg c, h4] at g5
          exact g5.symm
      refine ⟨1, nI k, Or.inr ⟨rfl, nI_ne0 (by omega) (by omega)⟩, fun res hX => ex_pre2 hO2 hP hk hf (by rw [eH_60]; exact h2) ?_, fun l3 s3 e => ?_⟩
      · rw [eH_51, eH_57, g3, e1]
        exact hX
      · cases e
        exact Or.inr ⟨f, k, hf, h1, rfl, rfl, h3, h4, h5, h6, h7⟩
theorem m_ex_run (hO : MO h) (hA : AR h ar) (hb : b + 152 ≤ 6384) (hTT : ∀ j, j < 152 → hI h 51 (b + j) = T j) (hT : TX T n) : ∀ (m p : Nat) (w : Bool) (lv : LV) (st : List LV) (F G : Nat → Int32), 152 - p ≤ m → p ≤ n → st.length ≤ 5 → LM ar F G lv st → ∃ F' G', EX xs L (d + 2) (eH h F G) p0 (nI (b + p)) (nI st.length) (bI w) (some (.inl (anE b (sm ar T p w lv st))), eH h F' G') := by
  intro m
  have hn := hT.1
  induction m with
  | zero => intro p w lv st F G hm hpn; omega
  | succ m ih =>
    intro p w lv st F G hm hpn hst hL
    have hp : p < 152 := by omega
    have hP : b + p < 6384 := by omega
    have hO2 : MO (eH h F G) := hO
    have hcp := hTT p hp
    have hc5 : hI (eH h F G) 51 (b + p) = T p := by rw [eH_51]; exact hcp
    obtain ⟨cl, wt, hz, hpre, hk⟩ := ex_preL (xs := xs) (L := L) (d := d + 2) (p0 := p0) (w := bI w) hO hA hP hst hL
    rw [hcp] at hpre
    cases w with
    | true =>
      by_cases h0 : 48 ≤ T p ∧ T p ≤ 57
      · have hj0 : 0 < nd T 200 p := Nat.pos_of_ne_zero (fun e => nd_0.mp e h0)
        have hjn := nd_in hT hpn
        have hr := m_tm_dig (xs := xs) (L := L) (d := d) (P := b + p) (m := nd T 200 p) (kk := nI st.length) hO2 hj0 (by omega) (fun j hj => by rw [eH_51, Nat.add_assoc, hTT _ (by omega)]; exact nd_dig 200 p j hj) (by rw [eH_51, Nat.add_assoc, hTT _ (by omega)]; exact nd_no hT hpn)
        rw [sm_dig hp hj0]
        by_cases h3 : nd T 200 p ≤ 3
        · rw [if_pos h3] at hr ⊢
          rw [anE_prep]
          obtain ⟨F', G', hg⟩ := ih (p + nd T 200 p) false lv st F G (by omega) hjn hst hL
          refine ⟨F', G', hpre _ (ex_tm_val hO2 hz hr (by omega) (fun e => by rw [e] at h0; exact absurd h0 (by decide)) (fun e => absurd (Int32.le_trans e.1 h0.2) (by decide)) ?_)⟩
          rw [Nat.add_assoc b p]
          exact hg
        · rw [if_neg h3] at hr ⊢
          exact ⟨F, G, hpre _ (ex_tm_no hO2 hz hr)⟩
      by_cases hv : 97 ≤ T p ∧ T p ≤ 102
      · have hpn2 : p < n := tx_lt hT hp (fun e => by rw [e] at hv; exact absurd hv (by decide))
        rw [sm_var hp hv, anE_prep]
        obtain ⟨F', G', hg⟩ := ih (p + 1) false lv st F G (by omega) hpn2 hst hL
        exact ⟨F', G', hpre _ (ex_tm_val hO2 hz (m_tm_var (P := b + p) hO2 hP (by rw [hc5]; exact hv)) (by omega) (fun e => by rw [e] at hv; exact absurd hv (by decide)) (fun e => absurd (Int32.le_trans hv.1 e.2) (by decide)) hg)⟩
      by_cases h5 : st.length = 5
      · rw [sm_5 hp h0 hv (by omega)]
        refine ⟨F, G, hpre _ (ex_tm_no hO2 hz ?_)⟩
        rw [h5]
        exact m_tm_5 (P := b + p) hO2 hP (by rw [hc5]; exact h0) (by rw [hc5]; exact hv)
      have h5 : st.length < 5 := by omega
      by_cases h40 : T p = 40
      · have hpn2 : p < n := tx_lt hT hp (fun e => by rw [e] at h40; exact absurd h40 (by decide))
        rw [sm_open hp h40 h5]
        obtain ⟨F', G', hg⟩ := ih (p + 1) true (1, 0, 0) (lv :: st) (up F st.length (-1)) G (by omega) hpn2 h5 ⟨Or.inl ⟨rfl, up_eq⟩, LM_F st lv _ (Nat.le_refl _) hL⟩
        refine ⟨F', G', hpre _ (ex_tm_opn hO2 hz (m_tm_open (P := b + p) hO2 hP h5 (by rw [hc5]; exact h40)) (by omega) (Or.inl h40) ?_)⟩
        rw [eH_s60]
        exact hg
      by_cases hf : 65 ≤ T p ∧ T p ≤ 68
      · have hpn2 : p < n := tx_lt hT hp (fun e => by rw [e] at hf; exact absurd hf (by decide))
        obtain ⟨f, hf4, hfc⟩ := fun_ix hf.1 (Int32.lt_of_le_of_lt hf.2 (by decide))
        obtain ⟨bb, kk, g1, g2, g3, g4, g5⟩ := hA f hf4
        have hr := m_tm_fun (xs := xs) (L := L) (d := d) (P := b + p) (k := st.length) hO2 (by omega) h5 hf4 (by rw [hc5]; exact hfc) (by rw [eH_56]; exact g1) g2
        rw [eH_51, show b + p + 1 = b + (p + 1) by omega, hTT (p + 1) (by omega)] at hr
        rw [sm_fun hp hf4 hfc h5]
        by_cases c1 : bb = 0
        · rw [if_pos c1] at g5
          rw [if_pos (Or.inl g5)]
          rw [if_neg (fun z => by omega)] at hr
          exact ⟨F, G, hpre _ (ex_tm_no hO2 hz hr)⟩
        rw [if_neg c1] at g5
        have g6 : ¬ ar f = -1 := fun e => absurd (nI_le (a := 0) (b := kk) (by omega) (by omega)) (by rw [← g5, e]; decide)
        by_cases c2 : T (p + 1) = 40
        · have hpn3 : p + 1 < n := tx_lt hT (by omega) (fun e => by rw [e] at c2; exact absurd c2 (by decide))
          rw [if_neg (fun z => z.elim g6 (fun z => z c2))]
          rw [if_pos ⟨by omega, c2⟩, eH_s60, eH_s61] at hr
          have hO3 : MO (eH h (up F st.length (nI f)) (up G st.length 0)) := hO
          by_cases c3 : ar f = 0
          · rw [if_pos c3]
            have hpre2 : ∀ res, EQ xs L (d + 2) (eH h (up F st.length (nI f)) (up G st.length 0)) p0 (nI (b + (p + 2))) (nI (st.length + 1)) 1 (T (p + 2)) 1 0 res → EX xs L (d + 2) (eH h (up F st.length (nI f)) (up G st.length 0)) p0 (nI (b + (p + 2))) (nI (st.length + 1)) 1 res := fun res hX => ex_pre2 (P := b + (p + 2)) (k := st.length) (f := f) hO3 (by omega) (by omega) hf4 (by rw [eH_60, up_eq]) (by rw [eH_57, g3, ← g5, c3, eH_51, hTT (p + 2) (by omega)]; exact hX)
            by_cases c4 : T (p + 2) = 41
            · have hpn4 : p + 2 < n := tx_lt hT (by omega) (fun e => by rw [e] at c4; exact absurd c4 (by decide))
              rw [if_pos c4, anE_prep]
              obtain ⟨F', G', hg⟩ := ih (p + 3) false lv st (up F st.length (nI f)) (up G st.length 0) (by omega) hpn4 hst (LM_G st lv _ (Nat.le_refl _) (LM_F st lv _ (Nat.le_refl _) hL))
              refine ⟨F', G', hpre _ (ex_tm_opn hO2 hz hr (by omega) (Or.inr hf) (hpre2 _ ?_))⟩
              rw [c4]
              exact ex_zero (P := b + (p + 1)) (k := st.length) hO3 (by omega) (by rw [eH_51, hTT (p + 1) (by omega)]; exact c2) hg
            · rw [if_neg c4]
              exact ⟨_, _, hpre _ (ex_tm_opn hO2 hz hr (by omega) (Or.inr hf) (hpre2 _ (ex_zero_no c4)))⟩
          · rw [if_neg c3]
            have hk0 : 0 < kk := Nat.pos_of_ne_zero (fun e => c3 (by rw [g5, e]; rfl))
            obtain ⟨F', G', hg⟩ := ih (p + 2) true (2 + f, 0, 0) (lv :: st) (up F st.length (nI f)) (up G st.length 0) (by omega) hpn3 h5 ⟨Or.inr ⟨f, kk, hf4, rfl, up_eq, up_eq, g5, hk0, g4, hk0⟩, LM_G st lv _ (Nat.le_refl _) (LM_F st lv _ (Nat.le_refl _) hL)⟩
            exact ⟨F', G', hpre _ (ex_tm_opn hO2 hz hr (by omega) (Or.inr hf) hg)⟩
        · rw [if_pos (Or.inr c2)]
          rw [if_neg (fun z => c2 z.2)] at hr
          exact ⟨F, G, hpre _ (ex_tm_no hO2 hz hr)⟩
      · rw [sm_no hp h0 hv h40 hf]
        exact ⟨F, G, hpre _ (ex_tm_no hO2 hz (m_tm_no (P := b + p) hO2 hP (by omega) (by rw [hc5]; exact h0) (by rw [hc5]; exact hv) (by rw [hc5]; exact h40) (by rw [hc5]; exact hf)))⟩
    | false =>
      by_cases ho : isOp (T p) = true
      · have hpn2 : p < n := tx_lt hT hp (fun e => by rw [e] at ho; exact absurd ho (by decide))
        rw [sm_op hp ho, anE_prep]
        obtain ⟨F', G', hg⟩ := ih (p + 1) true (lv.1, lv.2.1, T p) st F G (by omega) hpn2 hst (LM_op hL)
        exact ⟨F', G', hpre _ (ex_op (P := b + p) ho hg)⟩
      cases st with
      | nil =>
        rw [sm_end hp ho, anE_prep]
        exact ⟨F, G, hpre _ (ex_ret ho)⟩
      | cons l2 st =>
        have hk6 : st.length < 6 := by have : st.length + 1 ≤ 5 := hst; omega
        have hst2 : st.length ≤ 5 := by omega
        have hk := hk l2 st rfl
        by_cases c1 : T p = 41
        · have hpn2 : p < n := tx_lt hT hp (fun e => by rw [e] at c1; exact absurd c1 (by decide))
          rw [sm_close hp c1, anE_prep]
          rw [c1] at hpre
          obtain ⟨F', G', hg⟩ := ih (p + 1) false l2 st F G (by omega) hpn2 hst2 hL.2
          rcases hk with ⟨q1, rfl⟩ | ⟨f, k, hf, q1, rfl, rfl, q3, q4, q5, q6, q7⟩
          · rw [if_pos q1]
            exact ⟨F', G', hpre _ (ex_cl1 (P := b + p) hk6 hg)⟩
          · rw [if_neg (by omega), show lv.1 - 2 = f by omega, q4]
            by_cases c2 : nI k = nI (lv.2.1 + 1)
            · rw [if_pos c2, anE_prep]
              exact ⟨F', G', hpre _ (ex_cl2 (P := b + p) hO2 hk6 (by rw [eH_61]; exact q3) (fun _ => hg) (fun z => absurd c2.symm z))⟩
            · rw [if_neg c2]
              exact ⟨F, G, hpre _ (ex_cl2 (P := b + p) hO2 hk6 (by rw [eH_61]; exact q3) (fun z => absurd z.symm c2) (fun _ => rfl))⟩
        by_cases c2 : T p = 44
        · have hpn2 : p < n := tx_lt hT hp (fun e => by rw [e] at c2; exact absurd c2 (by decide))
          rw [sm_comma hp c2, anE_prep]
          rw [c2] at hpre
          rcases hk with ⟨q1, rfl⟩ | ⟨f, k, hf, q1, rfl, rfl, q3, q4, q5, q6, q7⟩
          · rw [if_neg (fun z => z.1 q1)]
            exact ⟨F, G, hpre _ (ex_co1 hk6)⟩
          · rw [show lv.1 - 2 = f by omega, q4]
            by_cases c3 : nI (lv.2.1 + 1) < nI k
            · have c4 : lv.2.1 + 1 < k := (nI_ltI (by omega) (by omega)).mp c3
              rw [if_pos ⟨by omega, c3⟩]
              obtain ⟨F', G', hg⟩ := ih (p + 1) true (lv.1, lv.2.1 + 1, 0) (l2 :: st) F (up G st.length (nI (lv.2.1 + 1))) (by omega) hpn2 hst ⟨by
                rcases hL.1 with ⟨z1, z2⟩ | ⟨f2, k2, y1, y2, y3, y4, y5, y6, y7, y8⟩
                · omega
                · exact Or.inr ⟨f, k, hf, q1, by rw [y3]; congr 1; omega, up_eq, q4, q5, q6, c4⟩, LM_G st l2 _ (Nat.le_refl _) hL.2⟩
              exact ⟨F', G', hpre _ (ex_co2 (P := b + p) hO2 hk6 (by rw [eH_61]; exact q3) (fun _ => by rw [eH_s61]; exact hg) (fun z => absurd c3 z))⟩
            · rw [if_neg (fun z => c3 z.2)]
              exact ⟨F, G, hpre _ (ex_co2 (P := b + p) hO2 hk6 (by rw [eH_61]; exact q3) (fun z => absurd z c3) (fun _ => rfl))⟩
        · rw [sm_bad hp ho c1 c2]
          exact ⟨F, G, hpre _ (ex_bad ho c1 c2 hk6)⟩
/-- expression(b + p) -/
theorem m_ex (hO : MO h) (hA : AR h ar) (hb : b + 152 ≤ 6384) (hTT : ∀ j, j < 152 → hI h 51 (b + j) = T j) (hT : TX T n) (hp : p ≤ n) : ∃ F' G', Rn xs L (d + 3) 83 [.inr (some 49), .inl (nI (b + p))] h (some (.inl (anE b (sm ar T p true (0, 0, 0) []))), eH h F' G') := by
  obtain ⟨F', G', hg⟩ := m_ex_run (xs := xs) (L := L) (d := d) (p0 := nI (b + p)) hO hA hb hTT hT 152 p true (0, 0, 0) [] (hI h 60) (hI h 61) (by omega) hp (by decide) trivial
  refine ⟨F', G', ?_⟩
  rw [show eH h (hI h 60) (hI h 61) = h by
    unfold eH
    rw [sA_id (fun j => by rw [hI_sA, if_neg (by decide)]), sA_id (fun j => rfl)]] at hg
  rw [i_rn]
  show X xs L (d + 2) 83 (0, [some (.inr (some 49)), some (.inl (nI (b + p))), none, none, none, none, none, none, none, none, none], [], h) _
  simp only [e_83_0, e_83_1, e_83_2, e_83_3, e_83_4, e_83_5, true_and, and_true, and_self, false_and, and_false, if_true, if_false, ↓reduceIte, Nat.add_eq_left, Nat.left_eq_add, Nat.add_left_cancel_iff, not_false_eq_true, not_true_eq_false, i_pc, List.cons_append, List.nil_append, List.length_cons, List.length_nil, Nat.reduceEqDiff, Nat.reduceAdd, Nat.reduceMul, Nat.reduceSub, Nat.reduceLeDiff, Nat.reduceLT, Int32.reduceLT, Int32.reduceLE, Int32.reduceAdd, Int32.reduceSub, reduceCtorEq, true_or, or_true, or_false, false_or, ne_eq, Nat.zero_le]
  exact hg _ _ _ _ _ _
end MU

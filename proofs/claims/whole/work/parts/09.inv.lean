-- ONE STEP of the small machine is one instruction of the machine
/-- how the small machine stands to the machine, in a method's body: D the classes' numbers, A what may be written, n0 u0 ad0 the heap with which it began, nL its locals -/
def SR (D : va_G) (A : Nat → Prop) (s : State) (n0 u0 : Nat) (ad0 : Nat → Nat) (nL : Nat) (ad : Nat → Nat) (ca : Nat → ClassId) (lo : Lo) (sk : List AV) (h : Hp) (H : Heap) (locs : List Loc) (ls : Array Slot) (cells slots : Nat) : Prop :=
  RL D A ad ca h s H ∧ va_S A s.heap H locs ∧ lv_has ls nL (lvl ad lo) ∧ lo.length = nL ∧ (∀ v, some v ∈ lo → wfv h v) ∧ (∀ v, v ∈ sk → wfv h v) ∧ (∀ o, o < n0 → ad o = ad0 o) ∧ n0 ≤ hN h ∧ u0 ≤ hU h ∧ cells = hN h - n0 ∧ slots = hU h - u0
section ONE
variable {p : Program} {l : Launch} {e : Env} {R : Room} {s : State} {m : MethodId} {args : Array Value} {below : List Frame} {meth : Method} {c : Code} {H : Heap} {locs : List Loc} {cells slots : Nat} {Q : State → Prop}
variable {ls : Array Slot} {D : va_G} {A : Nat → Prop} {ad ad0 : Nat → Nat} {ca : Nat → ClassId} {h : Hp} {n0 u0 nL mi pc ln b L : Nat} {xs : Nat → Int32} {lo : Lo} {sk : List AV} {ns : List Nat} {sw : List (Int32 × Nat)} {st' : St}
/-- stack alone changes -/
theorem SR.stk {sk2 : List AV} (q : SR D A s n0 u0 ad0 nL ad ca lo sk h H locs ls cells slots) (hw : ∀ v, v ∈ sk2 → wfv h v) : SR D A s n0 u0 ad0 nL ad ca lo sk2 h H locs ls cells slots := ⟨q.1, q.2.1, q.2.2.1, q.2.2.2.1, q.2.2.2.2.1, hw, q.2.2.2.2.2.2⟩
theorem SR.wk (q : SR D A s n0 u0 ad0 nL ad ca lo sk h H locs ls cells slots) : ∀ v, v ∈ sk → wfv h v := q.2.2.2.2.2.1
theorem SR.wl (q : SR D A s n0 u0 ad0 nL ad ca lo sk h H locs ls cells slots) : ∀ v, some v ∈ lo → wfv h v := q.2.2.2.2.1
/-- a local is written -/
theorem SR.loc {sk2 : List AV} {ls2 : Array Slot} {k : Nat} {v : AV} (q : SR D A s n0 u0 ad0 nL ad ca lo sk h H locs ls cells slots) (hk : k < lo.length) (hv : wfv h v) (hl : lv_has ls2 nL ((k, tv ad v) :: (lvl ad lo).filter (fun q => !(q.1 == k) && !(q.1 + 1 == k && q.2.category == 2)))) (hw : ∀ v, v ∈ sk2 → wfv h v) : SR D A s n0 u0 ad0 nL ad ca (lo.set k (some v)) sk2 h H locs ls2 cells slots := by
  refine ⟨q.1, q.2.1, lvl_put hk hl, by rw [List.length_set]; exact q.2.2.2.1, fun w hx => ?_, hw, q.2.2.2.2.2.2⟩
  rcases List.mem_or_eq_of_mem_set hx with h1 | h1
  · exact q.2.2.2.2.1 w h1
  · cases h1
    exact hv
/-- the heap is written, no object is made -/
theorem SR.wr {sk2 : List AV} {h2 : Hp} {H2 : Heap} {locs2 : List Loc} (q : SR D A s n0 u0 ad0 nL ad ca lo sk h H locs ls cells slots) (hq9 : RL D A ad ca h2 s H2) (hS : va_S A s.heap H2 locs2) (hn : hN h2 = hN h) (hu : hU h2 = hU h) (hw : ∀ v, v ∈ sk2 → wfv h v) : SR D A s n0 u0 ad0 nL ad ca lo sk2 h2 H2 locs2 ls cells slots := by
  obtain ⟨-, -, q3, q4, q5, -, q7, q8, q9, q10, q11⟩ := q
  exact ⟨hq9, hS, q3, q4, fun v hv r hr => by rw [hn]; exact q5 v hv r hr, fun v hv r hr => by rw [hn]; exact hw v hv r hr, q7, by rw [hn]; exact q8, by rw [hu]; exact q9, by rw [hn]; exact q10, by rw [hu]; exact q11⟩
theorem wfv_int {h : Hp} {x : Int32} : wfv h (.inl x) := fun r hr => by cases hr
theorem wfv_nul {h : Hp} : wfv h (.inr none) := fun r hr => by cases hr
theorem wfv_lt {h : Hp} {o : Nat} (hw : wfv h (.inr (some o))) : o < hN h := hw o rfl
theorem wfv_of {h : Hp} {o : Nat} (hw : o < hN h) : wfv h (.inr (some o)) := fun r hr => by cases hr; exact hw
/-- an object is made: it is the next, at the place q -/
theorem SR.mk {sk2 : List AV} {q1 a x z : Nat} {ca2 : Nat → ClassId} {H2 : Heap} (q : SR D A s n0 u0 ad0 nL ad ca lo sk h H locs ls cells slots) (hq9 : RL D A (va_up ad (hN h) q1) ca2 (nw h a x z) s H2) (hS : va_S A s.heap H2 locs) (hw : ∀ v, v ∈ sk2 → wfv h v ∨ v = .inr (some (hN h))) : SR D A s n0 u0 ad0 nL (va_up ad (hN h) q1) ca2 lo sk2 (nw h a x z) H2 locs ls (cells + 1) (slots + z) := by
  obtain ⟨-, -, q3, q4, q5, -, q7, q8, q9, q10, q11⟩ := q
  refine ⟨hq9, hS, by rw [lvl_agree q5 up_old]; exact q3, q4, fun v hv r hr => Nat.lt_succ_of_lt (q5 v hv r hr), fun v hv r hr => ?_, fun o ho => by rw [up_old o (by omega)]; exact q7 o ho, Nat.le_succ_of_le q8, by rw [hU_nw]; omega, by rw [hN_nw]; omega, by rw [hU_nw]; omega⟩
  rcases hw v hv with h1 | h1
  · exact Nat.lt_succ_of_lt (h1 r hr)
  · rw [h1] at hr
    cases hr
    exact Nat.lt_succ_self _
theorem SR.mkc {sk2 : List AV} {q1 x z : Nat} {f : Nat → Int32} {ca2 : Nat → ClassId} {H2 : Heap} (q : SR D A s n0 u0 ad0 nL ad ca lo sk h H locs ls cells slots) (hq9 : RL D A (va_up ad (hN h) q1) ca2 (sA (nw h 20 x z) (hN h) f) s H2) (hS : va_S A s.heap H2 locs) (hw : ∀ v, v ∈ sk2 → wfv h v ∨ v = .inr (some (hN h))) : SR D A s n0 u0 ad0 nL (va_up ad (hN h) q1) ca2 lo sk2 (sA (nw h 20 x z) (hN h) f) H2 locs ls (cells + 1) (slots + z) := by
  obtain ⟨-, -, q3, q4, q5, -, q7, q8, q9, q10, q11⟩ := q
  refine ⟨hq9, hS, by rw [lvl_agree q5 up_old]; exact q3, q4, fun v hv r hr => Nat.lt_succ_of_lt (q5 v hv r hr), fun v hv r hr => ?_, fun o ho => by rw [up_old o (by omega)]; exact q7 o ho, Nat.le_succ_of_le q8, by rw [hU_sA, hU_nw]; omega, by rw [hN_sA, hN_nw]; omega, by rw [hU_sA, hU_nw]; omega⟩
  rcases hw v hv with h1 | h1
  · exact Nat.lt_succ_of_lt (h1 r hr)
  · rw [h1] at hr
    cases hr
    exact Nat.lt_succ_self _
theorem sk_up {q1 : Nat} {sk : List AV} {h : Hp} {ad : Nat → Nat} (hw : ∀ v, v ∈ sk → wfv h v) : sk.map (tv (va_up ad (hN h) q1)) = sk.map (tv ad) := by
  apply List.map_congr_left
  intro v hv
  exact tv_agree (hw v hv) up_old
end ONE
-- what a piece of a step says when it succeeds
section INV
variable {sw : List (Int32 × Nat)} {ns : List Nat} {pn k L kd : Nat} {lo : Lo} {sk : List AV} {h : Hp} {st' : St} {xs : Nat → Int32} {ret : Option FieldType} {rs : Res} {cl : Nat × List AV × St}
theorem a_cst_i (hd : a_cst sw pn lo sk h = some (.inl st')) : ∃ v z r, sw = (v, z) :: r ∧ st' = (pn, lo, .inl v :: sk, h) := by
  unfold a_cst at hd
  split at hd
  · next v z r => cases hd; exact ⟨v, z, r, rfl, rfl⟩
  · cases hd
theorem a_ild_i (hd : a_ild k pn lo sk h = some (.inl st')) : ∃ x, lo[k]? = some (some (.inl x)) ∧ st' = (pn, lo, .inl x :: sk, h) := by
  unfold a_ild at hd
  split at hd
  · next x hx => cases hd; exact ⟨x, hx, rfl⟩
  · cases hd
theorem a_ald_i (hd : a_ald k pn lo sk h = some (.inl st')) : ∃ x, lo[k]? = some (some (.inr x)) ∧ st' = (pn, lo, .inr x :: sk, h) := by
  unfold a_ald at hd
  split at hd
  · next x hx => cases hd; exact ⟨x, hx, rfl⟩
  · cases hd
theorem a_ist_i (hd : a_ist k pn lo sk h = some (.inl st')) : ∃ x r, sk = .inl x :: r ∧ k < lo.length ∧ st' = (pn, lo.set k (some (.inl x)), r, h) := by
  unfold a_ist at hd
  split at hd
  · next x r =>
    split at hd
    · next hk => cases hd; exact ⟨x, r, rfl, hk, rfl⟩
    · cases hd
  · cases hd
theorem a_ast_i (hd : a_ast k pn lo sk h = some (.inl st')) : ∃ x r, sk = .inr x :: r ∧ k < lo.length ∧ st' = (pn, lo.set k (some (.inr x)), r, h) := by
  unfold a_ast at hd
  split at hd
  · next x r =>
    split at hd
    · next hk => cases hd; exact ⟨x, r, rfl, hk, rfl⟩
    · cases hd
  · cases hd
theorem a_inc_i (hd : a_inc k sw pn lo sk h = some (.inl st')) : ∃ x v z r, lo[k]? = some (some (.inl x)) ∧ sw = (v, z) :: r ∧ st' = (pn, lo.set k (some (.inl (x + v))), sk, h) := by
  unfold a_inc at hd
  split at hd
  · next x v z r hx => cases hd; exact ⟨x, v, z, r, hx, rfl, rfl⟩
  · cases hd
theorem a_bin_i {f : Int32 → Int32 → Int32} (hd : a_bin f pn lo sk h = some (.inl st')) : ∃ y x r, sk = .inl y :: .inl x :: r ∧ st' = (pn, lo, .inl (f x y) :: r, h) := by
  unfold a_bin at hd
  split at hd
  · next y x r => cases hd; exact ⟨y, x, r, rfl, rfl⟩
  · cases hd
theorem a_dvd_i {f : Int32 → Int32 → Int32} (hd : a_dvd f pn lo sk h = some (.inl st')) : ∃ y x r, sk = .inl y :: .inl x :: r ∧ ¬ y = 0 ∧ st' = (pn, lo, .inl (f x y) :: r, h) := by
  unfold a_dvd at hd
  split at hd
  · next y x r =>
    split at hd
    · cases hd
    · next hy => cases hd; exact ⟨y, x, r, rfl, hy, rfl⟩
  · cases hd
theorem a_un_i {f : Int32 → Int32} (hd : a_un f pn lo sk h = some (.inl st')) : ∃ x r, sk = .inl x :: r ∧ st' = (pn, lo, .inl (f x) :: r, h) := by
  unfold a_un at hd
  split at hd
  · next x r => cases hd; exact ⟨x, r, rfl, rfl⟩
  · cases hd
theorem a_if_i {c : Int32 → Bool} (hd : a_if c ns pn lo sk h = some (.inl st')) : ∃ x r t, sk = .inl x :: r ∧ ns = [t] ∧ st' = (if c x = true then t else pn, lo, r, h) := by
  unfold a_if at hd
  split at hd
  · next x r t => cases hd; exact ⟨x, r, t, rfl, rfl, rfl⟩
  · cases hd
theorem a_cmp_i {c : Int32 → Int32 → Bool} (hd : a_cmp c ns pn lo sk h = some (.inl st')) : ∃ y x r t, sk = .inl y :: .inl x :: r ∧ ns = [t] ∧ st' = (if c x y = true then t else pn, lo, r, h) := by
  unfold a_cmp at hd
  split at hd
  · next y x r t => cases hd; exact ⟨y, x, r, t, rfl, rfl, rfl⟩
  · cases hd
theorem a_nul_i {c : Bool} (hd : a_nul c ns pn lo sk h = some (.inl st')) : ∃ x r t, sk = .inr x :: r ∧ ns = [t] ∧ st' = (if x.isNone = c then t else pn, lo, r, h) := by
  unfold a_nul at hd
  split at hd
  · next x r t => cases hd; exact ⟨x, r, t, rfl, rfl, rfl⟩
  · cases hd
theorem a_goto_i (hd : a_goto ns lo sk h = some (.inl st')) : ∃ t, ns = [t] ∧ st' = (t, lo, sk, h) := by
  unfold a_goto at hd
  split at hd
  · next t => cases hd; exact ⟨t, rfl, rfl⟩
  · cases hd
theorem a_sw_i (hd : a_sw ns sw lo sk h = some (.inl st')) : ∃ x r t, sk = .inl x :: r ∧ ns = [t] ∧ st' = (a_tgt x sw t, lo, r, h) := by
  unfold a_sw at hd
  split at hd
  · next x r t => cases hd; exact ⟨x, r, t, rfl, rfl, rfl⟩
  · cases hd
theorem a_get_i (hd : a_get ns pn lo sk h = some (.inl st')) : ∃ o r c k t, sk = .inr (some o) :: r ∧ ns = [c, k, t] ∧ hK h o = c ∧ st' = (pn, lo, (if t = 2 then .inr (hR h o k) else .inl (hI h o k)) :: r, h) := by
  unfold a_get at hd
  split at hd
  · next o r c k =>
    split at hd
    · next hk => cases hd; exact ⟨o, r, c, k, 2, rfl, rfl, hk, by rw [if_pos rfl]⟩
    · cases hd
  · next o r c k t ht =>
    split at hd
    · next hk => cases hd; exact ⟨o, r, c, k, t, rfl, rfl, hk, by rw [if_neg ht]⟩
    · cases hd
  · cases hd
theorem a_put_i (hd : a_put ns pn lo sk h = some (.inl st')) : ∃ o r c k t, ns = [c, k, t] ∧ hK h o = c ∧ ((t = 2 ∧ ∃ v, sk = .inr v :: .inr (some o) :: r ∧ st' = (pn, lo, r, sR h o k v)) ∨ (t < 2 ∧ ∃ v, sk = .inl v :: .inr (some o) :: r ∧ (t = 1 → v = 0 ∨ v = 1) ∧ st' = (pn, lo, r, sI h o k v))) := by
  unfold a_put at hd
  split at hd
  · next v o r c k =>
    split at hd
    · next hk => cases hd; exact ⟨o, r, c, k, 2, rfl, hk, Or.inl ⟨rfl, v, rfl, rfl⟩⟩
    · cases hd
  · next v o r c k =>
    split at hd
    · next hk => cases hd; exact ⟨o, r, c, k, 1, rfl, hk.1, Or.inr ⟨by omega, v, rfl, fun _ => hk.2, rfl⟩⟩
    · cases hd
  · next v o r c k =>
    split at hd
    · next hk => cases hd; exact ⟨o, r, c, k, 0, rfl, hk, Or.inr ⟨by omega, v, rfl, fun h9 => by omega, rfl⟩⟩
    · cases hd
  · cases hd
theorem a_ixl_i (hd : a_ixl kd pn lo sk h = some (.inl st')) : ∃ i o r, sk = .inl i :: .inr (some o) :: r ∧ hK h o = kd ∧ vp_in i (hL h o) ∧ st' = (pn, lo, .inl (hI h o i.toNatClampNeg) :: r, h) := by
  unfold a_ixl at hd
  split at hd
  · next i o r =>
    split at hd
    · next hk => cases hd; exact ⟨i, o, r, rfl, hk.1, hk.2, rfl⟩
    · cases hd
  · cases hd
theorem a_scl_i (hd : a_scl xs L pn lo sk h = some (.inl st')) : ∃ i r, sk = .inl i :: .inr (some 0) :: r ∧ vp_in i L ∧ st' = (pn, lo, .inl (xs i.toNatClampNeg) :: r, h) := by
  unfold a_scl at hd
  split at hd
  · next i r =>
    split at hd
    · next hk => cases hd; exact ⟨i, r, rfl, hk, rfl⟩
    · cases hd
  · cases hd
theorem a_ixs_i {f : Int32 → Int32} (hd : a_ixs kd f pn lo sk h = some (.inl st')) : ∃ v i o r, sk = .inl v :: .inl i :: .inr (some o) :: r ∧ hK h o = kd ∧ vp_in i (hL h o) ∧ st' = (pn, lo, r, sI h o i.toNatClampNeg (f v)) := by
  unfold a_ixs at hd
  split at hd
  · next v i o r =>
    split at hd
    · next hk => cases hd; exact ⟨v, i, o, r, rfl, hk.1, hk.2, rfl⟩
    · cases hd
  · cases hd
theorem a_axl_i (hd : a_axl pn lo sk h = some (.inl st')) : ∃ i o r, sk = .inl i :: .inr (some o) :: r ∧ (hK h o = 23 ∨ hK h o = 24) ∧ vp_in i (hL h o) ∧ st' = (pn, lo, .inr (hR h o i.toNatClampNeg) :: r, h) := by
  unfold a_axl at hd
  split at hd
  · next i o r =>
    split at hd
    · next hk => cases hd; exact ⟨i, o, r, rfl, hk.1, hk.2, rfl⟩
    · cases hd
  · cases hd
theorem a_axs_i (hd : a_axs ns pn lo sk h = some (.inl st')) : ∃ i o r kd ke, ns = [kd, ke] ∧ hK h o = kd ∧ vp_in i (hL h o) ∧ ((sk = .inr none :: .inl i :: .inr (some o) :: r ∧ st' = (pn, lo, r, sR h o i.toNatClampNeg none)) ∨ ∃ v, sk = .inr (some v) :: .inl i :: .inr (some o) :: r ∧ hK h v = ke ∧ st' = (pn, lo, r, sR h o i.toNatClampNeg (some v))) := by
  unfold a_axs at hd
  split at hd
  · next i o r kd ke =>
    split at hd
    · next hk => cases hd; exact ⟨i, o, r, kd, ke, rfl, hk.1, hk.2, Or.inl ⟨rfl, rfl⟩⟩
    · cases hd
  · next v i o r kd ke =>
    split at hd
    · next hk => cases hd; exact ⟨i, o, r, kd, ke, rfl, hk.1.1, hk.2, Or.inr ⟨v, rfl, hk.1.2, rfl⟩⟩
    · cases hd
  · cases hd
theorem a_len_i (hd : a_len pn lo sk h = some (.inl st')) : ∃ o r, sk = .inr (some o) :: r ∧ (20 ≤ hK h o ∧ hK h o ≤ 24) ∧ st' = (pn, lo, .inl (Int32.ofNat (hL h o)) :: r, h) := by
  unfold a_len at hd
  split at hd
  · next o r =>
    split at hd
    · next hk => cases hd; exact ⟨o, r, rfl, hk, rfl⟩
    · cases hd
  · cases hd
theorem a_scn_i (hd : a_scn L pn lo sk h = some (.inl st')) : ∃ r, sk = .inr (some 0) :: r ∧ st' = (pn, lo, .inl (Int32.ofNat L) :: r, h) := by
  unfold a_scn at hd
  split at hd
  · next r => cases hd; exact ⟨r, rfl, rfl⟩
  · cases hd
theorem a_new_i (hd : a_new ns pn lo sk h = some (.inl st')) : ∃ c n, ns = [c, n] ∧ st' = (pn, lo, .inr (some (hN h)) :: sk, nw h c 0 n) := by
  unfold a_new at hd
  split at hd
  · next c n => cases hd; exact ⟨c, n, rfl, rfl⟩
  · cases hd
theorem a_arr_i (hd : a_arr ns pn lo sk h = some (.inl st')) : ∃ n r kd, sk = .inl n :: r ∧ ns = [kd] ∧ ¬ n < 0 ∧ n.toNatClampNeg ≤ 100000 ∧ st' = (pn, lo, .inr (some (hN h)) :: r, nw h kd n.toNatClampNeg n.toNatClampNeg) := by
  unfold a_arr at hd
  split at hd
  · next n r kd =>
    split at hd
    · next hk => cases hd; exact ⟨n, r, kd, rfl, rfl, hk.1, hk.2, rfl⟩
    · cases hd
  · cases hd
theorem a_obj_i (hd : a_obj pn lo sk h = some (.inl st')) : ∃ o r, sk = .inr (some o) :: r ∧ r.length ≤ 8 ∧ st' = (pn, lo, r, h) := by
  unfold a_obj at hd
  split at hd
  · next o r =>
    split at hd
    · next hk => cases hd; exact ⟨o, r, rfl, hk, rfl⟩
    · cases hd
  · cases hd
theorem a_cpy_i (hd : a_cpy pn lo sk h = some (.inl st')) : ∃ n dp d sp o r, sk = .inl n :: .inl dp :: .inr (some d) :: .inl sp :: .inr (some o) :: r ∧ (hK h o = 20 ∧ hK h d = 20 ∧ o ≠ d) ∧ (¬ sp < 0 ∧ ¬ dp < 0 ∧ ¬ n < 0) ∧ (sp.toNatClampNeg + n.toNatClampNeg ≤ hL h o ∧ dp.toNatClampNeg + n.toNatClampNeg ≤ hL h d) ∧ r.length ≤ 8 ∧ st' = (pn, lo, r, sA h d (va_cpy (hI h o) (hI h d) sp.toNatClampNeg dp.toNatClampNeg n.toNatClampNeg)) := by
  unfold a_cpy at hd
  split at hd
  · next n dp d sp o r =>
    split at hd
    · next hk => cases hd; exact ⟨n, dp, d, sp, o, r, rfl, hk.1, hk.2.1, hk.2.2.1, hk.2.2.2, rfl⟩
    · cases hd
  · cases hd
theorem a_cln_i (hd : a_cln pn lo sk h = some (.inl st')) : ∃ o r, sk = .inr (some o) :: r ∧ hK h o = 20 ∧ r.length ≤ 8 ∧ st' = (pn, lo, .inr (some (hN h)) :: r, sA (nw h 20 (hL h o) (hL h o)) (hN h) (hI h o)) := by
  unfold a_cln at hd
  split at hd
  · next o r =>
    split at hd
    · next hk => cases hd; exact ⟨o, r, rfl, hk.1, hk.2, rfl⟩
    · cases hd
  · cases hd
theorem a_cch_i (hd : a_cch pn lo sk h = some (.inl st')) : ∃ o r, sk = .inr (some o) :: r ∧ hK h o = 20 ∧ st' = (pn, lo, .inr (some o) :: r, h) := by
  unfold a_cch at hd
  split at hd
  · next o r =>
    split at hd
    · next hk => cases hd; exact ⟨o, r, rfl, hk, rfl⟩
    · cases hd
  · cases hd
theorem a_call_i (hd : a_call ns pn lo sk h = some (.inr (.inl cl))) : ∃ mj n, ns = [mj, n] ∧ n ≤ sk.length ∧ sk.length ≤ n + 8 ∧ cl = (mj, (sk.take n).reverse, (pn, lo, sk.drop n, h)) := by
  unfold a_call at hd
  split at hd
  · next mj n =>
    split at hd
    · next hk => cases hd; exact ⟨mj, n, rfl, hk.1, hk.2, rfl⟩
    · cases hd
  · cases hd
theorem a_callv_i (hd : a_callv ns pn lo sk h = some (.inr (.inl cl))) : ∃ mj n kd o as, ns = [mj, n, kd] ∧ (sk.take n).reverse = .inr (some o) :: as ∧ n ≤ sk.length ∧ sk.length ≤ n + 8 ∧ hK h o = kd ∧ cl = (mj, .inr (some o) :: as, (pn, lo, sk.drop n, h)) := by
  unfold a_callv at hd
  split at hd
  · next mj n kd =>
    split at hd
    · next o as ha =>
      split at hd
      · next hk => cases hd; exact ⟨mj, n, kd, o, as, rfl, ha, hk.1.1, hk.1.2, hk.2, rfl⟩
      · cases hd
    · cases hd
  · cases hd
theorem a_iret_i (hd : a_iret ret sk h = some (.inr (.inr rs))) : ∃ v ty, sk = [.inl v] ∧ ret = some ty ∧ narrow ty (.int v) = .int v ∧ rs = (some (.inl v), h) := by
  unfold a_iret at hd
  split at hd
  · next v => cases hd; exact ⟨v, .int, rfl, rfl, rfl, rfl⟩
  · next v =>
    split at hd
    · next hz =>
      cases hd
      refine ⟨v, .boolean, rfl, rfl, ?_, rfl⟩
      rcases hz with rfl | rfl <;> decide +kernel
    · cases hd
  · next v =>
    split at hd
    · next hz =>
      cases hd
      refine ⟨v, .char, rfl, rfl, ?_, rfl⟩
      obtain ⟨j, hj, rfl⟩ := nI_of hz.1
      have h6 : j < 65536 := by
        have := (nI_ltI hj (b := 65536) (by decide)).mp hz.2
        exact this
      exact (pk_charN h6).1
    · cases hd
  · cases hd
theorem a_aret_i (hd : a_aret ret sk h = some (.inr (.inr rs))) : ∃ v ty, sk = [.inr v] ∧ ret = some ty ∧ ((∃ n, ty = .object n) ∨ ∃ t, ty = .array t) ∧ rs = (some (.inr v), h) := by
  unfold a_aret at hd
  split at hd
  · next v C => cases hd; exact ⟨v, .object C, rfl, rfl, Or.inl ⟨C, rfl⟩, rfl⟩
  · next v t => cases hd; exact ⟨v, .array t, rfl, rfl, Or.inr ⟨t, rfl⟩, rfl⟩
  · cases hd
theorem a_vret_i (hd : a_vret ret sk h = some (.inr (.inr rs))) : sk = [] ∧ ret = none ∧ rs = (none, h) := by
  unfold a_vret at hd
  split at hd
  · cases hd; exact ⟨rfl, rfl, rfl⟩
  · cases hd
end INV

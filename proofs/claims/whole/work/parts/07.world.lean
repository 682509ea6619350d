-- WHAT A SMALL HEAP SAYS OF A HEAP: its objects as cells of a world
def tv (ad : Nat → Nat) (v : AV) : Value := match v with
  | .inl x => .int x
  | .inr r => va_rf (r.map ad)
def fvl (ad : Nat → Nat) (h : Hp) (o k t : Nat) : Value := if t = 2 then va_rf ((hR h o k).map ad) else .int (hI h o k)
def fls (ad : Nat → Nat) (h : Hp) (c o : Nat) : List Value := (List.range (am_fn c)).map (fun k => fvl ad h o k (am_ft c k))
def cel (ad : Nat → Nat) (ca : Nat → ClassId) (h : Hp) (o : Nat) : va_E :=
  if hK h o < 20 then .inr (hK h o, fls ad h (hK h o) o)
  else if hK h o < 23 then .inl (ca o, hL h o, .inl (hI h o))
  else .inl (ca o, hL h o, .inr (.inr (.inr (.inr (fun k => (hR h o k).map ad)))))
def wld (ad : Nat → Nat) (ca : Nat → ClassId) (h : Hp) : va_W := (List.range (hN h - 3)).map (fun k => (ad (k + 3), cel ad ca h (k + 3)))
def wfh (h : Hp) : Prop := 3 ≤ hN h ∧ (∀ o, o < 3 → 30 ≤ hK h o) ∧ ∀ o k r, hR h o k = some r → r < hN h
def wfv (h : Hp) (v : AV) : Prop := ∀ r, v = .inr (some r) → r < hN h
theorem tv_cat (ad : Nat → Nat) (v : AV) : (tv ad v).category = 1 := by
  rcases v with x | r
  · rfl
  · cases r <;> rfl
theorem tv_agree {ad ad' : Nat → Nat} {h : Hp} {v : AV} (hw : wfv h v) (ha : ∀ o, o < hN h → ad' o = ad o) : tv ad' v = tv ad v := by
  rcases v with x | r
  · rfl
  · cases r with
    | none => rfl
    | some o => simp only [tv, Option.map_some, ha o (hw o rfl)]
theorem map_agree {ad ad' : Nat → Nat} {h : Hp} (hw : wfh h) (ha : ∀ o, o < hN h → ad' o = ad o) (o k : Nat) : (hR h o k).map ad' = (hR h o k).map ad := by
  cases hr : hR h o k with
  | none => rfl
  | some r => simp only [Option.map_some, ha r (hw.2.2 o k r hr)]
theorem wld_len (ad : Nat → Nat) (ca : Nat → ClassId) (h : Hp) : (wld ad ca h).length = hN h - 3 := by simp [wld]
theorem wld_at {ad : Nat → Nat} {ca : Nat → ClassId} {h : Hp} {o : Nat} (h3 : 3 ≤ o) (ho : o < hN h) : (wld ad ca h)[o - 3]? = some (ad o, cel ad ca h o) := by
  have e : o - 3 + 3 = o := by omega
  simp only [wld, List.getElem?_map]
  rw [List.getElem?_range (by omega)]
  simp only [Option.map_some, e]
theorem wld_set {ad : Nat → Nat} {ca : Nat → ClassId} {h h' : Hp} {o : Nat} {x : va_E} (h3 : 3 ≤ o) (hn : hN h' = hN h) (hx : cel ad ca h' o = x) (hq : ∀ q, q ≠ o → cel ad ca h' q = cel ad ca h q) : (wld ad ca h).set (o - 3) (ad o, x) = wld ad ca h' := by
  have e : o - 3 + 3 = o := by omega
  apply List.ext_getElem?
  intro k
  rw [List.getElem?_set]
  simp only [wld, List.getElem?_map, hn, List.length_map, List.length_range]
  by_cases hk : o - 3 = k
  · subst hk
    by_cases hl : o - 3 < hN h - 3
    · rw [List.getElem?_range hl]
      simp [hl, e, hx]
    · simp [hl, List.getElem?_eq_none]
  · simp only [hk, if_false]
    by_cases hl : k < hN h - 3
    · rw [List.getElem?_range hl]
      simp only [Option.map_some, hq (k + 3) (by omega)]
    · rw [List.getElem?_eq_none (by simpa using hl)]
      rfl
theorem wld_new {ad ad' : Nat → Nat} {ca ca' : Nat → ClassId} {h h' : Hp} {q : Nat} {x : va_E} (h3 : 3 ≤ hN h) (hn : hN h' = hN h + 1) (hx : ad' (hN h) = q ∧ cel ad' ca' h' (hN h) = x) (hq : ∀ o, o < hN h → ad' o = ad o ∧ cel ad' ca' h' o = cel ad ca h o) : wld ad ca h ++ [(q, x)] = wld ad' ca' h' := by
  have e : hN h + 1 - 3 = (hN h - 3) + 1 := by omega
  simp only [wld, hn, e, List.range_succ, List.map_append, List.map_cons, List.map_nil]
  have e2 : hN h - 3 + 3 = hN h := by omega
  rw [e2, hx.1, hx.2]
  congr 1
  apply List.map_congr_left
  intro k hk
  have hk := List.mem_range.mp hk
  rw [(hq (k + 3) (by omega)).1, (hq (k + 3) (by omega)).2]
-- what a write does to the cells
theorem cel_ne {ad : Nat → Nat} {ca : Nat → ClassId} {h h' : Hp} {q : Nat} (hk : hK h' q = hK h q) (hl : hL h' q = hL h q) (hi : ∀ k, hI h' q k = hI h q k) (hr : ∀ k, hR h' q k = hR h q k) : cel ad ca h' q = cel ad ca h q := by
  have e1 : hI h' q = hI h q := funext hi
  have e2 : (fun k => (hR h' q k).map ad) = (fun k => (hR h q k).map ad) := funext fun k => by rw [hr k]
  have e3 : ∀ c, fls ad h' c q = fls ad h c q := fun c => by
    unfold fls fvl
    apply List.map_congr_left
    intro k _
    rw [hi k, hr k]
  simp only [cel, hk, hl, e1, e2, e3]
theorem cel_obj {ad : Nat → Nat} {ca : Nat → ClassId} {h : Hp} {o c : Nat} (hk : hK h o = c) (hc : c < 20) : cel ad ca h o = .inr (c, fls ad h c o) := by
  unfold cel
  rw [hk, if_pos hc]
theorem cel_ints {ad : Nat → Nat} {ca : Nat → ClassId} {h : Hp} {o : Nat} (h1 : 20 ≤ hK h o) (h2 : hK h o < 23) : cel ad ca h o = .inl (ca o, hL h o, .inl (hI h o)) := by
  unfold cel
  rw [if_neg (by omega), if_pos h2]
theorem cel_refs {ad : Nat → Nat} {ca : Nat → ClassId} {h : Hp} {o : Nat} (h2 : 23 ≤ hK h o) : cel ad ca h o = .inl (ca o, hL h o, .inr (.inr (.inr (.inr (fun k => (hR h o k).map ad))))) := by
  unfold cel
  rw [if_neg (by omega), if_neg (by omega)]
theorem fls_at {ad : Nat → Nat} {h : Hp} {c o k : Nat} (hk : k < am_fn c) : (fls ad h c o)[k]? = some (fvl ad h o k (am_ft c k)) := by
  simp only [fls, List.getElem?_map]
  rw [List.getElem?_range hk]
  rfl
theorem fls_len (ad : Nat → Nat) (h : Hp) (c o : Nat) : (fls ad h c o).length = am_fn c := by simp [fls]
theorem fls_set {ad : Nat → Nat} {h h' : Hp} {c o k : Nat} {v : Value} (hv : fvl ad h' o k (am_ft c k) = v) (hq : ∀ j, j ≠ k → fvl ad h' o j (am_ft c j) = fvl ad h o j (am_ft c j)) : (fls ad h c o).set k v = fls ad h' c o := by
  apply List.ext_getElem?
  intro j
  rw [List.getElem?_set]
  simp only [fls, List.getElem?_map, List.length_map, List.length_range]
  by_cases hk : k = j
  · subst hk
    by_cases hl : k < am_fn c
    · rw [List.getElem?_range hl]
      simp [hl, hv]
    · simp [hl, List.getElem?_eq_none]
  · simp only [hk, if_false]
    by_cases hl : j < am_fn c
    · rw [List.getElem?_range hl]
      simp only [Option.map_some, hq j (fun e => hk e.symm)]
    · rw [List.getElem?_eq_none (by simpa using hl)]
      rfl
-- the locals
def lvl (ad : Nat → Nat) (lo : Lo) : List (Nat × Value) := (List.range lo.length).filterMap (fun i => match lo[i]? with | some (some v) => some (i, tv ad v) | _ => none)
theorem lvl_in {ad : Nat → Nat} {lo : Lo} {i : Nat} {w : Value} : (i, w) ∈ lvl ad lo ↔ ∃ v, lo[i]? = some (some v) ∧ w = tv ad v := by
  unfold lvl
  rw [List.mem_filterMap]
  constructor
  · rintro ⟨j, -, hj⟩
    split at hj
    · next v hv =>
      cases hj
      exact ⟨v, hv, rfl⟩
    · cases hj
  · rintro ⟨v, hv, rfl⟩
    exact ⟨i, List.mem_range.mpr (List.getElem?_eq_some_iff.mp hv).1, by rw [hv]⟩
theorem lvl_get {ad : Nat → Nat} {lo : Lo} {ls : Array Slot} {nL i : Nat} {v : AV} (hl : lv_has ls nL (lvl ad lo)) (hv : lo[i]? = some (some v)) : ls[i]? = some (.val (tv ad v)) := hl.2.2 (i, tv ad v) (lvl_in.mpr ⟨v, hv, rfl⟩)
theorem lvl_put {ad : Nat → Nat} {lo : Lo} {ls : Array Slot} {nL i : Nat} {v : AV} (hi : i < lo.length) (hl : lv_has ls nL ((i, tv ad v) :: (lvl ad lo).filter (fun q => !(q.1 == i) && !(q.1 + 1 == i && q.2.category == 2)))) : lv_has ls nL (lvl ad (lo.set i (some v))) := by
  refine ⟨hl.1, hl.2.1, fun q hq => ?_⟩
  obtain ⟨j, w⟩ := q
  obtain ⟨u, hu, rfl⟩ := lvl_in.mp hq
  rw [List.getElem?_set] at hu
  by_cases hj : i = j
  · subst hj
    simp only [if_true, hi] at hu
    cases hu
    exact hl.2.2 _ List.mem_cons_self
  · rw [if_neg hj] at hu
    refine hl.2.2 _ (List.mem_cons_of_mem _ (List.mem_filter.mpr ⟨lvl_in.mpr ⟨u, hu, rfl⟩, ?_⟩))
    have hc := tv_cat ad u
    simp only [hc]
    simp
    intro e
    exact absurd e.symm hj
theorem lvl_agree {ad ad' : Nat → Nat} {h : Hp} {lo : Lo} (hw : ∀ v, some v ∈ lo → wfv h v) (ha : ∀ o, o < hN h → ad' o = ad o) : lvl ad' lo = lvl ad lo := by
  have e : (fun i : Nat => match lo[i]? with | some (some v) => some (i, tv ad' v) | _ => none) = (fun i : Nat => match lo[i]? with | some (some v) => some (i, tv ad v) | _ => none) := funext fun i => by
    cases hv : lo[i]? with
    | none => rfl
    | some x => cases x with
      | none => rfl
      | some v =>
        show some (i, tv ad' v) = some (i, tv ad v)
        rw [tv_agree (hw v (List.mem_of_getElem? hv)) ha]
  exact congrArg (fun f => List.filterMap f (List.range lo.length)) e
theorem lvl_args (ad : Nat → Nat) : ∀ (as : List AV) (i : Nat) (j : Nat) (v : AV), as[j]? = some v → (i + j, tv ad v) ∈ lv_args i (as.map (tv ad))
  | [], _, _, _, h => by simp at h
  | a :: as, i, j, v, h => by
    simp only [List.map_cons, lv_args, tv_cat]
    cases j with
    | zero =>
      simp only [List.getElem?_cons_zero, Option.some.injEq] at h
      subst h
      exact List.mem_cons_self
    | succ j =>
      rw [List.getElem?_cons_succ] at h
      refine List.mem_cons_of_mem _ ?_
      have := lvl_args ad as (i + 1) j v h
      rw [show i + (j + 1) = i + 1 + j by omega]
      simpa using this
theorem lg_len (ad : Nat → Nat) (as : List AV) : (lg_sl (as.map (tv ad))).length = as.length := by
  induction as with
  | nil => rfl
  | cons a as ih =>
    simp only [lg_sl, List.map_cons, List.flatMap_cons, tv_cat] at ih ⊢
    simp [ih]
theorem cat_sum (ad : Nat → Nat) (r : List AV) : ((r.map (tv ad)).map fun v => v.category).sum = r.length := by
  induction r with
  | nil => rfl
  | cons a r ih => simp only [List.map_cons, List.sum_cons, ih, tv_cat, List.length_cons]; omega

theorem a_call_n {ns : List Nat} {pn : Nat} {lo : Lo} {sk : List AV} {h : Hp} {st' : St} : ¬ a_call ns pn lo sk h = some (.inl st') := by
  intro hd
  unfold a_call at hd
  split at hd
  · split at hd <;> cases hd
  · cases hd
theorem a_callv_n {ns : List Nat} {pn : Nat} {lo : Lo} {sk : List AV} {h : Hp} {st' : St} : ¬ a_callv ns pn lo sk h = some (.inl st') := by
  intro hd
  unfold a_callv at hd
  split at hd
  · split at hd
    · split at hd <;> cases hd
    · cases hd
  · cases hd
theorem a_iret_n {ret : Option FieldType} {sk : List AV} {h : Hp} {st' : St} : ¬ a_iret ret sk h = some (.inl st') := by
  intro hd
  unfold a_iret at hd
  split at hd
  · cases hd
  · split at hd <;> cases hd
  · split at hd <;> cases hd
  · cases hd
theorem a_aret_n {ret : Option FieldType} {sk : List AV} {h : Hp} {st' : St} : ¬ a_aret ret sk h = some (.inl st') := by
  intro hd
  unfold a_aret at hd
  split at hd <;> cases hd
theorem a_vret_n {ret : Option FieldType} {sk : List AV} {h : Hp} {st' : St} : ¬ a_vret ret sk h = some (.inl st') := by
  intro hd
  unfold a_vret at hd
  split at hd <;> cases hd
theorem wk_c {h : Hp} {v : AV} {sk : List AV} (hv : wfv h v) (hs : ∀ w, w ∈ sk → wfv h w) : ∀ w, w ∈ v :: sk → wfv h w := fun w hw => by
  rcases List.mem_cons.mp hw with rfl | hw
  · exact hv
  · exact hs w hw
theorem wk_t {h : Hp} {v : AV} {sk : List AV} (hs : ∀ w, w ∈ v :: sk → wfv h w) : ∀ w, w ∈ sk → wfv h w := fun w hw => hs w (List.mem_cons_of_mem _ hw)
theorem wk_h {h : Hp} {v : AV} {sk : List AV} (hs : ∀ w, w ∈ v :: sk → wfv h w) : wfv h v := hs v List.mem_cons_self
theorem wk_R {h : Hp} (hw : wfh h) (o k : Nat) : wfv h (.inr (hR h o k)) := fun r hr => hw.2.2 o k r (Sum.inr.inj hr)
theorem a_tgt_lk (pc : Nat) (x : Int32) (d : Int) (t : Nat) (hd : (pc : Int) + d = (t : Int)) : ∀ sw : List (Int32 × Nat), (pc : Int) + Op.lookupswitch.offset (sw.map (fun q => (q.1.toInt, (q.2 : Int) - (pc : Int)))) d x.toInt = (a_tgt x sw t : Int)
  | [] => by simpa [a_tgt, Op.lookupswitch.offset] using hd
  | (v, u) :: r => by
    simp only [List.map_cons, a_tgt]
    by_cases hx : x = v
    · subst hx
      rw [Op.lookupswitch.offset_cons, if_pos rfl, if_pos rfl]
      omega
    · rw [lv_osw hx rfl, if_neg hx]
      exact a_tgt_lk pc x d t hd r
theorem a_tgt_in (x : Int32) (t u : Nat) (v : Int32) (j : Nat) : ∀ sw : List (Int32 × Nat), (∀ i j : Nat, ∀ a b : Int32 × Nat, sw[i]? = some a → sw[j]? = some b → a.1 = b.1 → i = j) → sw[j]? = some (v, u) → x = v → a_tgt x sw t = u := by
  intro sw
  induction sw generalizing j with
  | nil => intro _ h; simp at h
  | cons a r ih =>
    intro hinj hj hx
    obtain ⟨w, z⟩ := a
    unfold a_tgt
    by_cases hw : x = w
    · rw [if_pos hw]
      have := hinj 0 j (w, z) (v, u) rfl hj (by rw [← hw, hx])
      subst this
      simp at hj
      exact hj.2
    · rw [if_neg hw]
      cases j with
      | zero => simp at hj; exact absurd (hx.trans hj.1.symm) hw
      | succ j =>
        exact ih j (fun i j a b ha hb hab => by have := hinj (i + 1) (j + 1) a b ha hb hab; omega) hj hx
theorem a_tgt_out (x : Int32) (t : Nat) : ∀ sw : List (Int32 × Nat), (∀ j : Nat, ∀ a : Int32 × Nat, sw[j]? = some a → ¬ x = a.1) → a_tgt x sw t = t
  | [], _ => rfl
  | (w, z) :: r, h => by
    unfold a_tgt
    rw [if_neg (h 0 (w, z) rfl)]
    exact a_tgt_out x t r (fun j a ha => h (j + 1) a ha)
section ONE
variable {p : Program} {l : Launch} {e : Env} {R : Room} {s : State} {m : MethodId} {args : Array Value} {below : List Frame} {meth : Method} {c : Code} {H : Heap} {locs : List Loc} {cells slots : Nat} {Q : State → Prop}
variable {ls : Array Slot} {D : va_G} {A : Nat → Prop} {ad ad0 : Nat → Nat} {ca : Nat → ClassId} {h : Hp} {n0 u0 nL mi pc ln b L : Nat} {xs : Nat → Int32} {lo : Lo} {sk : List AV} {ns : List Nat} {sw : List (Int32 × Nat)} {st' : St}
set_option maxHeartbeats 8000000 in
set_option maxRecDepth 100000 in
theorem am_one {i : Instr} (hx : p.tables.exec = Jvm.exec) (hb : c.code = am_b mi) (hts : ∀ w ∈ am_W, w.before args s = true) (hown : s.vm.findClass (am_own mi) = some m.cls) (hname : (am_y mi).name = "<init>" → meth.name = "<init>") (hml : c.maxLocals = nL) (hA : ∀ q, s.heap.size ≤ q → A q) (hsc : mi = am_law → (va_X b L xs s s.heap ∧ b < s.heap.size ∧ ¬ A b ∧ ad0 0 = b ∧ 0 < n0)) (hfr : 1 ≤ R.frames) (hlo : am_K ≤ R.locals) (hao : ∀ C, Cond.arrayOver (.object C) ∈ lw_tbl → va_AO C s) (hcb0 : va_Nw (.castable "[I" "java/lang/Cloneable") s) (hst : ST A ad0 s) (h3n : 3 ≤ n0) (hf5 : 5 ≤ R.frames)
    (hdg : decode (am_b mi) pc = .ok (i, ln)) (hck : am_chk mi pc i ln ns sw = true) (hdo : am_do xs L (am_ret mi) i ns sw (pc + ln) lo sk h = some (.inl st')) (q : SR D A s n0 u0 ad0 nL ad ca lo sk h H locs ls cells slots) (hcells : hN st'.2.2.2 - n0 ≤ R.cells) (hslots : hU st'.2.2.2 - u0 ≤ R.slots)
    (kk : ∀ (ad2 : Nat → Nat) (ca2 : Nat → ClassId) (H2 : Heap) (locs2 : List Loc) (ls2 : Array Slot) (cells2 slots2 : Nat), SR D A s n0 u0 ad0 nL ad2 ca2 st'.2.1 st'.2.2.1 st'.2.2.2 H2 locs2 ls2 cells2 slots2 → W p l e R s m args below meth c H2 locs2 cells2 slots2 Q (F0 m st'.1 ls2 (st'.2.2.1.map (tv ad2)))) : W p l e R s m args below meth c H locs cells slots Q (F0 m pc ls (sk.map (tv ad))) := by
  have hRL := q.1
  have hS := q.2.1
  have hLL := q.2.2.1
  have hll := q.2.2.2.1
  have hwl := q.wl
  have hwk := q.wk
  cases i
  case iconst n =>
    simp only [am_chk, Bool.and_eq_true, decide_eq_true_eq] at hck
    obtain ⟨h1, rfl⟩ := hck
    obtain ⟨v, z, r, rfl, rfl⟩ := a_cst_i hdo
    simp only [am_chC, decide_eq_true_eq] at h1
    exact lv_iconst hx hb hdg h1 (kk ad ca H locs ls cells slots (q.stk (wk_c wfv_int hwk)))
  case bipush n =>
    simp only [am_chk, Bool.and_eq_true, decide_eq_true_eq] at hck
    obtain ⟨h1, rfl⟩ := hck
    obtain ⟨v, z, r, rfl, rfl⟩ := a_cst_i hdo
    simp only [am_chC, decide_eq_true_eq] at h1
    exact lv_bipush hx hb hdg h1 (kk ad ca H locs ls cells slots (q.stk (wk_c wfv_int hwk)))
  case sipush n =>
    simp only [am_chk, Bool.and_eq_true, decide_eq_true_eq] at hck
    obtain ⟨h1, rfl⟩ := hck
    obtain ⟨v, z, r, rfl, rfl⟩ := a_cst_i hdo
    simp only [am_chC, decide_eq_true_eq] at h1
    exact lv_sipush hx hb hdg h1 (kk ad ca H locs ls cells slots (q.stk (wk_c wfv_int hwk)))
  case ldc idx =>
    rcases sw with _ | ⟨⟨v, z⟩, r⟩
    · simp only [am_chk, am_chS, Bool.and_eq_true, Bool.or_eq_true, decide_eq_true_eq] at hck
      obtain ⟨⟨ho, hk⟩, rfl⟩ := hck
      have q7 := q.2.2.2.2.2.2.1
      have q8 := q.2.2.2.2.2.2.2.1
      rw [ho] at hown
      rcases hk with ⟨rfl, rfl⟩ | ⟨rfl, rfl⟩
      · have hdo2 : a_lds [2] (pc + 2) lo sk h = some (.inl st') := hdo
        obtain rfl := a_lds_i hdo2
        exact va_ldcS (q := ad 2) hx hb hown (by rw [q7 2 (by omega)]; exact hst.1) hdg (kk ad ca H locs ls cells slots (q.stk (wk_c (wfv_of (by omega)) hwk)))
      · have hdo2 : a_lds [1] (pc + 2) lo sk h = some (.inl st') := hdo
        obtain rfl := a_lds_i hdo2
        exact va_ldcS (q := ad 1) hx hb hown (by rw [q7 1 (by omega)]; exact hst.2.1) hdg (kk ad ca H locs ls cells slots (q.stk (wk_c (wfv_of (by omega)) hwk)))
    · simp only [am_chk, Bool.and_eq_true, decide_eq_true_eq] at hck
      obtain ⟨h1, rfl⟩ := hck
      have hdo2 : a_cst ((v, z) :: r) (pc + 2) lo sk h = some (.inl st') := hdo
      obtain ⟨v2, z2, r2, e1, rfl⟩ := a_cst_i hdo2
      cases e1
      exact lv_ldc hx hb hown (hts _ (am_wd_in h1)) hdg (kk ad ca H locs ls cells slots (q.stk (wk_c wfv_int hwk)))
  case iload k =>
    simp only [am_chk, Bool.and_eq_true, decide_eq_true_eq] at hck
    subst hck
    obtain ⟨x, hl, rfl⟩ := a_ild_i hdo
    exact lv_iload hx hb hdg (lvl_get hLL hl) (kk ad ca H locs ls cells slots (q.stk (wk_c wfv_int hwk)))
  case iload_n k =>
    simp only [am_chk, Bool.and_eq_true, decide_eq_true_eq] at hck
    subst hck
    obtain ⟨x, hl, rfl⟩ := a_ild_i hdo
    exact lv_iload_n hx hb hdg rfl (lvl_get hLL hl) (kk ad ca H locs ls cells slots (q.stk (wk_c wfv_int hwk)))
  case aload k =>
    simp only [am_chk, Bool.and_eq_true, decide_eq_true_eq] at hck
    subst hck
    obtain ⟨x, hl, rfl⟩ := a_ald_i hdo
    have hw := hwl _ (List.mem_of_getElem? hl)
    cases x with
    | none => exact lv_aloadN hx hb hdg (lvl_get hLL hl) (kk ad ca H locs ls cells slots (q.stk (wk_c hw hwk)))
    | some x => exact lv_aload hx hb hdg (lvl_get hLL hl) (kk ad ca H locs ls cells slots (q.stk (wk_c hw hwk)))
  case aload_n k =>
    simp only [am_chk, Bool.and_eq_true, decide_eq_true_eq] at hck
    subst hck
    obtain ⟨x, hl, rfl⟩ := a_ald_i hdo
    have hw := hwl _ (List.mem_of_getElem? hl)
    cases x with
    | none => exact lv_aload_nN hx hb hdg rfl (lvl_get hLL hl) (kk ad ca H locs ls cells slots (q.stk (wk_c hw hwk)))
    | some x => exact lv_aload_n hx hb hdg rfl (lvl_get hLL hl) (kk ad ca H locs ls cells slots (q.stk (wk_c hw hwk)))
  case istore k =>
    simp only [am_chk, Bool.and_eq_true, decide_eq_true_eq] at hck
    subst hck
    obtain ⟨x, r, rfl, hk, rfl⟩ := a_ist_i hdo
    exact lv_istore hx hb hdg hLL (by rw [← hll]; exact hk) rfl (fun ls2 hl2 => kk ad ca H locs ls2 cells slots (q.loc hk wfv_int hl2 (wk_t hwk)))
  case astore k =>
    simp only [am_chk, Bool.and_eq_true, decide_eq_true_eq] at hck
    subst hck
    obtain ⟨x, r, rfl, hk, rfl⟩ := a_ast_i hdo
    cases x with
    | none => exact lv_astoreN hx hb hdg hLL (by rw [← hll]; exact hk) rfl (fun ls2 hl2 => kk ad ca H locs ls2 cells slots (q.loc hk (wk_h hwk) hl2 (wk_t hwk)))
    | some x => exact lv_astore hx hb hdg hLL (by rw [← hll]; exact hk) rfl (fun ls2 hl2 => kk ad ca H locs ls2 cells slots (q.loc hk (wk_h hwk) hl2 (wk_t hwk)))
  case istore_n k =>
    simp only [am_chk, Bool.and_eq_true, decide_eq_true_eq] at hck
    subst hck
    obtain ⟨x, r, rfl, hk, rfl⟩ := a_ist_i hdo
    exact lv_istore_n hx hb hdg rfl hLL (by rw [← hll]; exact hk) rfl (fun ls2 hl2 => kk ad ca H locs ls2 cells slots (q.loc hk wfv_int hl2 (wk_t hwk)))
  case astore_n k =>
    simp only [am_chk, Bool.and_eq_true, decide_eq_true_eq] at hck
    subst hck
    obtain ⟨x, r, rfl, hk, rfl⟩ := a_ast_i hdo
    cases x with
    | none => exact lv_astore_nN hx hb hdg rfl hLL (by rw [← hll]; exact hk) rfl (fun ls2 hl2 => kk ad ca H locs ls2 cells slots (q.loc hk (wk_h hwk) hl2 (wk_t hwk)))
    | some x => exact lv_astore_n hx hb hdg rfl hLL (by rw [← hll]; exact hk) rfl (fun ls2 hl2 => kk ad ca H locs ls2 cells slots (q.loc hk (wk_h hwk) hl2 (wk_t hwk)))
  case iinc k n =>
    simp only [am_chk, Bool.and_eq_true, decide_eq_true_eq] at hck
    obtain ⟨h1, rfl⟩ := hck
    obtain ⟨x, v, z, r, hl, rfl, rfl⟩ := a_inc_i hdo
    simp only [am_chC, decide_eq_true_eq] at h1
    obtain ⟨j, hj⟩ := List.getElem?_of_mem (lvl_in.mpr ⟨_, hl, rfl⟩ : (k, tv ad (.inl x)) ∈ lvl ad lo)
    have hk : k < lo.length := (List.getElem?_eq_some_iff.mp hl).1
    exact lv_iinc hx hb hdg hLL hj (v := x + v) (by rw [h1]) (by rw [← hll]; exact hk) rfl (fun ls2 hl2 => kk ad ca H locs ls2 cells slots (q.loc hk wfv_int hl2 hwk))
  case iadd =>
    simp only [am_chk, Bool.and_eq_true, decide_eq_true_eq] at hck
    subst hck
    obtain ⟨y, x, r, rfl, rfl⟩ := a_bin_i hdo
    exact lv_iadd hx hb hdg (kk ad ca H locs ls cells slots (q.stk (wk_c wfv_int (wk_t (wk_t hwk)))))
  case isub =>
    simp only [am_chk, Bool.and_eq_true, decide_eq_true_eq] at hck
    subst hck
    obtain ⟨y, x, r, rfl, rfl⟩ := a_bin_i hdo
    exact lv_isub hx hb hdg (kk ad ca H locs ls cells slots (q.stk (wk_c wfv_int (wk_t (wk_t hwk)))))
  case imul =>
    simp only [am_chk, Bool.and_eq_true, decide_eq_true_eq] at hck
    subst hck
    obtain ⟨y, x, r, rfl, rfl⟩ := a_bin_i hdo
    exact lv_imul hx hb hdg (kk ad ca H locs ls cells slots (q.stk (wk_c wfv_int (wk_t (wk_t hwk)))))
  case iand =>
    simp only [am_chk, Bool.and_eq_true, decide_eq_true_eq] at hck
    subst hck
    obtain ⟨y, x, r, rfl, rfl⟩ := a_bin_i hdo
    exact lv_iand hx hb hdg (kk ad ca H locs ls cells slots (q.stk (wk_c wfv_int (wk_t (wk_t hwk)))))
  case ior =>
    simp only [am_chk, Bool.and_eq_true, decide_eq_true_eq] at hck
    subst hck
    obtain ⟨y, x, r, rfl, rfl⟩ := a_bin_i hdo
    exact lv_ior hx hb hdg (kk ad ca H locs ls cells slots (q.stk (wk_c wfv_int (wk_t (wk_t hwk)))))
  case ishl =>
    simp only [am_chk, Bool.and_eq_true, decide_eq_true_eq] at hck
    subst hck
    obtain ⟨y, x, r, rfl, rfl⟩ := a_bin_i hdo
    exact lv_ishl hx hb hdg (kk ad ca H locs ls cells slots (q.stk (wk_c wfv_int (wk_t (wk_t hwk)))))
  case ishr =>
    simp only [am_chk, Bool.and_eq_true, decide_eq_true_eq] at hck
    subst hck
    obtain ⟨y, x, r, rfl, rfl⟩ := a_bin_i hdo
    exact lv_ishr hx hb hdg (kk ad ca H locs ls cells slots (q.stk (wk_c wfv_int (wk_t (wk_t hwk)))))
  case idiv =>
    simp only [am_chk, Bool.and_eq_true, decide_eq_true_eq] at hck
    subst hck
    obtain ⟨y, x, r, rfl, hy, rfl⟩ := a_dvd_i hdo
    exact lv_idiv hx hb hdg hy (kk ad ca H locs ls cells slots (q.stk (wk_c wfv_int (wk_t (wk_t hwk)))))
  case irem =>
    simp only [am_chk, Bool.and_eq_true, decide_eq_true_eq] at hck
    subst hck
    obtain ⟨y, x, r, rfl, hy, rfl⟩ := a_dvd_i hdo
    exact lv_irem hx hb hdg hy (kk ad ca H locs ls cells slots (q.stk (wk_c wfv_int (wk_t (wk_t hwk)))))
  case i2c =>
    simp only [am_chk, Bool.and_eq_true, decide_eq_true_eq] at hck
    subst hck
    obtain ⟨x, r, rfl, rfl⟩ := a_un_i hdo
    exact lv_i2c hx hb hdg rfl (kk ad ca H locs ls cells slots (q.stk (wk_c wfv_int (wk_t hwk))))
  case ifCond cd off =>
    cases cd
    case eq =>
      obtain ⟨x, r, t, rfl, rfl, rfl⟩ := a_if_i hdo
      simp only [am_chk, am_chB, Bool.and_eq_true, decide_eq_true_eq] at hck
      obtain ⟨h1, rfl⟩ := hck
      refine lv_if_eq hx hb hdg h1 (fun hq => ?_) (fun hq => ?_)
      · have := kk ad ca H locs ls cells slots (q.stk (wk_t hwk))
        simp only [hq, decide_true, if_true, not_true_eq_false, not_false_eq_true] at this
        exact this
      · have := kk ad ca H locs ls cells slots (q.stk (wk_t hwk))
        simp only [hq, decide_false, if_false, Bool.false_eq_true, not_true_eq_false, not_false_eq_true, decide_true, if_true] at this
        exact this
    case ne =>
      obtain ⟨x, r, t, rfl, rfl, rfl⟩ := a_if_i hdo
      simp only [am_chk, am_chB, Bool.and_eq_true, decide_eq_true_eq] at hck
      obtain ⟨h1, rfl⟩ := hck
      refine lv_if_ne hx hb hdg h1 (fun hq => ?_) (fun hq => ?_)
      · have := kk ad ca H locs ls cells slots (q.stk (wk_t hwk))
        simp only [hq, decide_true, if_true, not_true_eq_false, not_false_eq_true] at this
        exact this
      · have := kk ad ca H locs ls cells slots (q.stk (wk_t hwk))
        simp only [hq, decide_false, if_false, Bool.false_eq_true, not_true_eq_false, not_false_eq_true, decide_true, if_true] at this
        exact this
    case lt =>
      obtain ⟨x, r, t, rfl, rfl, rfl⟩ := a_if_i hdo
      simp only [am_chk, am_chB, Bool.and_eq_true, decide_eq_true_eq] at hck
      obtain ⟨h1, rfl⟩ := hck
      refine lv_if_lt hx hb hdg h1 (fun hq => ?_) (fun hq => ?_)
      · have := kk ad ca H locs ls cells slots (q.stk (wk_t hwk))
        simp only [hq, decide_true, if_true, not_true_eq_false, not_false_eq_true] at this
        exact this
      · have := kk ad ca H locs ls cells slots (q.stk (wk_t hwk))
        simp only [hq, decide_false, if_false, Bool.false_eq_true, not_true_eq_false, not_false_eq_true, decide_true, if_true] at this
        exact this
    case ge =>
      obtain ⟨x, r, t, rfl, rfl, rfl⟩ := a_if_i hdo
      simp only [am_chk, am_chB, Bool.and_eq_true, decide_eq_true_eq] at hck
      obtain ⟨h1, rfl⟩ := hck
      refine lv_if_ge hx hb hdg h1 (fun hq => ?_) (fun hq => ?_)
      · have := kk ad ca H locs ls cells slots (q.stk (wk_t hwk))
        simp only [hq, decide_true, if_true, not_true_eq_false, not_false_eq_true] at this
        exact this
      · have := kk ad ca H locs ls cells slots (q.stk (wk_t hwk))
        simp only [hq, decide_false, if_false, Bool.false_eq_true, not_true_eq_false, not_false_eq_true, decide_true, if_true] at this
        exact this
    case gt =>
      obtain ⟨x, r, t, rfl, rfl, rfl⟩ := a_if_i hdo
      simp only [am_chk, am_chB, Bool.and_eq_true, decide_eq_true_eq] at hck
      obtain ⟨h1, rfl⟩ := hck
      refine lv_if_gt hx hb hdg h1 (fun hq => ?_) (fun hq => ?_)
      · have := kk ad ca H locs ls cells slots (q.stk (wk_t hwk))
        simp only [hq, decide_true, if_true, not_true_eq_false, not_false_eq_true] at this
        exact this
      · have := kk ad ca H locs ls cells slots (q.stk (wk_t hwk))
        simp only [hq, decide_false, if_false, Bool.false_eq_true, not_true_eq_false, not_false_eq_true, decide_true, if_true] at this
        exact this
    case le =>
      obtain ⟨x, r, t, rfl, rfl, rfl⟩ := a_if_i hdo
      simp only [am_chk, am_chB, Bool.and_eq_true, decide_eq_true_eq] at hck
      obtain ⟨h1, rfl⟩ := hck
      refine lv_if_le hx hb hdg h1 (fun hq => ?_) (fun hq => ?_)
      · have := kk ad ca H locs ls cells slots (q.stk (wk_t hwk))
        simp only [hq, decide_true, if_true, not_true_eq_false, not_false_eq_true] at this
        exact this
      · have := kk ad ca H locs ls cells slots (q.stk (wk_t hwk))
        simp only [hq, decide_false, if_false, Bool.false_eq_true, not_true_eq_false, not_false_eq_true, decide_true, if_true] at this
        exact this
  case if_icmp cd off =>
    cases cd
    case eq =>
      obtain ⟨y, x, r, t, rfl, rfl, rfl⟩ := a_cmp_i hdo
      simp only [am_chk, am_chB, Bool.and_eq_true, decide_eq_true_eq] at hck
      obtain ⟨h1, rfl⟩ := hck
      refine lv_icmp_eq hx hb hdg h1 (fun hq => ?_) (fun hq => ?_)
      · have := kk ad ca H locs ls cells slots (q.stk (wk_t (wk_t hwk)))
        simp only [hq, decide_true, if_true, not_true_eq_false, not_false_eq_true] at this
        exact this
      · have := kk ad ca H locs ls cells slots (q.stk (wk_t (wk_t hwk)))
        simp only [hq, decide_false, if_false, Bool.false_eq_true, not_true_eq_false, not_false_eq_true, decide_true, if_true] at this
        exact this
    case ne =>
      obtain ⟨y, x, r, t, rfl, rfl, rfl⟩ := a_cmp_i hdo
      simp only [am_chk, am_chB, Bool.and_eq_true, decide_eq_true_eq] at hck
      obtain ⟨h1, rfl⟩ := hck
      refine lv_icmp_ne hx hb hdg h1 (fun hq => ?_) (fun hq => ?_)
      · have := kk ad ca H locs ls cells slots (q.stk (wk_t (wk_t hwk)))
        simp only [hq, decide_true, if_true, not_true_eq_false, not_false_eq_true] at this
        exact this
      · have := kk ad ca H locs ls cells slots (q.stk (wk_t (wk_t hwk)))
        simp only [hq, decide_false, if_false, Bool.false_eq_true, not_true_eq_false, not_false_eq_true, decide_true, if_true] at this
        exact this
    case lt =>
      obtain ⟨y, x, r, t, rfl, rfl, rfl⟩ := a_cmp_i hdo
      simp only [am_chk, am_chB, Bool.and_eq_true, decide_eq_true_eq] at hck
      obtain ⟨h1, rfl⟩ := hck
      refine lv_icmp_lt hx hb hdg h1 (fun hq => ?_) (fun hq => ?_)
      · have := kk ad ca H locs ls cells slots (q.stk (wk_t (wk_t hwk)))
        simp only [hq, decide_true, if_true, not_true_eq_false, not_false_eq_true] at this
        exact this
      · have := kk ad ca H locs ls cells slots (q.stk (wk_t (wk_t hwk)))
        simp only [hq, decide_false, if_false, Bool.false_eq_true, not_true_eq_false, not_false_eq_true, decide_true, if_true] at this
        exact this
    case ge =>
      obtain ⟨y, x, r, t, rfl, rfl, rfl⟩ := a_cmp_i hdo
      simp only [am_chk, am_chB, Bool.and_eq_true, decide_eq_true_eq] at hck
      obtain ⟨h1, rfl⟩ := hck
      refine lv_icmp_ge hx hb hdg h1 (fun hq => ?_) (fun hq => ?_)
      · have := kk ad ca H locs ls cells slots (q.stk (wk_t (wk_t hwk)))
        simp only [hq, decide_true, if_true, not_true_eq_false, not_false_eq_true] at this
        exact this
      · have := kk ad ca H locs ls cells slots (q.stk (wk_t (wk_t hwk)))
        simp only [hq, decide_false, if_false, Bool.false_eq_true, not_true_eq_false, not_false_eq_true, decide_true, if_true] at this
        exact this
    case gt =>
      obtain ⟨y, x, r, t, rfl, rfl, rfl⟩ := a_cmp_i hdo
      simp only [am_chk, am_chB, Bool.and_eq_true, decide_eq_true_eq] at hck
      obtain ⟨h1, rfl⟩ := hck
      refine lv_icmp_gt hx hb hdg h1 (fun hq => ?_) (fun hq => ?_)
      · have := kk ad ca H locs ls cells slots (q.stk (wk_t (wk_t hwk)))
        simp only [hq, decide_true, if_true, not_true_eq_false, not_false_eq_true] at this
        exact this
      · have := kk ad ca H locs ls cells slots (q.stk (wk_t (wk_t hwk)))
        simp only [hq, decide_false, if_false, Bool.false_eq_true, not_true_eq_false, not_false_eq_true, decide_true, if_true] at this
        exact this
    case le =>
      obtain ⟨y, x, r, t, rfl, rfl, rfl⟩ := a_cmp_i hdo
      simp only [am_chk, am_chB, Bool.and_eq_true, decide_eq_true_eq] at hck
      obtain ⟨h1, rfl⟩ := hck
      refine lv_icmp_le hx hb hdg h1 (fun hq => ?_) (fun hq => ?_)
      · have := kk ad ca H locs ls cells slots (q.stk (wk_t (wk_t hwk)))
        simp only [hq, decide_true, if_true, not_true_eq_false, not_false_eq_true] at this
        exact this
      · have := kk ad ca H locs ls cells slots (q.stk (wk_t (wk_t hwk)))
        simp only [hq, decide_false, if_false, Bool.false_eq_true, not_true_eq_false, not_false_eq_true, decide_true, if_true] at this
        exact this
  case ifnull off =>
    obtain ⟨x, r, t, rfl, rfl, rfl⟩ := a_nul_i hdo
    simp only [am_chk, am_chB, Bool.and_eq_true, decide_eq_true_eq] at hck
    obtain ⟨h1, rfl⟩ := hck
    cases x with
    | none => exact lv_ifnullN hx hb hdg h1 (kk ad ca H locs ls cells slots (q.stk (wk_t hwk)))
    | some x => exact lv_ifnull hx hb hdg (kk ad ca H locs ls cells slots (q.stk (wk_t hwk)))
  case ifnonnull off =>
    obtain ⟨x, r, t, rfl, rfl, rfl⟩ := a_nul_i hdo
    simp only [am_chk, am_chB, Bool.and_eq_true, decide_eq_true_eq] at hck
    obtain ⟨h1, rfl⟩ := hck
    cases x with
    | none => exact lv_ifnonnullN hx hb hdg (kk ad ca H locs ls cells slots (q.stk (wk_t hwk)))
    | some x => exact lv_ifnonnull hx hb hdg h1 (kk ad ca H locs ls cells slots (q.stk (wk_t hwk)))
  case goto off =>
    obtain ⟨t, rfl, rfl⟩ := a_goto_i hdo
    simp only [am_chk, am_chB, Bool.and_eq_true, decide_eq_true_eq] at hck
    obtain ⟨h1, rfl⟩ := hck
    exact lv_goto hx hb hdg h1 (kk ad ca H locs ls cells slots (q.stk hwk))
  case lookupswitch d ps =>
    obtain ⟨x, r, t, rfl, rfl, rfl⟩ := a_sw_i hdo
    simp only [am_chk, Bool.and_eq_true, decide_eq_true_eq] at hck
    obtain ⟨⟨h1, h2⟩, h3⟩ := hck
    exact lv_lookup hx hb hdg h3 rfl (by rw [h2]; exact a_tgt_lk pc x d t h1 sw) (kk ad ca H locs ls cells slots (q.stk (wk_t hwk)))
  case tableswitch d lw hw offs =>
    obtain ⟨x, r, t, rfl, rfl, rfl⟩ := a_sw_i hdo
    simp only [am_chk, Bool.and_eq_true, decide_eq_true_eq] at hck
    obtain ⟨⟨h1, h2⟩, h3⟩ := hck
    have hat : ∀ (j : Nat) (z : Int32 × Nat), sw[j]? = some z → ∃ of, offs[j]? = some of ∧ z.1.toInt = lw + (j : Int) ∧ (pc : Int) + of = (z.2 : Int) := by
      intro j z hj
      have hjl : j < sw.length := (List.getElem?_eq_some_iff.mp hj).1
      have h4 := List.all_eq_true.mp h3 j (List.mem_range.mpr hjl)
      rw [hj] at h4
      cases hof : offs[j]? with
      | none => rw [hof] at h4; cases h4
      | some of =>
        rw [hof] at h4
        simp only [Bool.and_eq_true, decide_eq_true_eq] at h4
        exact ⟨of, rfl, h4.1, h4.2⟩
    have hgo := kk ad ca H locs ls cells slots (q.stk (wk_t hwk))
    by_cases hin : x.toInt < lw ∨ hw < x.toInt
    · have ho : a_tgt x sw t = t := a_tgt_out x t sw (fun j z hj hxz => by
        obtain ⟨of, -, hv, -⟩ := hat j z hj
        have hjl : j < sw.length := (List.getElem?_eq_some_iff.mp hj).1
        rw [hxz, hv] at hin
        omega)
      rw [ho] at hgo
      exact lv_tableOut hx hb hdg hin h1 hgo
    · have hj : (x.toInt - lw).toNat < sw.length := by omega
      obtain ⟨z, hz⟩ : ∃ z, sw[(x.toInt - lw).toNat]? = some z := ⟨_, List.getElem?_eq_getElem hj⟩
      obtain ⟨of, hof, hv, ht⟩ := hat _ z hz
      have hxz : x = z.1 := Int32.toInt_inj.mp (by rw [hv]; omega)
      have ho : a_tgt x sw t = z.2 := a_tgt_in x t z.2 z.1 _ sw (fun i j a b ha hb hab => by
        obtain ⟨_, -, va, -⟩ := hat i a ha
        obtain ⟨_, -, vb, -⟩ := hat j b hb
        rw [hab, vb] at va
        omega) hz hxz
      rw [ho] at hgo
      exact lv_tableIn hx hb hdg (by omega) (by omega) hof ht hgo
  case aconst_null =>
    simp only [am_chk, Bool.and_eq_true, decide_eq_true_eq] at hck
    subst hck
    cases hdo
    exact lv_null hx hb hdg (kk ad ca H locs ls cells slots (q.stk (wk_c wfv_nul hwk)))
  case pop =>
    simp only [am_chk, Bool.and_eq_true, decide_eq_true_eq] at hck
    subst hck
    rcases sk with _ | ⟨v, r⟩
    · simp [am_do, a_stk] at hdo
    · cases hdo
      exact lv_pop hx hb hdg (tv_cat ad v) (kk ad ca H locs ls cells slots (q.stk (wk_t hwk)))
  case dup =>
    simp only [am_chk, Bool.and_eq_true, decide_eq_true_eq] at hck
    subst hck
    rcases sk with _ | ⟨v, r⟩
    · simp [am_do, a_stk] at hdo
    · cases hdo
      exact lv_dup hx hb hdg (tv_cat ad v) (kk ad ca H locs ls cells slots (q.stk (wk_c (wk_h hwk) hwk)))
  case dup2 =>
    simp only [am_chk, Bool.and_eq_true, decide_eq_true_eq] at hck
    subst hck
    rcases sk with _ | ⟨v, _ | ⟨w, r⟩⟩
    · simp [am_do, a_stk] at hdo
    · simp [am_do, a_stk] at hdo
    · cases hdo
      exact lv_dup2_11 hx hb hdg (tv_cat ad v) (tv_cat ad w) (kk ad ca H locs ls cells slots (q.stk (wk_c (wk_h hwk) (wk_c (wk_h (wk_t hwk)) hwk))))
  case getfield idx =>
    obtain ⟨o, r, ci, k, t, rfl, rfl, hk, rfl⟩ := a_get_i hdo
    rcases sw with _ | ⟨⟨z, pw⟩, sw⟩
    · simp [am_chk, am_chF] at hck
    simp only [am_chk, am_chF, Bool.and_eq_true, decide_eq_true_eq] at hck
    obtain ⟨⟨⟨⟨⟨hci, hkf⟩, hft⟩, hlk⟩, -⟩, rfl⟩ := hck
    have ho := wfv_lt (wk_h hwk)
    refine sw_get hx hb hts hown hRL hk hci ho hkf (am_wd_in hlk) hdg ?_
    have hgo := kk ad ca H locs ls cells slots (q.stk (sk2 := (if t = 2 then .inr (hR h o k) else .inl (hI h o k)) :: r) (wk_c (by split <;> first | exact wk_R hRL.2.2.2.2 o k | exact wfv_int) (wk_t hwk)))
    have e : fvl ad h o k (am_ft ci k) = tv ad (if t = 2 then .inr (hR h o k) else .inl (hI h o k)) := by
      rw [hft]
      unfold fvl
      split <;> rfl
    rw [e]
    exact hgo
  case putfield idx =>
    obtain ⟨o, r, ci, k, t, rfl, hk, hcase⟩ := a_put_i hdo
    rcases sw with _ | ⟨⟨z, pw⟩, sw⟩
    · simp [am_chk, am_chF] at hck
    simp only [am_chk, am_chF, Bool.and_eq_true, decide_eq_true_eq, Bool.or_eq_true, Bool.not_eq_true', Bool.not_true, Bool.false_eq_true, false_or] at hck
    obtain ⟨⟨⟨⟨⟨hci, hkf⟩, hft⟩, hlk⟩, hfn⟩, rfl⟩ := hck
    have hfin : (am_F ci k).2.2.2 = true → meth.name = "<init>" ∧ am_R ci = am_own mi := fun hf => by
      rcases hfn with h9 | h9
      · rw [hf] at h9; cases h9
      · exact ⟨hname h9.1, h9.2⟩
    rcases hcase with ⟨rfl, v, rfl, rfl⟩ | ⟨ht, v, rfl, hz, rfl⟩
    · have ho := wfv_lt (wk_h (wk_t hwk))
      have hv : ∀ r, v = some r → r < hN h := fun r hr => wk_h hwk r (by rw [hr])
      obtain ⟨hn1, hn2⟩ := am_t_ref ci hci k hkf hft (v.map ad)
      exact sw_putR hx hb hts hown hRL hS hk hci ho hkf (am_wd_in hlk) hfin hft hv hn1 hn2 hdg (fun H1 locs1 hR1 hS1 => kk ad ca H1 locs1 ls cells slots (q.wr hR1 hS1 rfl rfl (wk_t (wk_t hwk))))
    · have ho := wfv_lt (wk_h (wk_t hwk))
      obtain ⟨hn1, hn2⟩ := am_t_int ci hci k hkf (by rw [hft]; exact ht) v (by rw [hft]; exact hz)
      exact sw_putI hx hb hts hown hRL hS hk hci ho hkf (am_wd_in hlk) hfin (by omega) hn1 hn2 hdg (fun H1 locs1 hR1 hS1 => kk ad ca H1 locs1 ls cells slots (q.wr hR1 hS1 rfl rfl (wk_t (wk_t hwk))))
  case iaload =>
    simp only [am_chk, Bool.and_eq_true, Bool.or_eq_true, decide_eq_true_eq] at hck
    obtain ⟨h1, rfl⟩ := hck
    rcases h1 with rfl | ⟨rfl, hlaw⟩
    · obtain ⟨i, o, r, rfl, hk, hi, rfl⟩ := a_ixl_i hdo
      exact sw_ild hx hb hRL hk (wfv_lt (wk_h (wk_t hwk))) hi hdg (kk ad ca H locs ls cells slots (q.stk (wk_c wfv_int (wk_t (wk_t hwk)))))
    · obtain ⟨i, r, rfl, hi, rfl⟩ := a_scl_i hdo
      obtain ⟨hX, hbl, hbA, hb0, hn0⟩ := hsc hlaw
      have e0 : ad 0 = b := by rw [q.2.2.2.2.2.2.1 0 hn0]; exact hb0
      have hgo := kk ad ca H locs ls cells slots (q.stk (wk_c wfv_int (wk_t (wk_t hwk))))
      have e1 : tv ad (.inr (some 0)) = .ref b := by simp only [tv, Option.map_some, e0, va_rf]
      simp only [List.map_cons, e1]
      exact va_sld hx hb hX hbl hbA hS hi hdg hgo
  case arraylength =>
    simp only [am_chk, Bool.and_eq_true, Bool.or_eq_true, decide_eq_true_eq] at hck
    obtain ⟨h1, rfl⟩ := hck
    rcases h1 with rfl | ⟨rfl, hlaw⟩
    · obtain ⟨o, r, rfl, hk, rfl⟩ := a_len_i hdo
      obtain ⟨ty, hty⟩ := am_aty_all hk
      exact sw_len hx hb hRL ⟨hk.1, by omega⟩ hty (wfv_lt (wk_h hwk)) hdg (kk ad ca H locs ls cells slots (q.stk (wk_c wfv_int (wk_t hwk))))
    · obtain ⟨r, rfl, rfl⟩ := a_scn_i hdo
      obtain ⟨hX, hbl, hbA, hb0, hn0⟩ := hsc hlaw
      have e0 : ad 0 = b := by rw [q.2.2.2.2.2.2.1 0 hn0]; exact hb0
      have hgo := kk ad ca H locs ls cells slots (q.stk (wk_c wfv_int (wk_t hwk)))
      have e1 : tv ad (.inr (some 0)) = .ref b := by simp only [tv, Option.map_some, e0, va_rf]
      simp only [List.map_cons, e1]
      exact va_slen hx hb hX hbl hbA hS hdg hgo
  case caload =>
    simp only [am_chk, Bool.and_eq_true, decide_eq_true_eq] at hck
    subst hck
    obtain ⟨i, o, r, rfl, hk, hi, rfl⟩ := a_ixl_i hdo
    exact sw_cld hx hb hRL hk (wfv_lt (wk_h (wk_t hwk))) hi hdg (kk ad ca H locs ls cells slots (q.stk (wk_c wfv_int (wk_t (wk_t hwk)))))
  case baload =>
    simp only [am_chk, Bool.and_eq_true, decide_eq_true_eq] at hck
    subst hck
    obtain ⟨i, o, r, rfl, hk, hi, rfl⟩ := a_ixl_i hdo
    exact sw_bld hx hb hRL hk (wfv_lt (wk_h (wk_t hwk))) hi hdg (kk ad ca H locs ls cells slots (q.stk (wk_c wfv_int (wk_t (wk_t hwk)))))
  case aaload =>
    simp only [am_chk, Bool.and_eq_true, decide_eq_true_eq] at hck
    subst hck
    obtain ⟨i, o, r, rfl, hk, hi, rfl⟩ := a_axl_i hdo
    exact sw_ald hx hb hRL hk (wfv_lt (wk_h (wk_t hwk))) hi hdg (kk ad ca H locs ls cells slots (q.stk (wk_c (wk_R hRL.2.2.2.2 _ _) (wk_t (wk_t hwk)))))
  case iastore =>
    simp only [am_chk, Bool.and_eq_true, decide_eq_true_eq] at hck
    subst hck
    obtain ⟨v, i, o, r, rfl, hk, hi, rfl⟩ := a_ixs_i hdo
    exact sw_ist hx hb hRL hS hk (wfv_lt (wk_h (wk_t (wk_t hwk)))) hi hdg (fun H1 locs1 hR1 hS1 => kk ad ca H1 locs1 ls cells slots (q.wr hR1 hS1 rfl rfl (wk_t (wk_t (wk_t hwk)))))
  case castore =>
    simp only [am_chk, Bool.and_eq_true, decide_eq_true_eq] at hck
    subst hck
    obtain ⟨v, i, o, r, rfl, hk, hi, rfl⟩ := a_ixs_i hdo
    exact sw_cst hx hb hRL hS hk (wfv_lt (wk_h (wk_t (wk_t hwk)))) hi hdg (fun H1 locs1 hR1 hS1 => kk ad ca H1 locs1 ls cells slots (q.wr hR1 hS1 rfl rfl (wk_t (wk_t (wk_t hwk)))))
  case bastore =>
    simp only [am_chk, Bool.and_eq_true, decide_eq_true_eq] at hck
    subst hck
    obtain ⟨v, i, o, r, rfl, hk, hi, rfl⟩ := a_ixs_i hdo
    exact sw_bst hx hb hRL hS hk (wfv_lt (wk_h (wk_t (wk_t hwk)))) hi hdg (fun H1 locs1 hR1 hS1 => kk ad ca H1 locs1 ls cells slots (q.wr hR1 hS1 rfl rfl (wk_t (wk_t (wk_t hwk)))))
  case aastore =>
    obtain ⟨i, o, r, kd, ke, rfl, hk, hi, hcase⟩ := a_axs_i hdo
    simp only [am_chk, Bool.and_eq_true, decide_eq_true_eq] at hck
    obtain ⟨⟨⟨hty, hk2⟩, hke⟩, rfl⟩ := hck
    rcases hcase with ⟨rfl, rfl⟩ | ⟨v, rfl, hv, rfl⟩
    · exact sw_astN hx hb hRL hS hk hty hk2 (wfv_lt (wk_h (wk_t (wk_t hwk)))) hi hdg (fun H1 locs1 hR1 hS1 => kk ad ca H1 locs1 ls cells slots (q.wr hR1 hS1 rfl rfl (wk_t (wk_t (wk_t hwk)))))
    · exact sw_ast hx hb hRL hS hk hv (wfv_lt (wk_h hwk)) hty hk2 hke (wfv_lt (wk_h (wk_t (wk_t hwk)))) hi hdg (fun H1 locs1 hR1 hS1 => kk ad ca H1 locs1 ls cells slots (q.wr hR1 hS1 rfl rfl (wk_t (wk_t (wk_t hwk)))))
  case new idx =>
    obtain ⟨ci, n, rfl, rfl⟩ := a_new_i hdo
    rcases sw with _ | ⟨⟨z1, p1⟩, _ | ⟨⟨z2, p2⟩, _ | ⟨⟨z3, p3⟩, _ | ⟨z4, sw⟩⟩⟩⟩
    · simp [am_chk] at hck
    · simp [am_chk] at hck
    · simp [am_chk] at hck
    · simp only [am_chk, Bool.and_eq_true, decide_eq_true_eq] at hck
      obtain ⟨⟨⟨⟨⟨hci, rfl⟩, hl1⟩, hl2⟩, hl3⟩, rfl⟩ := hck
      obtain ⟨-, -, -, -, -, -, -, q8, q9, q10, q11⟩ := id q
      rw [hN_nw] at hcells
      rw [hU_nw] at hslots
      refine sw_new hx hb hts hown hRL hS hA hci (am_wd_in hl1) (am_wd_in hl2) (am_wd_in hl3) (by omega) (by omega) hdg (fun q1 H1 hR1 hS1 => ?_)
      have hgo := kk (va_up ad (hN h) q1) ca H1 locs ls (cells + 1) (slots + am_fn ci) (q.mk (sk2 := .inr (some (hN h)) :: sk) hR1 hS1 (fun v hv => by
        rcases List.mem_cons.mp hv with rfl | hv
        · exact Or.inr rfl
        · exact Or.inl (hwk v hv)))
      have e1 : tv (va_up ad (hN h) q1) (.inr (some (hN h))) = .ref q1 := by simp only [tv, Option.map_some, va_up_self, va_rf]
      simp only [List.map_cons, e1, sk_up hwk] at hgo
      exact hgo
    · simp [am_chk] at hck
  case newarray at_ =>
    obtain ⟨n, r, kd, rfl, rfl, hn, hm, rfl⟩ := a_arr_i hdo
    rcases sw with _ | ⟨⟨z1, p1⟩, sw⟩
    · simp [am_chk] at hck
    simp only [am_chk, Bool.and_eq_true, decide_eq_true_eq] at hck
    obtain ⟨⟨⟨⟨⟨hat, hkd⟩, hl1⟩, hdv⟩, hcb⟩, rfl⟩ := hck
    obtain ⟨-, -, -, -, -, -, -, q8, q9, q10, q11⟩ := id q
    rw [hN_nw] at hcells
    rw [hU_nw] at hslots
    refine sw_arr hx hb hts hRL hS hA hkd rfl hat (am_wd_in hl1) hdv hcb hn rfl hm (by omega) (by omega) hdg (fun q1 cA H1 hR1 hS1 => ?_)
    have hgo := kk (va_up ad (hN h) q1) (va_up ca (hN h) cA) H1 locs ls (cells + 1) (slots + n.toNatClampNeg) (q.mk (sk2 := .inr (some (hN h)) :: r) hR1 hS1 (fun v hv => by
      rcases List.mem_cons.mp hv with rfl | hv
      · exact Or.inr rfl
      · exact Or.inl (wk_t hwk v hv)))
    have e1 : tv (va_up ad (hN h) q1) (.inr (some (hN h))) = .ref q1 := by simp only [tv, Option.map_some, va_up_self, va_rf]
    simp only [List.map_cons, e1, sk_up (wk_t hwk)] at hgo
    exact hgo
  case anewarray idx =>
    obtain ⟨n, r, kd, rfl, rfl, hn, hm, rfl⟩ := a_arr_i hdo
    rcases sw with _ | ⟨⟨z1, p1⟩, _ | ⟨⟨z2, p2⟩, _ | ⟨z4, sw⟩⟩⟩
    · simp [am_chk] at hck
    · simp [am_chk] at hck
    · obtain ⟨C, hC, hkd, hl1, hl2, rfl⟩ := am_chA hck
      obtain ⟨-, -, -, -, -, -, -, q8, q9, q10, q11⟩ := id q
      rw [hN_nw] at hcells
      rw [hU_nw] at hslots
      refine sw_anew hx hb hts hown hRL hS hA hkd hC (am_wd_in hl1) (hao C (am_wx_in hl2)) hn rfl hm (by omega) (by omega) hdg (fun q1 cA H1 hR1 hS1 => ?_)
      have hgo := kk (va_up ad (hN h) q1) (va_up ca (hN h) cA) H1 locs ls (cells + 1) (slots + n.toNatClampNeg) (q.mk (sk2 := .inr (some (hN h)) :: r) hR1 hS1 (fun v hv => by
        rcases List.mem_cons.mp hv with rfl | hv
        · exact Or.inr rfl
        · exact Or.inl (wk_t hwk v hv)))
      have e1 : tv (va_up ad (hN h) q1) (.inr (some (hN h))) = .ref q1 := by simp only [tv, Option.map_some, va_up_self, va_rf]
      simp only [List.map_cons, e1, sk_up (wk_t hwk)] at hgo
      exact hgo
    · simp [am_chk] at hck
  case invokespecial idx =>
    rcases ns with _ | ⟨n1, ns⟩
    · obtain ⟨o, r, rfl, hr8, rfl⟩ := a_obj_i hdo
      rcases sw with _ | ⟨⟨z1, p1⟩, _ | ⟨⟨z2, p2⟩, _ | ⟨z4, sw⟩⟩⟩
      · simp [am_chk] at hck
      · simp [am_chk] at hck
      · simp only [am_chk, Bool.and_eq_true, decide_eq_true_eq] at hck
        obtain ⟨⟨hl1, hl2⟩, rfl⟩ := hck
        have hcat : (((r.map (tv ad)).map fun v => v.category).sum) = r.length := cat_sum ad r
        exact W.objInit hx hb hown (hts _ (am_wd_in hl1)) (hts _ (am_wd_in hl2)) (hts _ am_objw) rfl (by rw [hml]; exact hLL.1) rfl hdg hfr (by
          show 2 * 0 + _ + 12 ≤ _; rw [hcat]; have := am_K_ge; omega) (kk ad ca H locs ls cells slots (q.stk (wk_t hwk)))
      · simp [am_chk] at hck
    · exact absurd hdo a_callv_n
  case invokestatic idx =>
    rcases ns with _ | ⟨n1, ns⟩
    · obtain ⟨n, dp, d9, sp, o, r, rfl, hk, h1, h2, hr8, rfl⟩ := a_cpy_i hdo
      rcases sw with _ | ⟨⟨z1, p1⟩, _ | ⟨⟨z2, p2⟩, _ | ⟨⟨z3, p3⟩, _ | ⟨⟨z5, p4⟩, _ | ⟨z4, sw⟩⟩⟩⟩⟩
      · simp [am_chk] at hck
      · simp [am_chk] at hck
      · simp [am_chk] at hck
      · simp [am_chk] at hck
      · simp only [am_chk, Bool.and_eq_true, decide_eq_true_eq] at hck
        obtain ⟨⟨⟨⟨hl1, hl2⟩, hl3⟩, hl4⟩, rfl⟩ := hck
        have hoN := wfv_lt (wk_h (wk_t (wk_t (wk_t (wk_t hwk)))))
        have hdN := wfv_lt (wk_h (wk_t (wk_t hwk)))
        have h3o : 3 ≤ o := hRL.ge (by rw [hk.1]; decide)
        have h3d : 3 ≤ d9 := hRL.ge (by rw [hk.2.1]; decide)
        have hwo := wld_at (ad := ad) (ca := ca) h3o hoN
        have hwd := wld_at (ad := ad) (ca := ca) h3d hdN
        rw [cel_ints (by rw [hk.1]; decide) (by rw [hk.1]; decide)] at hwo
        rw [cel_ints (by rw [hk.2.1]; decide) (by rw [hk.2.1]; decide)] at hwd
        have hcat : (((r.map (tv ad)).map fun v => v.category).sum) = r.length := cat_sum ad r
        exact va_copyi hx hb (by rw [hml]; exact hLL.1.symm) hown (hts _ (am_wd_in hl1)) (hts _ (am_wd_in hl2)) (hts _ (am_wd_in hl3)) (hts _ (am_wd_in hl4)) (hRL.K2 h3o hoN (ty := .int) (by rw [hk.1]; rfl) h3d hdN (ty2 := .int) (by rw [hk.2.1]; rfl)) hRL.1 hRL.2.1 hS (o - 3) (d9 - 3) 0 1 hwo hwd rfl rfl rfl h1.1 h1.2.1 h1.2.2 h2.1 h2.2 (fun _ _ => rfl) hfr (by rw [hcat]; have := am_K_cp; omega) hdg
          (fun H1 locs1 hP hD hS1 => kk ad ca H1 locs1 ls cells slots (q.wr (hRL.ints h3d (by rw [hk.2.1]; decide) (by rw [hk.2.1]; decide) hP hD) hS1 rfl rfl (wk_t (wk_t (wk_t (wk_t (wk_t hwk)))))))
      · simp [am_chk] at hck
    · exact absurd hdo a_call_n
  case invokevirtual idx =>
    rcases ns with _ | ⟨n1, _ | ⟨n2, ns⟩⟩
    · simp only [am_chk, am_chX, Bool.and_eq_true, decide_eq_true_eq] at hck
      obtain ⟨⟨⟨ho, hi⟩, -⟩, rfl⟩ := hck
      subst hi
      have hdo2 : a_idx (pc + 3) lo sk h = some (.inl st') := hdo
      obtain ⟨x, k, r, rfl, hk, hr8, rfl⟩ := a_idx_i hdo2
      obtain ⟨-, -, -, -, -, -, q7, q8, q9, q10, q11⟩ := id q
      have hcells : hN h - n0 ≤ R.cells := hcells
      have hslots : hU h - u0 ≤ R.slots := hslots
      rw [ho] at hown
      have hcat : (((r.map (tv ad)).map fun v => v.category).sum) = r.length := cat_sum ad r
      exact st_idx (ad := ad) hx hb (by rw [hml]; exact hLL.1.symm) hown hts (hts _ (st_all st_in5 _ List.mem_cons_self)) (hst.ad (fun o ho => q7 o (by omega))) hS hk hf5 (by have := am_K_ge; unfold am_K at *; omega) (by rw [q10]; exact hcells) (by rw [q11]; exact hslots) (by rw [hcat]; exact hr8) hdg (kk ad ca H locs ls cells slots (q.stk (wk_c wfv_int (wk_t (wk_t hwk)))))
    · obtain ⟨o, r, rfl, hk, hr8, rfl⟩ := a_cln_i hdo
      rcases sw with _ | ⟨⟨z1, p1⟩, _ | ⟨⟨z2, p2⟩, _ | ⟨⟨z3, p3⟩, _ | ⟨⟨z4, p4⟩, _ | ⟨⟨z5, p5⟩, _ | ⟨⟨z6, p6⟩, _ | ⟨z7, sw⟩⟩⟩⟩⟩⟩⟩
      · simp [am_chk, am_chX] at hck
      · simp [am_chk, am_chX] at hck
      · simp [am_chk, am_chX] at hck
      · simp [am_chk, am_chX] at hck
      · simp [am_chk, am_chX] at hck
      · simp [am_chk, am_chX] at hck
      · simp only [am_chk, Bool.and_eq_true, decide_eq_true_eq] at hck
        obtain ⟨⟨⟨⟨⟨⟨hl1, hl2⟩, hl3⟩, hl4⟩, hl5⟩, hl6⟩, rfl⟩ := hck
        have hoN := wfv_lt (wk_h hwk)
        have h3o : 3 ≤ o := hRL.ge (by rw [hk]; decide)
        have hwo := wld_at (ad := ad) (ca := ca) h3o hoN
        rw [cel_ints (by rw [hk]; decide) (by rw [hk]; decide)] at hwo
        have hK1 := hRL.K1 h3o hoN (ty := .int) (by rw [hk]; rfl)
        have hcat : (((r.map (tv ad)).map fun v => v.category).sum) = r.length := cat_sum ad r
        obtain ⟨-, -, -, -, -, -, -, q8, q9, q10, q11⟩ := id q
        have hcells : hN h + 1 - n0 ≤ R.cells := hcells
        have hslots : hU h + hL h o - u0 ≤ R.slots := hslots
        refine va_clone hx hb (by rw [hml]; exact hLL.1.symm) hown (hts _ (am_wd_in hl1)) (hts _ (am_wd_in hl2)) (hts _ (am_wd_in hl3)) (hts _ (am_wd_in hl4)) (hts _ (am_wd_in hl5)) hcb0 hK1 hRL.1 hRL.2.1 hS hA (o - 3) 0 hwo rfl (va_nm_int (hK1.2 0 _ rfl).2) (fun i v hv => va_fit (F := fun j => .int (hI h o j)) (fun _ _ => rfl) i v hv) hfr (by rw [hcat]; have := am_K_ge; omega) (by omega) (by show slots + hL h o ≤ R.slots; omega) hdg (fun q1 H1 _ hP hD hS1 => ?_)
        have hR1 := hRL.cln (ad' := va_up ad (hN h) q1) (ca' := va_up ca (hN h) (ca o)) h3o hoN hk up_old (va_up_self _ _ _) up_old (va_up_self _ _ _) hP hD
        have hgo := kk (va_up ad (hN h) q1) (va_up ca (hN h) (ca o)) H1 locs ls (cells + 1) (slots + hL h o) (q.mkc (sk2 := .inr (some (hN h)) :: r) hR1 hS1 (fun v hv => by
          rcases List.mem_cons.mp hv with rfl | hv
          · exact Or.inr rfl
          · exact Or.inl (wk_t hwk v hv)))
        have e1 : tv (va_up ad (hN h) q1) (.inr (some (hN h))) = .ref q1 := by simp only [tv, Option.map_some, va_up_self, va_rf]
        simp only [List.map_cons, e1, sk_up (wk_t hwk)] at hgo
        exact hgo
      · simp [am_chk, am_chX] at hck
    · exact absurd hdo a_callv_n
  case checkcast idx =>
    obtain ⟨o, r, rfl, hk, rfl⟩ := a_cch_i hdo
    rcases sw with _ | ⟨⟨z1, p1⟩, sw⟩
    · simp [am_chk] at hck
    simp only [am_chk, Bool.and_eq_true, decide_eq_true_eq] at hck
    obtain ⟨hl1, rfl⟩ := hck
    have hoN := wfv_lt (wk_h hwk)
    have h3o : 3 ≤ o := hRL.ge (by rw [hk]; decide)
    have hwo := wld_at (ad := ad) (ca := ca) h3o hoN
    rw [cel_ints (by rw [hk]; decide) (by rw [hk]; decide)] at hwo
    have hK1 := hRL.K1 h3o hoN (ty := .int) (by rw [hk]; rfl)
    exact va_castA hx hb hown (hts _ (am_wd_in hl1)) hRL.1 (o - 3) hwo (va_nm_int (hK1.2 0 _ rfl).2) hdg (kk ad ca H locs ls cells slots (q.stk hwk))
  case ireturn =>
    exact absurd hdo a_iret_n
  case areturn =>
    exact absurd hdo a_aret_n
  case return_ =>
    exact absurd hdo a_vret_n
  all_goals exact absurd hdo (fun hd => by cases hd)
end ONE

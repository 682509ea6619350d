/-! THE CLAIM OUT OF ONE WALK OF THE LAW'S BODY. Your part is whole_start (and what it stands on); all else here is the same for every law, but numbers. -/
def R_law : String := "StopDeskLaw"
def lw_P (b : Addr) (xs : List Int32) (args : Array Value) (s : State) : Prop := args = #[.ref b] ∧ s.IntsAt b xs ∧ xs.length ≤ 2048 ∧ (Jvm.Cond.and given_1 narrow_1).before args s = true
def lw_Q (_ : Array Value) (s : State) (o : Outcome) (t : State) : Prop := o = .returned (some (.int 1)) ∧ Framed s o t [] 600000 7302250
def lw_Z (below : List Frame) (a : Array Value) (s : State) : State → Prop := fun t => ∃ o, t.status = .running ∧ Ended t below o ∧ lw_Q a s o t
/-- the law's own end, with 1 on the stack, nothing written that was there before, its room as the claim has it -/
theorem lw_ret {p : Program} {l : Launch} {e : Env} {s : State} {m : MethodId} {below : List Frame} {meth : Method} {c : Code} {b : Nat} (hx : p.tables.exec = Jvm.exec) (hb : c.code = code) (hr : meth.sig.returnType = ret) (hlocks : meth.locks = false) {pc : Nat} {H : Heap} {ls : Array Slot} (hdg : decode code pc = .ok (.ireturn, 1)) : W p l e room_1 s m #[Value.ref b] below meth c H [] 600000 7302250 (lw_Z below #[Value.ref b] s) (F0 m pc ls [.int 1]) := by
  intro T hT X
  obtain ⟨fs, hret, hrun, hended, hW, hframe⟩ := X.leave (v := some (.int 1)) (hlocks := hlocks) (fun h => by rw [hr] at h; cases h)
  have hmeth' : T.vm.method? m = some meth := X.method'
  refine ⟨T.setFrames fs, ?_, .returned (some (.int 1)), hrun, hended, rfl, ⟨_, rfl⟩, hW, hframe⟩
  jvm_step X.here [X.here.top, hx, hb, hdg, hmeth', hr, ret, narrow_b1]
  (try refine ⟨rfl, ?_⟩); (try refine ⟨rfl, ?_⟩)
  first | (intro acts; rw [hret _ acts rfl rfl rfl]) | rw [hret _ _ rfl rfl rfl]
  exact Steps.refl _
/-- what holds at the law's entry: the machine, the code, the tables' words (any of lw_tbl by 'hts w (by decide +kernel)'), the script of L ints xs at the cell b, what the Statement gives of the start (any of its parts by flat_of_before) -/
def lw_At (p : Program) (s : State) (m : MethodId) (meth : Method) (c : Code) (b L : Nat) (xs : Nat → Int32) : Prop :=
  p.tables.exec = Jvm.exec ∧ c.code = code ∧ meth.sig.returnType = ret ∧ c.maxLocals = 4 ∧ s.vm.findClass R_law = some m.cls ∧ (∀ w ∈ lw_tbl, w.before #[Value.ref b] s = true) ∧ va_X b L xs s s.heap ∧ b < s.heap.size ∧ meth.locks = false ∧ (Jvm.Cond.and given_1 narrow_1).before #[Value.ref b] s = true
-- ===== YOUR PART BEGINS =====
theorem lw_len {args : Array Value} {s : State} {t : Term} {v : Value} {b : Addr} {cell : Cell} (hv : (Term.length t).eval args s none [] s = some v) (ht : t.eval args s none [] s = some (.ref b)) (harr : s.arrayAt? b = some cell) : cell.slots.size < 2 ^ 31 := by
  simp only [Term.eval, ht, harr, Option.bind_eq_bind, Option.bind_some] at hv
  by_cases hlt : cell.slots.size < 2147483648
  · exact hlt
  · simp [hlt] at hv
theorem lw_str {args : Array Value} {s : State} {idx : Nat} {l : List Int32} (hn : l.length < 2 ^ 31) (hex : (Cond.exactly (.string "StopDesk$Translator" idx) "java/lang/String").before args s = true) (hco : (Cond.eq (.field (.string "StopDesk$Translator" idx) "java/lang/String" "coder" "B") (.int 0)).before args s = true) (har : (Cond.arrayOf (.field (.string "StopDesk$Translator" idx) "java/lang/String" "value" "[B") .byte).before args s = true) (hle : (Cond.eq (.length (.field (.string "StopDesk$Translator" idx) "java/lang/String" "value" "[B")) (.int (Int32.ofNat l.length))).before args s = true) (hel : ∀ j, j < l.length → (Cond.eq (.elem (.field (.string "StopDesk$Translator" idx) "java/lang/String" "value" "[B") (.int (Int32.ofNat j))) (.int (l.getD j 0))).before args s = true) : ∃ (a d : Nat) (arr : Cell), (Term.string "StopDesk$Translator" idx).eval args s none [] s = some (.ref a) ∧ js_At a d arr s ∧ a < s.heap.size ∧ d < s.heap.size ∧ st_arr arr l := by
  obtain ⟨a, c, cA, kA, q1, q2, q3, q4, q5, q6, q7⟩ := Cond.exactly_spec (args := args) (first := s) (o := none) (s := s) (idx := []) (t := .string "StopDesk$Translator" idx) (cls := "java/lang/String") hex
  obtain ⟨d, hd, scr, s1, s2, s3, s40, s41, s5, s6⟩ := va_Tof (f := fun j => .int (l.getD j 0)) (A := fun q => s.heap.size ≤ q) hn har (va_eqt hle) (fun j hj => va_eqt (hel j hj)) (fun a ha => by omega)
  have hcod := va_eqt hco
  have hv := va_eqt hle
  obtain ⟨b', cell', ht', harr', -⟩ := Term.length_spec hv
  have hsz : cell'.slots.size < 2 ^ 31 := lw_len hv ht' harr'
  cases hd.symm.trans ht'
  obtain ⟨hcell, -, -, -⟩ := State.arrayAt?_spec harr'
  cases s1.symm.trans hcell
  have s4 : scr.slots.size = l.length := (nI_eq hsz hn).mp s41
  rw [va_fe q1] at hcod hd
  refine ⟨a, d, scr, q1, ⟨?_, hcod, hd, s1, s2⟩, st_lt q3, st_lt s1, s3, s4, s5⟩
  have h0 := hex
  simp only [Cond.before, Cond.holds, Cond.value] at h0 ⊢
  rw [q1] at h0
  rw [show (Term.arg 0).eval #[.ref a] s none [] s = some (.ref a) from rfl]
  exact h0
set_option maxRecDepth 100000 in
theorem lw_inst : (List.range am_nc).all (fun c => decide (Cond.instantiable (am_R c) (am_fn c) ∈ lw_tbl)) = true := by decide +kernel
theorem lw_K {args : Array Value} {s : State} (hts : ∀ w ∈ lw_tbl, w.before args s = true) : ∃ D : va_G, va_K D am_cls [] s := by
  have hW : ∀ w ∈ am_W, w.before args s = true := fun w hw => hts w (List.mem_filter.mp hw).1
  have hK : ∀ c, ∃ q : ClassId × (Nat → Nat), c < am_nc → u_Kn s (am_R c) (am_F c) (am_fn c) q.1 q.2 := fun c => by
    by_cases h : c < am_nc
    · have hi := of_decide_eq_true (List.all_eq_true.mp lw_inst c (List.mem_range.mpr h))
      obtain ⟨cC, iS, hk⟩ := u_known hW (am_fws c h) (hts _ hi)
      exact ⟨(cC, iS), fun _ => hk⟩
    · exact ⟨(0, fun _ => 0), fun z => absurd z h⟩
  refine ⟨(fun c => (Classical.choose (hK c)).1, fun c => (Classical.choose (hK c)).2), fun c q hq => ?_, fun k q hq => by cases hq⟩
  have hc : c < am_nc := by
    have := (List.getElem?_eq_some_iff.mp hq).1
    unfold am_cls at this
    simpa using this
  rw [am_cls_at c hc] at hq
  cases hq
  exact Classical.choose_spec (hK c) hc
def lw_h0 : Hp := ((3, 0), fun _ => 30, fun _ => 0, fun _ _ => 0, fun _ _ => none)
def lw_ad (b a1 a2 : Nat) : Nat → Nat := fun o => if o = 0 then b else if o = 1 then a1 else a2
theorem lw_five {j : Nat} (h : j < 5) : j = 0 ∨ j = 1 ∨ j = 2 ∨ j = 3 ∨ j = 4 := by omega
theorem lw_six {j : Nat} (h : j < 6) : j = 0 ∨ j = 1 ∨ j = 2 ∨ j = 3 ∨ j = 4 ∨ j = 5 := by omega
theorem lw_ST {args : Array Value} {s : State} {b : Nat} (hts : ∀ w ∈ lw_tbl, w.before args s = true) (hgv : (Jvm.Cond.and given_1 narrow_1).before args s = true) : ∃ a1 a2, ST (fun q => s.heap.size ≤ q) (lw_ad b a1 a2) s := by
  have hs := flat_of_before _ hgv
  obtain ⟨a1, d1, r1, p1, p2, p3, p4, p5⟩ := lw_str (args := args) (s := s) (idx := 130) (l := s_txt 1) (by decide) (hs _ (by decide +kernel)) (hs _ (by decide +kernel)) (hs _ (by decide +kernel)) (hs _ (by decide +kernel)) (fun j hj => by
    rcases lw_six hj with e | e | e | e | e | e <;> subst e <;> exact hs _ (by decide +kernel))
  obtain ⟨a2, d2, r2, q1, q2, q3, q4, q5⟩ := lw_str (args := args) (s := s) (idx := 105) (l := s_txt 2) (by decide) (hs _ (by decide +kernel)) (hs _ (by decide +kernel)) (hs _ (by decide +kernel)) (hs _ (by decide +kernel)) (fun j hj => by
    rcases lw_five hj with e | e | e | e | e <;> subst e <;> exact hs _ (by decide +kernel))
  refine ⟨a1, a2, ?_, ?_, ?_, fun k hk => ?_⟩
  · have h0 := hts (.stringRef "StopDesk$Translator" 105 "!^#?@") (by decide +kernel)
    refine ⟨?_, ?_⟩
    · simp only [Cond.before, Cond.holds, Cond.value] at h0 ⊢
      exact h0
    · show (Term.string "StopDesk$Translator" 105).eval #[] s none [] s = some (.ref a2)
      simp only [Term.eval] at q1 ⊢
      exact q1
  · have h0 := hts (.stringRef "StopDesk$Translator" 130 "+-*/<=") (by decide +kernel)
    refine ⟨?_, ?_⟩
    · simp only [Cond.before, Cond.holds, Cond.value] at h0 ⊢
      exact h0
    · show (Term.string "StopDesk$Translator" 130).eval #[] s none [] s = some (.ref a1)
      simp only [Term.eval] at p1 ⊢
      exact p1
  · exact va_Zof (hts (.laysStatic "java/lang/String" "COMPACT_STRINGS" "Z") (by decide +kernel)) (hts (.initialized "java/lang/String") (by decide +kernel)) (va_eqi (hs _ (by decide +kernel))) (fun a ha => by omega)
  · rcases hk with e | e
    · subst e; exact ⟨d1, r1, p2, by show ¬ s.heap.size ≤ a1; omega, by omega, p5⟩
    · subst e; exact ⟨d2, r2, q2, by show ¬ s.heap.size ≤ a2; omega, by omega, q5⟩
theorem lw_one {v : Int32} {g : Hp} (h : ((some (.inl 1), g) : Res).1 = some (.inl v)) : v = 1 := by
  have h : (some (.inl 1) : Option AV) = some (.inl v) := h
  injection h with h
  injection h with h
  exact h.symm
theorem lw_AO {args : Array Value} {s : State} {C : String} (h : (Cond.arrayOver (.object C)).before args s = true) : va_AO C s := by
  unfold va_AO
  simp only [Cond.before, Cond.holds, Cond.value] at h ⊢
  exact h
/-- YOUR PART: from the entry, for every script of at most 2048 ints, the law comes to its end with true -/
theorem whole_start {p : Program} {e : Env} {s : State} {m : MethodId} {below : List Frame} {meth : Method} {c : Code} (l : Launch) {b L : Nat} {xs : Nat → Int32} (hL : L ≤ 2048) (C0 : lw_At p s m meth c b L xs) : W p l e room_1 s m #[Value.ref b] below meth c s.heap [] 0 0 (lw_Z below #[Value.ref b] s) (entryFrame m ([Value.ref b] : List Value).toArray 4) := by
  obtain ⟨hx, hb, hr, hml, hown, hts, hX, hbl, hlocks, hgv⟩ := C0
  obtain ⟨D, hK⟩ := lw_K hts
  obtain ⟨a1, a2, hst⟩ := lw_ST (b := b) hts hgv
  obtain ⟨hf, hrn, hf1, hf2⟩ := law_run (xs := xs) (L := L) (d := 0) (h := lw_h0) hL rfl rfl
  obtain ⟨f, hE⟩ := hrn
  have htsW : ∀ w ∈ am_W, w.before #[Value.ref b] s = true := fun w hw => hts w (List.mem_filter.mp hw).1
  have hl := lv_entry [Value.ref b] (n := 4) (show 1 ≤ 4 by decide)
  rw [lg_entry_eq]
  generalize (lg_sl [Value.ref b] ++ List.replicate (4 - (lg_sl [Value.ref b]).length) Slot.unset).toArray = ls at hl ⊢
  have hl2 : lv_has ls 4 (lvl (lw_ad b a1 a2) (am_in 130 [.inr (some 0)])) := ⟨hl.1, hl.2.1, fun q hq => by
    obtain ⟨j, w⟩ := q
    obtain ⟨v, hv, rfl⟩ := lvl_in.mp hq
    have hv2 := in_at hv
    have hj : j = 0 := by
      have := (List.getElem?_eq_some_iff.mp hv2).1
      simp at this
      exact this
    subst hj
    cases hv2
    exact hl.2.2 (0, .ref b) (by simp [lv_args])⟩
  have hRL : RL D (fun q => s.heap.size ≤ q) (lw_ad b a1 a2) (fun _ => 0) lw_h0 s s.heap := by
    refine ⟨fun k q hq => (by cases hq), ⟨fun i j x y hi => (by cases hi), fun k q hq => (by cases hq)⟩, hK, fun o ty h1 h2 => ?_, ⟨Nat.le_refl _, fun _ _ => Nat.le_refl _, fun o k r hr => (by cases hr)⟩⟩
    have h2 : o < 3 := h2
    omega
  refine am_body (D := D) (A := fun q => s.heap.size ≤ q) (mi := 130) (n0 := 3) (u0 := 0) (ad0 := lw_ad b a1 a2) (nL := 4) (b := b) (L := L) (xs := xs) (d := 60) (res := (some (.inl 1), hf)) ⟨fun C hC => lw_AO (hts _ hC), va_Nw.of rfl (hts (.castable "[I" "java/lang/Cloneable") (by decide +kernel))⟩ (Nat.le_refl _) hx hb htsW hown (fun e9 => absurd e9 (by decide)) hml (fun q hq => hq) (fun _ => ⟨hX, hbl, by omega, rfl, by decide⟩) hst (Nat.le_refl _) (by decide) (by decide) (by show hN hf - 3 ≤ 600000; omega) (by show hU hf - 0 ≤ 7302250; omega) (fun mj as h r hm hr => am_sound 60 mj as h r hm hr) ?_ ?_ ?_ f (0, am_in 130 [.inr (some 0)], [], lw_h0) (lw_ad b a1 a2) (fun _ => 0) s.heap [] ls 0 0 hE ⟨hRL, va_S.rf, hl2, by rw [in_len (by decide)]; rfl, fun v hv => ?_, fun v hv => (by cases hv), fun _ _ => rfl, Nat.le_refl _, Nat.le_refl _, rfl, rfl⟩
  · intro ad2 ca2 H locs ls2 pc v ty hR2 hS hag hres hty hnar hdg
    have hv : v = 1 := lw_one hres
    subst hv
    exact W.widen (k := 600000) (n := 7302250) (by show hN hf - 3 ≤ 600000; omega) (by show hU hf - 0 ≤ 7302250; omega) (va_forget hS.2.2 (lw_ret hx hb hr hlocks hdg))
  · intro ad2 ca2 H locs ls2 pc v ty hR2 hS hag hres
    cases hres
  · intro ad2 ca2 H locs ls2 pc hR2 hS hag hres
    cases hres
  · obtain ⟨i, hi⟩ := List.getElem?_of_mem hv
    have := in_at hi
    cases i with
    | zero =>
      cases this
      exact wfv_of (by decide)
    | succ i => simp at this
-- ===== YOUR PART ENDS =====
set_option maxHeartbeats 4000000 in
theorem lw_walk (l : Launch) (b : Addr) (xs : List Int32) : MetFree l x (headSpec (Jvm.Cond.code x code maxLocals ret :: tables_1) room_1) (lw_P b xs) (fun _ _ _ _ _ => True) lw_Q := by
  refine MetFree.of_bodyS (code := code) (maxLocals := maxLocals) (ret := ret) (by decide) ?_ ?_
  · intro args s m h hn
    obtain ⟨meth, c, h1, h2, h3, h4, h5, h6, -, -⟩ := Cond.code_spec hn (atoms_spec (ws := Jvm.Cond.code x code maxLocals ret :: tables_1) h _ List.mem_cons_self)
    exact ⟨meth, c, h1, h2, h3, h4, h5, h6⟩
  · intro p e s m args below meth c s₁ B hml0 hP _
    obtain ⟨rfl, hx, hbd, hgv⟩ := hP
    obtain ⟨scr, harrAt, hlist, hof, hsmall⟩ := hx
    obtain ⟨hcb, hkn, -, -⟩ := State.arrayAt?_spec harrAt
    have hown : s.vm.findClass R_law = some m.cls := findClass_of_methodNamed B.named
    have hts0 : ∀ c ∈ (Jvm.Cond.code x code maxLocals ret :: tables_1), c.before #[Value.ref b] s = true := atoms_spec (ws := Jvm.Cond.code x code maxLocals ret :: tables_1) B.pre
    have hts : ∀ w ∈ lw_tbl, w.before #[Value.ref b] s = true := k2_hts_sels lw_privs (fun w hw => hts0 w (List.mem_cons_of_mem _ hw)) lw_privs_ok
    have hml : c.maxLocals = 4 := B.maxLocals_eq (hts0 _ List.mem_cons_self)
    have X₀ : Stand p l e room_1 s m #[Value.ref b] below meth c s₁ [] 0 0 := Stand.of_body B
    have hh0 : s₁.heap = s.heap := by rw [B.state]; rfl
    have hsz : scr.slots.size = xs.length := by rw [← Array.length_toList, hlist, List.length_map]
    have hval : ∀ j : Nat, j < xs.length → scr.slots[j]? = some (.int (xs.getD j 0)) := fun j hj => by
      rw [← Array.getElem?_toList, hlist]
      simp [hj]
    have hbl : b < s.heap.size := (Array.getElem?_eq_some_iff.mp hcb).1
    have hX : va_X b xs.length (fun j => xs.getD j 0) s s.heap := ⟨scr, hcb, hof, hkn, hsz, hval⟩
    have K : W p l e room_1 s m #[Value.ref b] below meth c s₁.heap [] 0 0 (lw_Z below #[Value.ref b] s) (entryFrame m ([Value.ref b] : List Value).toArray 4) := by
      rw [hh0]
      exact whole_start l hbd ⟨B.exec, B.bytes, B.returns, hml, hown, hts, hX, hbl, B.notSynchronized, hgv⟩
    obtain ⟨t, a1, o, b1, b2, b3⟩ := K s₁ rfl X₀
    exact ⟨t, o, a1, b1, b2, b3⟩
theorem lw_pre_spec {args : Array Value} {s : State} (h : (Jvm.Cond.and given_1 narrow_1).before args s = true) (hr : rest_1_c.before args s = true) : ∃ (b : Addr) (xs : List Int32), lw_P b xs args s := by
  have hs := flat_of_before _ h
  have hq := flat_of_before _ hr
  have hc : (Cond.count 1).before args s = true := hs _ (by decide +kernel)
  have harr : (Cond.arrayOf (.arg 0) .int).before args s = true := hs _ (by decide +kernel)
  have hle : (Cond.le (.length (.arg 0)) (.int 2048)).before args s = true := hs _ (by decide +kernel)
  have hlen : (Cond.isInt (.length (.arg 0))).before args s = true := hq _ (by decide +kernel)
  have hall : (Cond.all (.arg 0) (.isInt (.elem (.arg 0) (.index 0)))).before args s = true := hq _ (by decide +kernel)
  obtain ⟨b, xs, hb, hx⟩ := State.ints_of_pre rfl harr hlen hall
  have hsm : xs.length < 2 ^ 31 := hx.choose_spec.2.2.2
  have hev : (Term.length (.arg 0)).eval args s none [] s = some (.int xs.length.toInt32) := hx.length_eval hb
  have hv := Cond.le_ints hev (show (Term.int 2048).eval args s none [] s = some (.int 2048) from rfl)
  have hd : xs.length.toInt32 ≤ 2048 := by
    simpa [Cond.before, Cond.holds, hv] using hle
  have hN : xs.length ≤ 2048 := (Int32.ofNat_le_ofNat hsm (by decide)).mp (show Int32.ofNat xs.length ≤ Int32.ofNat 2048 from hd)
  exact ⟨b, xs, Cond.one_arg hc (show args[0]? = some (.ref b) from hb), hx, hN, h⟩
theorem lw_comes (l : Launch) : Comes l x (Jvm.Cond.code x code maxLocals ret :: tables_1) room_1 (fun tb e args s => Calls_1 tb e args s ∧ rest_1 tb e args s ∧ Pre_1 tb e args s)
    (fun _ _ args s o t => lw_Q args s o t) := by
  intro p e ha hc hk s m args below hf hfit hheap happ hpre
  obtain ⟨b, xs, hP⟩ := lw_pre_spec hpre.2.2 hpre.2.1
  obtain ⟨k, o, h1, h2, h3, hQ⟩ := lw_walk l b xs p e ha hc hk s m args below hf ((Spec.applies_iff_loose hf).mp happ).1 hP trivial
  exact ⟨k, o, h1, h2, h3, hQ⟩
theorem lw_frame {s t : State} {o : Outcome} {args : Array Value} (h : Framed s o t [] 600000 7302250) :
    Framed s o t (fieldLocs frame_1_writes args s ++ arrayLocs frame_1_arrays args s ++ staticLocs frame_1_statics s) 600000 7302250 := h
theorem lw_limb (L : Cond) (hL : ∀ (args : Array Value) (s t : State), L.after args s (.returned (some (.int 1))) t = true) :
    ArmFor flags0 classFile x code maxLocals ret World_1 tables_1 room_1 Calls_1 rest_1 Pre_1
      (fun tb e a s o t => postC L tb e a s o t ∧ Framed s o t (fieldLocs frame_1_writes a s ++ arrayLocs frame_1_arrays a s ++ staticLocs frame_1_statics s) 600000 7302250) := by
  intro l _ _ _ p e ha hc hk s m args below hf hfit hheap happ hpre
  obtain ⟨k, o, h1, h2, h3, rfl, hF⟩ := lw_comes l p e ha hc hk s m args below hf hfit hheap happ hpre
  exact ⟨k, _, h1, h2, h3, hL args s _, lw_frame hF⟩
theorem i_vc : Claimed_1_1 ∧ Claimed_1_2 := ⟨lw_limb limb_1_1 (fun args s t => by simp [limb_1_1, Cond.after, Cond.holds, Cond.value]), lw_limb limb_1_2 (fun args s t => Cond.after_iff.mpr (by
  first | (rw [show limb_1_2 = Cond.eq .result (.int 1) from rfl, Cond.eq_ints (x := 1) (y := 1) rfl rfl]; simp; done) | (simp [limb_1_2, Cond.value, Term.eval]; done)))⟩

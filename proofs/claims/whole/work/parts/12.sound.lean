-- A METHOD that the small machine runs to its end, the machine runs to the same end
theorem ex_mono {xs : Nat → Int32} {L mi : Nat} {C : Nat → List AV → Hp → Res → Prop} (hC : ∀ mj as h r, C mj as h r → hN h ≤ hN r.2 ∧ hU h ≤ hU r.2) : ∀ (f : Nat) (st : St) (res : Res), Ex xs L C mi f st res → hN st.2.2.2 ≤ hN res.2 ∧ hU st.2.2.2 ≤ hU res.2 := by
  intro f
  induction f with
  | zero => intro st res h; exact h.elim
  | succ f ih =>
    intro st res hE
    unfold Ex at hE
    cases hs : am_step xs L mi st with
    | none => rw [hs] at hE; exact hE.elim
    | some ou =>
      rw [hs] at hE
      unfold am_step at hs
      cases hc : am_cd mi st.1 with
      | none => rw [hc] at hs; cases hs
      | some en =>
        rw [hc] at hs
        rcases ou with st' | cl | rs
        · have h1 := am_do_mono hs
          have h2 := ih st' res hE
          exact ⟨Nat.le_trans h1.1 h2.1, Nat.le_trans h1.2 h2.2⟩
        · obtain ⟨r, hr, hE⟩ := hE
          have h1 := hC _ _ _ _ hr
          have h2 := ih _ res hE
          have h3 : cl.2.2.2.2.2 = st.2.2.2 := by
            rcases am_do_call hs with ⟨idx, -, hd⟩ | ⟨idx, -, hd⟩ | ⟨idx, -, hd⟩
            · obtain ⟨mj, n, -, -, -, rfl⟩ := a_call_i hd; rfl
            · obtain ⟨mj, n, kd, o, as, -, -, -, -, -, rfl⟩ := a_callv_i hd; rfl
            · obtain ⟨mj, n, kd, o, as, -, -, -, -, -, rfl⟩ := a_callv_i hd; rfl
          rw [h3] at h1
          exact ⟨Nat.le_trans h1.1 h2.1, Nat.le_trans h1.2 h2.2⟩
        · have h3 : rs.2 = st.2.2.2 := by
            rcases am_do_ret hs with ⟨-, hd⟩ | ⟨-, hd⟩ | ⟨-, hd⟩
            · obtain ⟨v, ty, -, -, -, rfl⟩ := a_iret_i hd; rfl
            · obtain ⟨v, ty, -, -, -, rfl⟩ := a_aret_i hd; rfl
            · obtain ⟨-, -, rfl⟩ := a_vret_i hd; rfl
          have hE2 : res = rs := hE
          rw [hE2, h3]
          exact ⟨Nat.le_refl _, Nat.le_refl _⟩
theorem rn_mono {xs : Nat → Int32} {L : Nat} : ∀ (d mi : Nat) (as : List AV) (h : Hp) (res : Res), Rn xs L d mi as h res → hN h ≤ hN res.2 ∧ hU h ≤ hU res.2 := by
  intro d
  induction d with
  | zero => intro mi as h res hr; exact hr.elim
  | succ d ih =>
    intro mi as h res hr
    obtain ⟨f, hf⟩ := hr
    exact ex_mono ih f _ res hf
def am_ws (mi : Nat) : List Cond := Cond.code (am_y mi) (am_b mi) (am_nl mi) (am_ret mi) :: am_W
def am_EX (s : State) : Prop := (∀ C, Cond.arrayOver (.object C) ∈ lw_tbl → va_AO C s) ∧ va_Nw (.castable "[I" "java/lang/Cloneable") s
theorem am_EX.moved {u U : State} (hvm : u.vm.Alike U.vm) (h : am_EX u) : am_EX U := ⟨fun C hC => va_AO.moved hvm (h.1 C hC), va_tabs rfl (rfl : (u.setVm U.vm).vm = U.vm) (by rw [Cond.castable_setVm hvm]; exact h.2)⟩
def am_Pc (D : va_G) (sz : Nat) (ad : Nat → Nat) (ca : Nat → ClassId) (as : List AV) (h : Hp) : Array Value → State → Prop := fun v U => v = (as.map (tv ad)).toArray ∧ U.heap.size = sz ∧ am_EX U ∧ RL D (fun _ => True) ad ca h U U.heap ∧ ST (va_A (wld ad ca h) sz) ad U
def am_Qc (D : va_G) (sz : Nat) (ad : Nat → Nat) (ca : Nat → ClassId) (h : Hp) (res : Res) : Array Value → State → Outcome → State → Prop := fun _ st oc t =>
  ∃ (ad' : Nat → Nat) (ca' : Nat → ClassId), (∀ o, o < hN h → ad' o = ad o) ∧ oc = .returned (res.1.map (tv ad')) ∧ RL D (va_A (wld ad ca h) sz) ad' ca' res.2 t t.heap ∧ va_F (va_A (wld ad ca h) sz) st t ∧ (∀ v, res.1 = some v → wfv res.2 v)
def am_rm (d : Nat) (h : Hp) (res : Res) : Room := { frames := d + 5, cells := hN res.2 - hN h, slots := hU res.2 - hU h, locals := d * am_K }
def am_Met (l : Launch) (D : va_G) (d mi : Nat) (as : List AV) (h : Hp) (res : Res) : Prop := as.length ≤ am_nl mi → (∀ v, v ∈ as → wfv h v) → ∀ (sz : Nat) (ad : Nat → Nat) (ca : Nat → ClassId), Met l (am_y mi) (am_ws mi) (am_rm d h res) (am_Pc D sz ad ca as h) (am_Qc D sz ad ca h res) (hN res.2 - hN h) (hU res.2 - hU h) (va_A (wld ad ca h) sz)
theorem am_good (mj : Nat) (hm : mj < am_n) : GoodIn am_W (am_ws mj) := by
  intro w hw
  rcases List.mem_cons.mp hw with rfl | hw
  · exact ⟨am_code mj hm, Or.inl rfl⟩
  · exact ⟨hw, good_of_word (List.mem_filter.mp hw).2⟩
theorem am_blind (D : va_G) (sz : Nat) (ad : Nat → Nat) (ca : Nat → ClassId) (as : List AV) (h : Hp) : FrameBlind (am_Pc D sz ad ca as h) := fun a U g mk q => ⟨q.1, q.2.1, am_EX.moved (u := U) (U := U.calling g mk a) (Vm.Alike.refl U.vm) q.2.2.1, RL.moved (u := U) (U := U.calling g mk a) (Vm.Alike.refl U.vm) q.2.2.2.1, q.2.2.2.2.calling⟩
section BODY
variable {p : Program} {l : Launch} {e : Env} {R : Room} {s : State} {m : MethodId} {args : Array Value} {below : List Frame} {meth : Method} {c : Code} {Q : State → Prop}
variable {D : va_G} {A : Nat → Prop} {ad0 : Nat → Nat} {n0 u0 nL mi b L d : Nat} {xs : Nat → Int32} {res : Res}
/-- behind a call: the caller goes on -/
theorem SR.call {ad ad2 : Nat → Nat} {ca ca2 : Nat → ClassId} {lo : Lo} {sk rest : List AV} {h : Hp} {H H1 : Heap} {locs Lc : List Loc} {ls : Array Slot} {cells slots : Nat} {r : Res} {st0 t : State} (q : SR D A s n0 u0 ad0 nL ad ca lo sk h H locs ls cells slots) (hA : ∀ q, s.heap.size ≤ q → A q) (hw : ∀ v, v ∈ rest → wfv h v) (h0 : st0.heap = H) (ht : t.heap = H1) (hvm : s.vm.Alike t.vm) (hL : ∀ x ∈ Lc, va_A (wld ad ca h) H.size x.base) (hn : hN h ≤ hN r.2) (hu : hU h ≤ hU r.2) (hag : ∀ o, o < hN h → ad2 o = ad o) (hq9 : RL D (va_A (wld ad ca h) H.size) ad2 ca2 r.2 t t.heap) (hF : va_F (va_A (wld ad ca h) H.size) st0 t) (hwr : ∀ v, r.1 = some v → wfv r.2 v) : SR D A s n0 u0 ad0 nL ad2 ca2 lo (r.1.toList ++ rest) r.2 H1 (locs ++ Lc) ls (cells + (hN r.2 - hN h)) (slots + (hU r.2 - hU h)) := by
  obtain ⟨q1, q2, q3, q4, q5, q6, q7, q8, q9, q10, q11⟩ := q
  have hAA : ∀ x, va_A (wld ad ca h) H.size x → A x := fun x hx => by
    rcases hx with ⟨k, z, hk⟩ | hx
    · exact q1.2.1.2 k (x, z) hk
    · exact hA x (Nat.le_trans q2.1 hx)
  rw [ht] at hq9
  refine ⟨?_, ?_, by rw [lvl_agree q5 hag]; exact q3, q4, fun v hv z hz => Nat.lt_of_lt_of_le (q5 v hv z hz) hn, fun v hv => ?_, fun o ho => by rw [hag o (by omega)]; exact q7 o ho, by omega, by omega, by omega, by omega⟩
  · have hR2 := hq9.moved hvm.symm
    exact ⟨hR2.1, hR2.2.1.weaken (fun _ _ _ hx => hAA _ hx), hR2.2.2⟩
  · rw [← ht]
    rw [← h0] at q2
    refine ⟨Nat.le_trans q2.1 hF.1, fun x h1 h2 => ?_, fun x hx => ?_⟩
    · rw [hF.2 x (Nat.lt_of_lt_of_le h1 q2.1) (fun z => h2 (hAA x z))]
      exact q2.2.1 x h1 h2
    · rcases List.mem_append.mp hx with h1 | h1
      · exact q2.2.2 x h1
      · exact hAA _ (hL x h1)
  · rcases List.mem_append.mp hv with h1 | h1
    · exact hwr v (by cases hr : r.1 with
        | none => rw [hr] at h1; cases h1
        | some w => rw [hr] at h1; simp at h1; rw [h1])
    · exact fun z hz => Nat.lt_of_lt_of_le (hw v h1 z hz) hn
theorem SR.own {ad : Nat → Nat} {ca : Nat → ClassId} {lo : Lo} {sk : List AV} {h : Hp} {H : Heap} {locs : List Loc} {ls : Array Slot} {cells slots : Nat} (q : SR D A s n0 u0 ad0 nL ad ca lo sk h H locs ls cells slots) (hA : ∀ q, s.heap.size ≤ q → A q) : ∀ x, va_A (wld ad ca h) H.size x → A x := fun x hx => by
  rcases hx with ⟨k, z, hk⟩ | hx
  · exact q.1.2.1.2 k (x, z) hk
  · exact hA x (Nat.le_trans q.2.1.1 hx)
theorem tk_stack {sk : List AV} {n : Nat} {as : List AV} (hn : (sk.take n).reverse = as) : sk = as.reverse ++ sk.drop n := by
  rw [← hn, List.reverse_reverse, List.take_append_drop]
theorem tk_map {ad : Nat → Nat} {sk : List AV} {n o : Nat} {as : List AV} (hn : (sk.take n).reverse = .inr (some o) :: as) : sk.map (tv ad) = (as.map (tv ad)).reverse ++ Value.ref (ad o) :: (sk.drop n).map (tv ad) := by
  have h1 : sk.map (tv ad) = ((Sum.inr (some o) :: as : List AV).reverse ++ sk.drop n).map (tv ad) := congrArg (List.map (tv ad)) (tk_stack hn)
  rw [h1]
  simp [tv, va_rf]
theorem tk_wf {h : Hp} {sk : List AV} {n : Nat} (hw : ∀ v, v ∈ sk → wfv h v) : (∀ v, v ∈ (sk.take n).reverse → wfv h v) ∧ ∀ v, v ∈ sk.drop n → wfv h v := ⟨fun v hv => hw v (List.mem_of_mem_take (List.mem_reverse.mp hv)), fun v hv => hw v (List.mem_of_mem_drop hv)⟩
theorem am_len {as : List AV} {sk : List AV} {n : Nat} (hn : n ≤ sk.length) (ha : (sk.take n).reverse = as) : as.length = n := by
  rw [← ha, List.length_reverse, List.length_take]
  omega
theorem am_rest {sk : List AV} {n : Nat} (hn : sk.length ≤ n + 8) (ad : Nat → Nat) : (((sk.drop n).map (tv ad)).map fun v => v.category).sum ≤ 8 := by
  rw [cat_sum, List.length_drop]
  omega
theorem opt_tv (ad : Nat → Nat) (r : Option AV) (rest : List AV) : (r.map (tv ad)).toList ++ rest.map (tv ad) = (r.toList ++ rest).map (tv ad) := by cases r <;> rfl
set_option maxHeartbeats 8000000 in
set_option maxRecDepth 100000 in
theorem am_body (hex : am_EX s) (hmi : mi ≤ am_n) (hx : p.tables.exec = Jvm.exec) (hb : c.code = am_b mi) (hts : ∀ w ∈ am_W, w.before args s = true) (hown : s.vm.findClass (am_own mi) = some m.cls) (hname : (am_y mi).name = "<init>" → meth.name = "<init>") (hml : c.maxLocals = nL) (hA : ∀ q, s.heap.size ≤ q → A q) (hsc : mi = am_law → (va_X b L xs s s.heap ∧ b < s.heap.size ∧ ¬ A b ∧ ad0 0 = b ∧ 0 < n0)) (hst : ST A ad0 s) (h3n : 3 ≤ n0) (hfr : d + 6 ≤ R.frames) (hlo : (d + 1) * am_K ≤ R.locals) (hcells : hN res.2 - n0 ≤ R.cells) (hslots : hU res.2 - u0 ≤ R.slots)
    (IH : ∀ (mj : Nat) (as : List AV) (h : Hp) (r : Res), mj < am_n → Rn xs L d mj as h r → am_Met l D d mj as h r)
    (hIe : ∀ (ad : Nat → Nat) (ca : Nat → ClassId) (H : Heap) (locs : List Loc) (ls : Array Slot) (pc : Nat) (v : Int32) (ty : FieldType), RL D A ad ca res.2 s H → va_S A s.heap H locs → (∀ o, o < n0 → ad o = ad0 o) → res.1 = some (.inl v) → am_ret mi = some ty → narrow ty (.int v) = .int v → decode (am_b mi) pc = .ok (.ireturn, 1) → W p l e R s m args below meth c H locs (hN res.2 - n0) (hU res.2 - u0) Q (F0 m pc ls [.int v]))
    (hRe : ∀ (ad : Nat → Nat) (ca : Nat → ClassId) (H : Heap) (locs : List Loc) (ls : Array Slot) (pc : Nat) (v : Option Nat) (ty : FieldType), RL D A ad ca res.2 s H → va_S A s.heap H locs → (∀ o, o < n0 → ad o = ad0 o) → res.1 = some (.inr v) → wfv res.2 (.inr v) → am_ret mi = some ty → ((∃ n, ty = .object n) ∨ ∃ t, ty = .array t) → decode (am_b mi) pc = .ok (.areturn, 1) → W p l e R s m args below meth c H locs (hN res.2 - n0) (hU res.2 - u0) Q (F0 m pc ls [va_rf (v.map ad)]))
    (hVe : ∀ (ad : Nat → Nat) (ca : Nat → ClassId) (H : Heap) (locs : List Loc) (ls : Array Slot) (pc : Nat), RL D A ad ca res.2 s H → va_S A s.heap H locs → (∀ o, o < n0 → ad o = ad0 o) → res.1 = none → am_ret mi = none → decode (am_b mi) pc = .ok (.return_, 1) → W p l e R s m args below meth c H locs (hN res.2 - n0) (hU res.2 - u0) Q (F0 m pc ls [])) :
    ∀ (f : Nat) (st : St) (ad : Nat → Nat) (ca : Nat → ClassId) (H : Heap) (locs : List Loc) (ls : Array Slot) (cells slots : Nat), Ex xs L (Rn xs L d) mi f st res → SR D A s n0 u0 ad0 nL ad ca st.2.1 st.2.2.1 st.2.2.2 H locs ls cells slots → W p l e R s m args below meth c H locs cells slots Q (F0 m st.1 ls (st.2.2.1.map (tv ad))) := by
  have hK1 : am_K ≤ R.locals := Nat.le_trans (by rw [Nat.add_mul, Nat.one_mul]; exact Nat.le_add_left _ _) hlo
  have hloc : ∀ mj, mj < am_n → 8 + (am_nl mj + 11) + d * am_K ≤ R.locals := fun mj hmj => by
    have h1 := am_nl_le mj hmj
    have h2 : (d + 1) * am_K = d * am_K + am_K := by rw [Nat.add_mul, Nat.one_mul]
    omega
  intro f
  induction f with
  | zero => intro st ad ca H locs ls cells slots hE; exact hE.elim
  | succ f ih =>
    intro st ad ca H locs ls cells slots hE q
    have hE0 := hE
    unfold Ex at hE
    cases hs : am_step xs L mi st with
    | none => rw [hs] at hE; exact hE.elim
    | some ou =>
      rw [hs] at hE
      unfold am_step at hs
      cases hc : am_cd mi st.1 with
      | none => rw [hc] at hs; cases hs
      | some en =>
        rw [hc] at hs
        obtain ⟨hdg, hck⟩ := am_all mi hmi st.1 en hc
        obtain ⟨i, ln, ns, sw⟩ := en
        obtain ⟨pc, lo, sk, h⟩ := st
        have hs : am_do xs L (am_ret mi) i ns sw (pc + ln) lo sk h = some ou := hs
        have q : SR D A s n0 u0 ad0 nL ad ca lo sk h H locs ls cells slots := q
        have hdg : decode (am_b mi) pc = .ok (i, ln) := hdg
        have hck : am_chk mi pc i ln ns sw = true := hck
        show W p l e R s m args below meth c H locs cells slots Q (F0 m pc ls (sk.map (tv ad)))
        rcases ou with st' | cl | rs
        · have hm := ex_mono (rn_mono d) f st' res hE
          exact am_one hx hb hts hown hname hml hA hsc (Nat.le_trans (by omega) hfr) hK1 hex.1 hex.2 hst h3n (by omega) hdg hck hs q (Nat.le_trans (Nat.sub_le_sub_right hm.1 _) hcells) (Nat.le_trans (Nat.sub_le_sub_right hm.2 _) hslots) (fun ad2 ca2 H2 locs2 ls2 cells2 slots2 q2 => ih st' ad2 ca2 H2 locs2 ls2 cells2 slots2 hE q2)
        · obtain ⟨r, hr, hE⟩ := hE
          have hwk := q.wk
          have q8 := q.2.2.2.2.2.2.2.1
          have q9 := q.2.2.2.2.2.2.2.2.1
          have q10 := q.2.2.2.2.2.2.2.2.2.1
          have q11 := q.2.2.2.2.2.2.2.2.2.2
          rcases am_do_call hs with ⟨idx, rfl, hd⟩ | ⟨idx, rfl, hd⟩ | ⟨idx, rfl, hd⟩
          · obtain ⟨mj, n, rfl, hn1, hn2, rfl⟩ := a_call_i hd
            obtain ⟨p1, p2, hmj, hnp, hnl, hl1, hl2, rfl⟩ := am_chk_st hck
            have hr : Rn xs L d mj (sk.take n).reverse h r := hr
            have hE : Ex xs L (Rn xs L d) mi f (pc + 3, lo, r.1.toList ++ sk.drop n, r.2) res := hE
            have hrm := rn_mono d _ _ _ _ hr
            have hm := ex_mono (rn_mono d) f _ res hE
            have hm1 : hN r.2 ≤ hN res.2 := hm.1
            have hm2 : hU r.2 ≤ hU res.2 := hm.2
            have hwf := tk_wf (n := n) hwk
            have hM := IH mj _ h r hmj hr (by rw [am_len hn1 rfl]; exact hnl) hwf.1 H.size ad ca
            have hcw : CallB R s args (am_own mi) idx (am_y mj) (am_b mj) (am_nl mj) (am_ret mj) (am_ws mj) (am_rm d h r) (hN r.2 - hN h) (hU r.2 - hU h) n := callB_of n hts (am_good mj hmj) rfl rfl rfl (hts _ (am_ini mj hmj)) (hts _ (am_wd_in hl1)) ⟨(am_plain mj hmj).1, (am_plain mj hmj).2.1, hnp⟩ ⟨(by show d + 5 + 1 ≤ R.frames; omega), hloc mj hmj⟩
            have hrun := va_runS (locs := locs) (cells := cells) (slots := slots) (below := below) (meth := meth) (e := e) (g := F0 m pc ls (sk.map (tv ad))) (As := ((sk.take n).reverse).map (tv ad)) (rest := (sk.drop n).map (tv ad)) (nL := nL) ⟨hx, hb, hml, hown, hts⟩ hM ⟨hcw, hts _ (am_wd_in hl2)⟩ ⟨am_blind _ _ _ _ _ _, fun U hU hW => ⟨rfl, by rw [hU], hex.moved hW.alike, by rw [hU]; exact (RL.moved hW.alike ⟨q.1.1, q.1.2.1.weaken (fun _ _ _ _ => trivial), q.1.2.2⟩), hst.go q.2.1 hU hW (q.own hA) (fun o ho => q.2.2.2.2.2.2.1 o (by omega))⟩⟩ rfl (by rw [List.length_map]; exact am_len hn1 rfl) q.2.2.1.1 (by show sk.map (tv ad) = _; rw [← List.map_reverse, ← List.map_append, ← tk_stack rfl]) (lv_room (am_rest hn2 ad)) hdg ⟨by omega, by omega⟩
            refine sw_call hrun (fun v st0 t H1 Lc h0 ht hvm hLc hq => ?_)
            obtain ⟨ad2, ca2, hag, hv, hR2, hF, hwr⟩ := hq
            have hgo := ih _ ad2 ca2 H1 (locs ++ Lc) ls _ _ hE (q.call hA hwf.2 h0 ht hvm hLc hrm.1 hrm.2 hag hR2 hF hwr)
            have e1 : v = r.1.map (tv ad2) := by injection hv
            rw [e1]
            have e2 : (sk.drop n).map (tv ad) = (sk.drop n).map (tv ad2) := List.map_congr_left fun w hw => (tv_agree (hwf.2 w hw) hag).symm
            rw [e2, opt_tv]
            exact hgo
          · obtain ⟨mj, n, kd, o, as, rfl, has, hn1, hn2, hkd, rfl⟩ := a_callv_i hd
            obtain ⟨p1, p2, hmj, hnp, h0n, hnl, hnm, hret, hl1, hl2, rfl⟩ := am_chk_sp hck
            have hr : Rn xs L d mj (.inr (some o) :: as) h r := hr
            have hE : Ex xs L (Rn xs L d) mi f (pc + 3, lo, r.1.toList ++ sk.drop n, r.2) res := hE
            have hrm := rn_mono d _ _ _ _ hr
            have hm := ex_mono (rn_mono d) f _ res hE
            have hm1 : hN r.2 ≤ hN res.2 := hm.1
            have hm2 : hU r.2 ≤ hU res.2 := hm.2
            have hwf := tk_wf (n := n) hwk
            have hlen := am_len hn1 has
            rw [has] at hwf
            have hM := IH mj _ h r hmj hr (by rw [hlen]; exact hnl) hwf.1 H.size ad ca
            have hcw : CallB R s args (am_own mi) idx (am_y mj) (am_b mj) (am_nl mj) none (am_ws mj) (am_rm d h r) (hN r.2 - hN h) (hU r.2 - hU h) (n - 1) := callB_of (n - 1) hts (am_good mj hmj) (by rw [← hret]; rfl) rfl rfl (hts _ (am_ini mj hmj)) (hts _ (am_wd_in hl1)) ⟨(am_plain mj hmj).1, (am_plain mj hmj).2.1, hnp⟩ ⟨(by show d + 5 + 1 ≤ R.frames; omega), hloc mj hmj⟩
            have hrun := va_runI (locs := locs) (cells := cells) (slots := slots) (below := below) (meth := meth) (e := e) (g := F0 m pc ls (sk.map (tv ad))) (b := ad o) (As := as.map (tv ad)) (rest := (sk.drop n).map (tv ad)) (nL := nL) ⟨hx, hb, hml, hown, hts⟩ hM ⟨hcw, hnm, hts _ (am_wd_in hl2)⟩ ⟨am_blind _ _ _ _ _ _, fun U hU hW => ⟨rfl, by rw [hU], hex.moved hW.alike, by rw [hU]; exact (RL.moved hW.alike ⟨q.1.1, q.1.2.1.weaken (fun _ _ _ _ => trivial), q.1.2.2⟩), hst.go q.2.1 hU hW (q.own hA) (fun o ho => q.2.2.2.2.2.2.1 o (by omega))⟩⟩ rfl (by rw [List.length_map]; rw [List.length_cons] at hlen; omega) q.2.2.1.1 (by show sk.map (tv ad) = _; rw [tk_map has]) (lv_room (am_rest hn2 ad)) hdg ⟨by omega, by omega⟩
            refine sw_call hrun (fun v st0 t H1 Lc h0 ht hvm hLc hq => ?_)
            obtain ⟨ad2, ca2, hag, hv, hR2, hF, hwr⟩ := hq
            have hgo := ih _ ad2 ca2 H1 (locs ++ Lc) ls _ _ hE (q.call hA hwf.2 h0 ht hvm hLc hrm.1 hrm.2 hag hR2 hF hwr)
            have e1 : v = r.1.map (tv ad2) := by injection hv
            rw [e1]
            have e2 : (sk.drop n).map (tv ad) = (sk.drop n).map (tv ad2) := List.map_congr_left fun w hw => (tv_agree (hwf.2 w hw) hag).symm
            rw [e2, opt_tv]
            exact hgo
          · obtain ⟨mj, n, kd, o, as, rfl, has, hn1, hn2, hkd, rfl⟩ := a_callv_i hd
            obtain ⟨p1, p2, p3, hmj, hnp, h0n, hnl, hkc, hcl, hl1, hl2, hl3, rfl⟩ := am_chk_vi hck
            have hr : Rn xs L d mj (.inr (some o) :: as) h r := hr
            have hE : Ex xs L (Rn xs L d) mi f (pc + 3, lo, r.1.toList ++ sk.drop n, r.2) res := hE
            have hrm := rn_mono d _ _ _ _ hr
            have hm := ex_mono (rn_mono d) f _ res hE
            have hm1 : hN r.2 ≤ hN res.2 := hm.1
            have hm2 : hU r.2 ≤ hU res.2 := hm.2
            have hwf := tk_wf (n := n) hwk
            have hlen := am_len hn1 has
            rw [has] at hwf
            have hM := IH mj _ h r hmj hr (by rw [hlen]; exact hnl) hwf.1 H.size ad ca
            have hcw : CallB R s args (am_own mi) idx (am_y mj) (am_b mj) (am_nl mj) (am_ret mj) (am_ws mj) (am_rm d h r) (hN r.2 - hN h) (hU r.2 - hU h) (n - 1) := callB_of (n - 1) hts (am_good mj hmj) rfl rfl rfl (hts _ (am_ini mj hmj)) (hts _ (am_wd_in hl1)) ⟨(am_plain mj hmj).1, (am_plain mj hmj).2.1, hnp⟩ ⟨(by show d + 5 + 1 ≤ R.frames; omega), hloc mj hmj⟩
            have ho := wfv_lt (wk_h hwf.1)
            have h20 := am_nc_lt
            have h3 : 3 ≤ o := q.1.ge (by rw [hkd]; omega)
            have hw := wld_at (ad := ad) (ca := ca) h3 ho
            rw [cel_obj hkd (by omega)] at hw
            have hrecv := va_recv q.1.2.2.1 q.1.1 (am_cls_at kd hkc) hw
            have hrun := va_runV (locs := locs) (cells := cells) (slots := slots) (below := below) (meth := meth) (e := e) (g := F0 m pc ls (sk.map (tv ad))) (C := am_R kd) (b := ad o) (As := as.map (tv ad)) (rest := (sk.drop n).map (tv ad)) (nL := nL) ⟨hx, hb, hml, hown, hts⟩ hM ⟨hcw, hts _ (am_wd_in hl2), hts _ (am_wd_in hl3)⟩ ⟨am_blind _ _ _ _ _ _, hrecv, fun U hU hW => ⟨rfl, by rw [hU], hex.moved hW.alike, by rw [hU]; exact (RL.moved hW.alike ⟨q.1.1, q.1.2.1.weaken (fun _ _ _ _ => trivial), q.1.2.2⟩), hst.go q.2.1 hU hW (q.own hA) (fun o ho => q.2.2.2.2.2.2.1 o (by omega))⟩⟩ rfl (by rw [List.length_map]; rw [List.length_cons] at hlen; omega) q.2.2.1.1 (by show sk.map (tv ad) = _; rw [tk_map has]) (lv_room (am_rest hn2 ad)) hdg ⟨by omega, by omega⟩
            refine sw_call hrun (fun v st0 t H1 Lc h0 ht hvm hLc hq => ?_)
            obtain ⟨ad2, ca2, hag, hv, hR2, hF, hwr⟩ := hq
            have hgo := ih _ ad2 ca2 H1 (locs ++ Lc) ls _ _ hE (q.call hA hwf.2 h0 ht hvm hLc hrm.1 hrm.2 hag hR2 hF hwr)
            have e1 : v = r.1.map (tv ad2) := by injection hv
            rw [e1]
            have e2 : (sk.drop n).map (tv ad) = (sk.drop n).map (tv ad2) := List.map_congr_left fun w hw => (tv_agree (hwf.2 w hw) hag).symm
            rw [e2, opt_tv]
            exact hgo
        · have hE2 : res = rs := hE
          subst hE2
          have q10 := q.2.2.2.2.2.2.2.2.2.1
          have q11 := q.2.2.2.2.2.2.2.2.2.2
          rcases am_do_ret hs with ⟨rfl, hd⟩ | ⟨rfl, hd⟩ | ⟨rfl, hd⟩
          · obtain ⟨v, ty, rfl, hty, hnar, rfl⟩ := a_iret_i hd
            have hln : ln = 1 := by simpa [am_chk] using hck
            subst hln
            rw [q10, q11]
            exact hIe ad ca H locs ls pc v ty q.1 q.2.1 q.2.2.2.2.2.2.1 rfl hty hnar hdg
          · obtain ⟨v, ty, rfl, hty, hob, rfl⟩ := a_aret_i hd
            have hln : ln = 1 := by simpa [am_chk] using hck
            subst hln
            rw [q10, q11]
            exact hRe ad ca H locs ls pc v ty q.1 q.2.1 q.2.2.2.2.2.2.1 rfl (q.wk _ List.mem_cons_self) hty hob hdg
          · obtain ⟨rfl, hty, rfl⟩ := a_vret_i hd
            have hln : ln = 1 := by simpa [am_chk] using hck
            subst hln
            rw [q10, q11]
            exact hVe ad ca H locs ls pc q.1 q.2.1 q.2.2.2.2.2.2.1 rfl hty hdg
end BODY
theorem in_len {mi : Nat} {as : List AV} (ha : as.length ≤ am_nl mi) : (am_in mi as).length = am_nl mi := by
  unfold am_in
  simp only [List.length_append, List.length_map, List.length_replicate]
  omega
theorem in_at {mi : Nat} {as : List AV} {i : Nat} {v : AV} (h : (am_in mi as)[i]? = some (some v)) : as[i]? = some v := by
  unfold am_in at h
  by_cases hi : i < as.length
  · rw [List.getElem?_append_left (by rw [List.length_map]; exact hi), List.getElem?_map] at h
    cases ha : as[i]? with
    | none => rw [ha] at h; cases h
    | some w => rw [ha] at h; simp at h; rw [h]
  · rw [List.getElem?_append_right (by rw [List.length_map]; omega)] at h
    have := List.eq_of_mem_replicate (List.mem_of_getElem? h)
    cases this
set_option maxHeartbeats 8000000 in
set_option maxRecDepth 100000 in
theorem am_sound {l : Launch} {D : va_G} {xs : Nat → Int32} {L : Nat} : ∀ (d mi : Nat) (as : List AV) (h : Hp) (res : Res), mi < am_n → Rn xs L d mi as h res → am_Met l D d mi as h res := by
  intro d
  induction d with
  | zero => intro mi as h res _ hr; exact hr.elim
  | succ d ih =>
    intro mi as h res hmi hr hlen hwf sz ad ca
    have hmono := rn_mono (d + 1) mi as h res hr
    obtain ⟨f, hf⟩ := hr
    refine va_MetF (cc := am_b mi) (maxL := am_nl mi) (ret := am_ret mi) (am_plain mi hmi).2.2 rfl ?_
    intro p e s m args below meth c s₁ B hml hv
    obtain ⟨rfl, hsz, hex, hRL, hst⟩ := hv
    have hx := B.exec
    have hb := B.bytes
    have hr := B.returns
    have hts0 := atoms_spec (ws := am_ws mi) B.pre
    have hts : ∀ w ∈ am_W, w.before (as.map (tv ad)).toArray s = true := fun w hw => hts0 w (List.mem_cons_of_mem _ hw)
    have hown : s.vm.findClass (am_own mi) = some m.cls := findClass_of_methodNamed B.named
    have hlocks := B.notSynchronized
    have hname : meth.name = (am_y mi).name := (name_of_methodNamed B.named B.method).1
    subst hsz
    have hA : ∀ q, s.heap.size ≤ q → va_A (wld ad ca h) s.heap.size q := fun q hq => Or.inr hq
    have hRL2 : RL D (va_A (wld ad ca h) s.heap.size) ad ca h s s.heap := ⟨hRL.1, hRL.2.1.self, hRL.2.2⟩
    have hl := lv_entry (as.map (tv ad)) (n := am_nl mi) (by rw [lg_len]; exact hlen)
    rw [lg_entry_eq]
    generalize (lg_sl (as.map (tv ad)) ++ List.replicate (am_nl mi - (lg_sl (as.map (tv ad))).length) Slot.unset).toArray = ls at hl ⊢
    have hl2 : lv_has ls (am_nl mi) (lvl ad (am_in mi as)) := ⟨hl.1, hl.2.1, fun q hq => by
      obtain ⟨j, w⟩ := q
      obtain ⟨v, hv, rfl⟩ := lvl_in.mp hq
      have := hl.2.2 _ (lvl_args ad as 0 j v (in_at hv))
      simpa using this⟩
    refine am_body (n0 := hN h) (u0 := hU h) (ad0 := ad) (A := va_A (wld ad ca h) s.heap.size) (nL := am_nl mi) (b := 0) (L := L) (xs := xs) (d := d) (res := res) hex (Nat.le_of_lt hmi) hx hb hts hown (fun e => hname.trans e) hml hA (fun e9 => absurd e9 (by unfold am_law; omega)) hst hRL.2.2.2.2.1 (Nat.le_refl _) (Nat.le_refl _) (Nat.le_refl _) (Nat.le_refl _) ih ?_ ?_ ?_ f (0, am_in mi as, [], h) ad ca s.heap [] ls 0 0 hf ⟨hRL2, va_S.rf, hl2, in_len hlen, fun v hv => ?_, fun v hv => (by cases hv), fun _ _ => rfl, Nat.le_refl _, Nat.le_refl _, (Nat.sub_self (hN h)).symm, (Nat.sub_self (hU h)).symm⟩
    · intro ad2 ca2 H locs ls2 pc v ty hR2 hS hag hres hty hnar hdg
      refine W.zret hx hb (hr.trans hty) hnar (fun t ht hW => ⟨ad2, ca2, hag, by rw [hres]; rfl, ?_, hS.F ht, fun w hw => ?_⟩) hS.2.2 hdg
      · rw [ht]; exact hR2.moved hW.alike
      · rw [hres] at hw; cases hw; exact wfv_int
    · intro ad2 ca2 H locs ls2 pc v ty hR2 hS hag hres hwv hty hob hdg
      refine W.aret hx hb (hr.trans hty) hob (va_rf_or _) (fun t ht hW => ⟨ad2, ca2, hag, by rw [hres]; rfl, ?_, hS.F ht, fun w hw => ?_⟩) hS.2.2 hdg
      · rw [ht]; exact hR2.moved hW.alike
      · rw [hres] at hw; cases hw; exact hwv
    · intro ad2 ca2 H locs ls2 pc hR2 hS hag hres hty hdg
      refine W.vret hx hb (hr.trans hty) (fun t ht hW => ⟨ad2, ca2, hag, by rw [hres]; rfl, ?_, hS.F ht, fun w hw => ?_⟩) hS.2.2 hdg
      · rw [ht]; exact hR2.moved hW.alike
      · rw [hres] at hw; cases hw
    · obtain ⟨i, hi⟩ := List.getElem?_of_mem hv
      exact hwf v (List.mem_of_getElem? (in_at hi))

-- THE SMALL MACHINE'S HEAP INSTRUCTIONS, each by a row of the kit
def RL (D : va_G) (A : Nat → Prop) (ad : Nat → Nat) (ca : Nat → ClassId) (h : Hp) (s : State) (H : Heap) : Prop :=
  va_P D am_cls (wld ad ca h) H ∧ va_D A (wld ad ca h) ∧ va_K D am_cls [] s ∧ (∀ o ty, 3 ≤ o → o < hN h → am_aty (hK h o) = some ty → ArrOfT s (ca o) ty ∧ va_RA s (ca o) ty) ∧ wfh h
theorem RL.moved {D : va_G} {A : Nat → Prop} {ad : Nat → Nat} {ca : Nat → ClassId} {h : Hp} {u U : State} {H : Heap} (hvm : u.vm.Alike U.vm) (q : RL D A ad ca h u H) : RL D A ad ca h U H :=
  ⟨q.1, q.2.1, va_K.moved hvm q.2.2.1, fun o ty h1 h2 h3 => ⟨arrOfT_moved hvm (q.2.2.2.1 o ty h1 h2 h3).1, (q.2.2.2.1 o ty h1 h2 h3).2.moved hvm⟩, q.2.2.2.2⟩
theorem RL.ge {D : va_G} {A : Nat → Prop} {ad : Nat → Nat} {ca : Nat → ClassId} {h : Hp} {u : State} {H : Heap} (q : RL D A ad ca h u H) {o : Nat} (ho : hK h o < 30) : 3 ≤ o := by
  rcases Nat.lt_or_ge o 3 with h1 | h1
  · exact absurd (q.2.2.2.2.2.1 o h1) (by omega)
  · exact h1
theorem RL.K1 {D : va_G} {A : Nat → Prop} {ad : Nat → Nat} {ca : Nat → ClassId} {h : Hp} {u : State} {H : Heap} (q : RL D A ad ca h u H) {o : Nat} {ty : FieldType} (h3 : 3 ≤ o) (ho : o < hN h) (ht : am_aty (hK h o) = some ty) : va_K D am_cls [(ca o, ty)] u := by
  refine ⟨q.2.2.1.1, fun k x hx => ?_⟩
  have hz : k < 1 := (List.getElem?_eq_some_iff.mp hx).1
  rw [show k = 0 by omega] at hx
  cases hx
  exact q.2.2.2.1 o ty h3 ho ht
theorem RL.K2 {D : va_G} {A : Nat → Prop} {ad : Nat → Nat} {ca : Nat → ClassId} {h : Hp} {u : State} {H : Heap} (q : RL D A ad ca h u H) {o o2 : Nat} {ty ty2 : FieldType} (h3 : 3 ≤ o) (ho : o < hN h) (ht : am_aty (hK h o) = some ty) (h32 : 3 ≤ o2) (ho2 : o2 < hN h) (ht2 : am_aty (hK h o2) = some ty2) : va_K D am_cls [(ca o, ty), (ca o2, ty2)] u := (q.K1 h3 ho ht).app (q.K1 h32 ho2 ht2)
/-- behind a write into an object or an array: the world of the new small heap -/
theorem RL.set {D : va_G} {A : Nat → Prop} {ad : Nat → Nat} {ca : Nat → ClassId} {h h' : Hp} {u : State} {H H1 : Heap} (q : RL D A ad ca h u H) {o : Nat} {x : va_E} (h3 : 3 ≤ o) (hn : hN h' = hN h) (hk : ∀ z, hK h' z = hK h z) (hw : wfh h') (hx : cel ad ca h' o = x) (hq : ∀ z, z ≠ o → cel ad ca h' z = cel ad ca h z) (hP : va_P D am_cls ((wld ad ca h).set (o - 3) (ad o, x)) H1) (hD : va_D A ((wld ad ca h).set (o - 3) (ad o, x))) : RL D A ad ca h' u H1 := by
  rw [wld_set h3 hn hx hq] at hP hD
  exact ⟨hP, hD, q.2.2.1, fun z ty h1 h2 ht => q.2.2.2.1 z ty h1 (by rw [← hn]; exact h2) (by rw [← hk]; exact ht), hw⟩
theorem wfh_sA {h : Hp} (hw : wfh h) (o : Nat) (f : Nat → Int32) : wfh (sA h o f) := hw
theorem wfh_sR {h : Hp} (hw : wfh h) {o k : Nat} {v : Option Nat} (hv : ∀ r, v = some r → r < hN h) : wfh (sR h o k v) := by
  refine ⟨hw.1, hw.2.1, fun a b r hr => ?_⟩
  rw [hR_sR] at hr
  split at hr
  · exact hv r hr
  · exact hw.2.2 a b r hr
theorem cel_sA_ne {ad : Nat → Nat} {ca : Nat → ClassId} {h : Hp} {o : Nat} {f : Nat → Int32} (q : Nat) (hq : q ≠ o) : cel ad ca (sA h o f) q = cel ad ca h q := cel_ne rfl rfl (fun k => by rw [hI_sA, if_neg hq]) (fun k => rfl)
theorem cel_sR_ne {ad : Nat → Nat} {ca : Nat → ClassId} {h : Hp} {o k : Nat} {v : Option Nat} (q : Nat) (hq : q ≠ o) : cel ad ca (sR h o k v) q = cel ad ca h q := cel_ne rfl rfl (fun j => rfl) (fun j => by rw [hR_sR, if_neg (fun z => hq z.1)])
section SWR
variable {p : Program} {l : Launch} {e : Env} {R : Room} {s : State} {m : MethodId} {args : Array Value} {below : List Frame} {meth : Method} {c : Code} {H : Heap} {locs : List Loc} {cells slots : Nat} {Q : State → Prop}
variable {cc : ByteArray} {pc : Nat} {ls : Array Slot} {rest : List Value} {D : va_G} {A : Nat → Prop} {H0 : Heap} {ad : Nat → Nat} {ca : Nat → ClassId} {h : Hp} {own : String} {idx o ci k : Nat}
theorem sw_get (hx : p.tables.exec = Jvm.exec) (hb : c.code = cc) (hts : ∀ w ∈ am_W, w.before args s = true) (hown : s.vm.findClass own = some m.cls) (hq9 : RL D A ad ca h s H) (hk : hK h o = ci) (hci : ci < am_nc) (ho : o < hN h) (hkf : k < am_fn ci) (hlink : Cond.fieldLink own idx (am_R ci) (am_F ci k).2.1 (am_F ci k).2.2.1 ∈ am_W) (hdg : decode cc pc = .ok (.getfield idx, 3))
    (kk : W p l e R s m args below meth c H locs cells slots Q (F0 m (pc + 3) ls (fvl ad h o k (am_ft ci k) :: rest))) : W p l e R s m args below meth c H locs cells slots Q (F0 m pc ls (.ref (ad o) :: rest)) := by
  have h20 := am_nc_lt
  have h3 : 3 ≤ o := hq9.ge (by rw [hk]; omega)
  have hw := wld_at (ad := ad) (ca := ca) h3 ho
  rw [cel_obj hk (by omega)] at hw
  exact va_get (D := D) (ci := ci) (C := am_R ci) (T := am_F ci) (N := am_fn ci) (ref := am_R ci) hx hb hts (am_fws ci hci) hown hq9.2.2.1 hq9.1 (o - 3) hw (am_cls_at ci hci) k hkf (hts _ hlink) (fun x h9 => by rw [← am_F_own ci hci k hkf]; exact h9) (fls_at hkf) hdg kk
theorem sw_put0 {v : Value} {h' : Hp} (hx : p.tables.exec = Jvm.exec) (hb : c.code = cc) (hts : ∀ w ∈ am_W, w.before args s = true) (hown : s.vm.findClass own = some m.cls) (hq9 : RL D A ad ca h s H) (hS : va_S A H0 H locs) (hk : hK h o = ci) (hci : ci < am_nc) (ho : o < hN h) (hkf : k < am_fn ci) (hlink : Cond.fieldLink own idx (am_R ci) (am_F ci k).2.1 (am_F ci k).2.2.1 ∈ am_W)
    (hfin : (am_F ci k).2.2.2 = true → meth.name = "<init>" ∧ am_R ci = own) (hn : narrow (am_t ci k) v = v) (hfit : fits (am_t ci k) v = true) (hN' : hN h' = hN h) (hK' : ∀ z, hK h' z = hK h z) (hw' : wfh h') (hset : (fls ad h ci o).set k v = fls ad h' ci o) (hq : ∀ z, z ≠ o → cel ad ca h' z = cel ad ca h z) (hdg : decode cc pc = .ok (.putfield idx, 3))
    (kk : ∀ (H1 : Heap) (locs1 : List Loc), RL D A ad ca h' s H1 → va_S A H0 H1 locs1 → W p l e R s m args below meth c H1 locs1 cells slots Q (F0 m (pc + 3) ls rest)) : W p l e R s m args below meth c H locs cells slots Q (F0 m pc ls (v :: .ref (ad o) :: rest)) := by
  have h20 := am_nc_lt
  have h3 : 3 ≤ o := hq9.ge (by rw [hk]; omega)
  have hw := wld_at (ad := ad) (ca := ca) h3 ho
  rw [cel_obj hk (by omega)] at hw
  have hcel : cel ad ca h' o = .inr (ci, (fls ad h ci o).set k v) := by rw [cel_obj (by rw [hK', hk]) (by omega), hset]
  cases hf : (am_F ci k).2.2.2 with
  | false =>
    exact va_put (D := D) (ci := ci) (v := v) (ty := am_t ci k) (C := am_R ci) (T := am_F ci) (N := am_fn ci) (ref := am_R ci) hx hb hts (am_fws ci hci) (am_t ci) (am_t_ok ci hci) (am_F_ne ci hci) hown hq9.2.2.1 hq9.1 hq9.2.1 hS (o - 3) hw (am_cls_at ci hci) k hkf (hts _ hlink) (fun x h9 => by rw [← am_F_own ci hci k hkf]; exact h9) hf (am_t_ok ci hci k hkf) hn hfit (by rw [fls_len]; exact hkf) hdg
      (fun H1 locs1 hP hD hS1 => kk H1 locs1 (hq9.set h3 hN' hK' hw' hcel hq hP hD) hS1)
  | true =>
    obtain ⟨hin, hdecl⟩ := hfin hf
    exact va_putF (D := D) (ci := ci) (v := v) (ty := am_t ci k) (C := am_R ci) (T := am_F ci) (N := am_fn ci) (ref := am_R ci) hx hb hts (am_fws ci hci) (am_t ci) (am_t_ok ci hci) (am_F_ne ci hci) hown hq9.2.2.1 hq9.1 hq9.2.1 hS (o - 3) hw (am_cls_at ci hci) k hkf (hts _ hlink) (fun x h9 => by rw [← am_F_own ci hci k hkf]; exact h9) hf hin (by rw [am_F_own ci hci k hkf]; exact hdecl) (am_t_ok ci hci k hkf) hn hfit (by rw [fls_len]; exact hkf) hdg
      (fun H1 locs1 hP hD hS1 => kk H1 locs1 (hq9.set h3 hN' hK' hw' hcel hq hP hD) hS1)
theorem sw_putI {v : Int32} (hx : p.tables.exec = Jvm.exec) (hb : c.code = cc) (hts : ∀ w ∈ am_W, w.before args s = true) (hown : s.vm.findClass own = some m.cls) (hq9 : RL D A ad ca h s H) (hS : va_S A H0 H locs) (hk : hK h o = ci) (hci : ci < am_nc) (ho : o < hN h) (hkf : k < am_fn ci) (hlink : Cond.fieldLink own idx (am_R ci) (am_F ci k).2.1 (am_F ci k).2.2.1 ∈ am_W)
    (hfin : (am_F ci k).2.2.2 = true → meth.name = "<init>" ∧ am_R ci = own) (hft : am_ft ci k ≠ 2) (hn : narrow (am_t ci k) (.int v) = .int v) (hfit : fits (am_t ci k) (.int v) = true) (hdg : decode cc pc = .ok (.putfield idx, 3))
    (kk : ∀ (H1 : Heap) (locs1 : List Loc), RL D A ad ca (sI h o k v) s H1 → va_S A H0 H1 locs1 → W p l e R s m args below meth c H1 locs1 cells slots Q (F0 m (pc + 3) ls rest)) : W p l e R s m args below meth c H locs cells slots Q (F0 m pc ls (.int v :: .ref (ad o) :: rest)) := by
  refine sw_put0 hx hb hts hown hq9 hS hk hci ho hkf hlink hfin hn hfit (h' := sI h o k v) rfl (fun _ => rfl) (wfh_sA hq9.2.2.2.2 _ _) (fls_set ?_ (fun j hj => ?_)) (fun z hz => cel_sA_ne z hz) hdg kk
  · unfold fvl
    rw [if_neg hft, hI_sI, if_pos ⟨rfl, rfl⟩]
  · have e1 : hI (sI h o k v) o j = hI h o j := by rw [hI_sI, if_neg (fun z => hj z.2)]
    unfold fvl
    rw [e1, hR_sI]
theorem sw_putR {v : Option Nat} (hx : p.tables.exec = Jvm.exec) (hb : c.code = cc) (hts : ∀ w ∈ am_W, w.before args s = true) (hown : s.vm.findClass own = some m.cls) (hq9 : RL D A ad ca h s H) (hS : va_S A H0 H locs) (hk : hK h o = ci) (hci : ci < am_nc) (ho : o < hN h) (hkf : k < am_fn ci) (hlink : Cond.fieldLink own idx (am_R ci) (am_F ci k).2.1 (am_F ci k).2.2.1 ∈ am_W)
    (hfin : (am_F ci k).2.2.2 = true → meth.name = "<init>" ∧ am_R ci = own) (hft : am_ft ci k = 2) (hv : ∀ r, v = some r → r < hN h) (hn : narrow (am_t ci k) (va_rf (v.map ad)) = va_rf (v.map ad)) (hfit : fits (am_t ci k) (va_rf (v.map ad)) = true) (hdg : decode cc pc = .ok (.putfield idx, 3))
    (kk : ∀ (H1 : Heap) (locs1 : List Loc), RL D A ad ca (sR h o k v) s H1 → va_S A H0 H1 locs1 → W p l e R s m args below meth c H1 locs1 cells slots Q (F0 m (pc + 3) ls rest)) : W p l e R s m args below meth c H locs cells slots Q (F0 m pc ls (va_rf (v.map ad) :: .ref (ad o) :: rest)) := by
  refine sw_put0 hx hb hts hown hq9 hS hk hci ho hkf hlink hfin hn hfit (h' := sR h o k v) rfl (fun _ => rfl) (wfh_sR hq9.2.2.2.2 hv) (fls_set ?_ (fun j hj => ?_)) (fun z hz => cel_sR_ne z hz) hdg kk
  · unfold fvl
    rw [if_pos hft, hR_sR, if_pos ⟨rfl, rfl⟩]
  · have e1 : hR (sR h o k v) o j = hR h o j := by rw [hR_sR, if_neg (fun z => hj z.2)]
    unfold fvl
    rw [e1, hI_sR]
theorem sw_ild {i : Int32} (hx : p.tables.exec = Jvm.exec) (hb : c.code = cc) (hq9 : RL D A ad ca h s H) (hk : hK h o = 20) (ho : o < hN h) (hi : vp_in i (hL h o)) (hdg : decode cc pc = .ok (.iaload, 1))
    (kk : W p l e R s m args below meth c H locs cells slots Q (F0 m (pc + 1) ls (.int (hI h o i.toNatClampNeg) :: rest))) : W p l e R s m args below meth c H locs cells slots Q (F0 m pc ls (.int i :: .ref (ad o) :: rest)) := by
  have h3 : 3 ≤ o := hq9.ge (by rw [hk]; decide)
  have hw := wld_at (ad := ad) (ca := ca) h3 ho
  rw [cel_ints (by rw [hk]; decide) (by rw [hk]; decide)] at hw
  exact va_iald hx hb (hq9.K1 h3 ho (ty := .int) (by rw [hk]; rfl)) hq9.1 (o - 3) 0 hw rfl hi hdg kk
theorem sw_cld {i : Int32} (hx : p.tables.exec = Jvm.exec) (hb : c.code = cc) (hq9 : RL D A ad ca h s H) (hk : hK h o = 21) (ho : o < hN h) (hi : vp_in i (hL h o)) (hdg : decode cc pc = .ok (.caload, 1))
    (kk : W p l e R s m args below meth c H locs cells slots Q (F0 m (pc + 1) ls (.int (hI h o i.toNatClampNeg) :: rest))) : W p l e R s m args below meth c H locs cells slots Q (F0 m pc ls (.int i :: .ref (ad o) :: rest)) := by
  have h3 : 3 ≤ o := hq9.ge (by rw [hk]; decide)
  have hw := wld_at (ad := ad) (ca := ca) h3 ho
  rw [cel_ints (by rw [hk]; decide) (by rw [hk]; decide)] at hw
  exact va_cald hx hb (hq9.K1 h3 ho (ty := .char) (by rw [hk]; rfl)) hq9.1 (o - 3) 0 hw rfl hi hdg kk
theorem sw_bld {i : Int32} (hx : p.tables.exec = Jvm.exec) (hb : c.code = cc) (hq9 : RL D A ad ca h s H) (hk : hK h o = 22) (ho : o < hN h) (hi : vp_in i (hL h o)) (hdg : decode cc pc = .ok (.baload, 1))
    (kk : W p l e R s m args below meth c H locs cells slots Q (F0 m (pc + 1) ls (.int (hI h o i.toNatClampNeg) :: rest))) : W p l e R s m args below meth c H locs cells slots Q (F0 m pc ls (.int i :: .ref (ad o) :: rest)) := by
  have h3 : 3 ≤ o := hq9.ge (by rw [hk]; decide)
  have hw := wld_at (ad := ad) (ca := ca) h3 ho
  rw [cel_ints (by rw [hk]; decide) (by rw [hk]; decide)] at hw
  exact va_zald hx hb (hq9.K1 h3 ho (ty := .boolean) (by rw [hk]; rfl)) hq9.1 (o - 3) 0 hw rfl hi hdg kk
/-- behind a write into an array of ints (chars, booleans) -/
theorem RL.ints {H1 : Heap} {f : Nat → Int32} (q : RL D A ad ca h s H) (h3 : 3 ≤ o) (k1 : 20 ≤ hK h o) (k2 : hK h o < 23) (hP : va_P D am_cls ((wld ad ca h).set (o - 3) (ad o, .inl (ca o, hL h o, .inl f))) H1) (hD : va_D A ((wld ad ca h).set (o - 3) (ad o, .inl (ca o, hL h o, .inl f)))) : RL D A ad ca (sA h o f) s H1 := by
  refine q.set h3 (h' := sA h o f) rfl (fun _ => rfl) (wfh_sA q.2.2.2.2 _ _) ?_ (fun z hz => cel_sA_ne z hz) hP hD
  rw [cel_ints (h := sA h o f) k1 k2]
  have e : hI (sA h o f) o = f := funext fun y => by rw [hI_sA, if_pos rfl]
  rw [e]
  rfl
theorem sw_ist {i v : Int32} (hx : p.tables.exec = Jvm.exec) (hb : c.code = cc) (hq9 : RL D A ad ca h s H) (hS : va_S A H0 H locs) (hk : hK h o = 20) (ho : o < hN h) (hi : vp_in i (hL h o)) (hdg : decode cc pc = .ok (.iastore, 1))
    (kk : ∀ (H1 : Heap) (locs1 : List Loc), RL D A ad ca (sI h o i.toNatClampNeg v) s H1 → va_S A H0 H1 locs1 → W p l e R s m args below meth c H1 locs1 cells slots Q (F0 m (pc + 1) ls rest)) : W p l e R s m args below meth c H locs cells slots Q (F0 m pc ls (.int v :: .int i :: .ref (ad o) :: rest)) := by
  have h3 : 3 ≤ o := hq9.ge (by rw [hk]; decide)
  have hw := wld_at (ad := ad) (ca := ca) h3 ho
  rw [cel_ints (by rw [hk]; decide) (by rw [hk]; decide)] at hw
  exact va_iast hx hb (hq9.K1 h3 ho (ty := .int) (by rw [hk]; rfl)) hq9.1 hq9.2.1 hS (o - 3) 0 hw rfl hi hdg (fun H1 locs1 hP hD hS1 => kk H1 locs1 (hq9.ints h3 (by rw [hk]; decide) (by rw [hk]; decide) hP hD) hS1)
theorem sw_cst {i v : Int32} (hx : p.tables.exec = Jvm.exec) (hb : c.code = cc) (hq9 : RL D A ad ca h s H) (hS : va_S A H0 H locs) (hk : hK h o = 21) (ho : o < hN h) (hi : vp_in i (hL h o)) (hdg : decode cc pc = .ok (.castore, 1))
    (kk : ∀ (H1 : Heap) (locs1 : List Loc), RL D A ad ca (sI h o i.toNatClampNeg (vp_nar .char v)) s H1 → va_S A H0 H1 locs1 → W p l e R s m args below meth c H1 locs1 cells slots Q (F0 m (pc + 1) ls rest)) : W p l e R s m args below meth c H locs cells slots Q (F0 m pc ls (.int v :: .int i :: .ref (ad o) :: rest)) := by
  have h3 : 3 ≤ o := hq9.ge (by rw [hk]; decide)
  have hw := wld_at (ad := ad) (ca := ca) h3 ho
  rw [cel_ints (by rw [hk]; decide) (by rw [hk]; decide)] at hw
  exact va_cast hx hb (hq9.K1 h3 ho (ty := .char) (by rw [hk]; rfl)) hq9.1 hq9.2.1 hS (o - 3) 0 hw rfl hi hdg (fun H1 locs1 hP hD hS1 => kk H1 locs1 (hq9.ints h3 (by rw [hk]; decide) (by rw [hk]; decide) hP hD) hS1)
theorem sw_bst {i v : Int32} (hx : p.tables.exec = Jvm.exec) (hb : c.code = cc) (hq9 : RL D A ad ca h s H) (hS : va_S A H0 H locs) (hk : hK h o = 22) (ho : o < hN h) (hi : vp_in i (hL h o)) (hdg : decode cc pc = .ok (.bastore, 1))
    (kk : ∀ (H1 : Heap) (locs1 : List Loc), RL D A ad ca (sI h o i.toNatClampNeg (vp_nar .boolean v)) s H1 → va_S A H0 H1 locs1 → W p l e R s m args below meth c H1 locs1 cells slots Q (F0 m (pc + 1) ls rest)) : W p l e R s m args below meth c H locs cells slots Q (F0 m pc ls (.int v :: .int i :: .ref (ad o) :: rest)) := by
  have h3 : 3 ≤ o := hq9.ge (by rw [hk]; decide)
  have hw := wld_at (ad := ad) (ca := ca) h3 ho
  rw [cel_ints (by rw [hk]; decide) (by rw [hk]; decide)] at hw
  exact va_zast hx hb (hq9.K1 h3 ho (ty := .boolean) (by rw [hk]; rfl)) hq9.1 hq9.2.1 hS (o - 3) 0 hw rfl hi hdg (fun H1 locs1 hP hD hS1 => kk H1 locs1 (hq9.ints h3 (by rw [hk]; decide) (by rw [hk]; decide) hP hD) hS1)
theorem am_aty_ref {kd : Nat} (hk : kd = 23 ∨ kd = 24) : ∃ C, am_aty kd = some (.object C) := by
  rcases hk with rfl | rfl <;> exact ⟨_, rfl⟩
theorem sw_ald {i : Int32} (hx : p.tables.exec = Jvm.exec) (hb : c.code = cc) (hq9 : RL D A ad ca h s H) (hk : hK h o = 23 ∨ hK h o = 24) (ho : o < hN h) (hi : vp_in i (hL h o)) (hdg : decode cc pc = .ok (.aaload, 1))
    (kk : W p l e R s m args below meth c H locs cells slots Q (F0 m (pc + 1) ls (va_rf ((hR h o i.toNatClampNeg).map ad) :: rest))) : W p l e R s m args below meth c H locs cells slots Q (F0 m pc ls (.int i :: .ref (ad o) :: rest)) := by
  have hk2 : 23 ≤ hK h o ∧ hK h o < 30 := by rcases hk with q | q <;> rw [q] <;> decide
  have h3 : 3 ≤ o := hq9.ge hk2.2
  have hw := wld_at (ad := ad) (ca := ca) h3 ho
  rw [cel_refs hk2.1] at hw
  obtain ⟨C, hC⟩ := am_aty_ref hk
  exact va_aldq hx hb (hq9.K1 h3 ho hC) hq9.1 (o - 3) 0 hw rfl hi hdg kk
theorem RL.refs {H1 : Heap} {j : Nat} {v : Option Nat} (q : RL D A ad ca h s H) (h3 : 3 ≤ o) (k1 : 23 ≤ hK h o) (hv : ∀ r, v = some r → r < hN h) (hP : va_P D am_cls ((wld ad ca h).set (o - 3) (ad o, .inl (ca o, hL h o, .inr (.inr (.inr (.inr (va_up (fun k => (hR h o k).map ad) j (v.map ad)))))))) H1) (hD : va_D A ((wld ad ca h).set (o - 3) (ad o, .inl (ca o, hL h o, .inr (.inr (.inr (.inr (va_up (fun k => (hR h o k).map ad) j (v.map ad))))))))) : RL D A ad ca (sR h o j v) s H1 := by
  refine q.set h3 (h' := sR h o j v) rfl (fun _ => rfl) (wfh_sR q.2.2.2.2 hv) ?_ (fun z hz => cel_sR_ne z hz) hP hD
  rw [cel_refs (h := sR h o j v) k1]
  have e : (fun k => (hR (sR h o j v) o k).map ad) = va_up (fun k => (hR h o k).map ad) j (v.map ad) := funext fun y => by
    rw [hR_sR]
    by_cases hy : y = j
    · subst hy
      simp [va_up]
    · simp [va_up, hy]
  rw [e]
  rfl
theorem sw_ast {i : Int32} {v kd ke : Nat} (hx : p.tables.exec = Jvm.exec) (hb : c.code = cc) (hq9 : RL D A ad ca h s H) (hS : va_S A H0 H locs) (hk : hK h o = kd) (hv : hK h v = ke) (hvN : v < hN h) (hty : am_aty kd = some (.object (am_R ke))) (hk2 : 23 ≤ kd ∧ kd < 30) (hke : ke < am_nc) (ho : o < hN h) (hi : vp_in i (hL h o)) (hdg : decode cc pc = .ok (.aastore, 1))
    (kk : ∀ (H1 : Heap) (locs1 : List Loc), RL D A ad ca (sR h o i.toNatClampNeg (some v)) s H1 → va_S A H0 H1 locs1 → W p l e R s m args below meth c H1 locs1 cells slots Q (F0 m (pc + 1) ls rest)) : W p l e R s m args below meth c H locs cells slots Q (F0 m pc ls (.ref (ad v) :: .int i :: .ref (ad o) :: rest)) := by
  have h20 := am_nc_lt
  have h3 : 3 ≤ o := hq9.ge (by rw [hk]; exact hk2.2)
  have h3v : 3 ≤ v := hq9.ge (by rw [hv]; omega)
  have hw := wld_at (ad := ad) (ca := ca) h3 ho
  have hwv := wld_at (ad := ad) (ca := ca) h3v hvN
  rw [cel_refs (by rw [hk]; exact hk2.1)] at hw
  rw [cel_obj hv (by omega)] at hwv
  exact va_astq (r := (am_R ke, am_F ke, am_fn ke)) hx hb (hq9.K1 h3 ho (by rw [hk]; exact hty)) hq9.1 hq9.2.1 hS (o - 3) 0 (v - 3) ke hw rfl hwv (am_cls_at ke hke) hi hdg (fun H1 locs1 hP hD hS1 => kk H1 locs1 (hq9.refs h3 (by rw [hk]; exact hk2.1) (fun r hr => by cases hr; exact hvN) hP hD) hS1)
theorem sw_astN {i : Int32} {kd : Nat} {C : String} (hx : p.tables.exec = Jvm.exec) (hb : c.code = cc) (hq9 : RL D A ad ca h s H) (hS : va_S A H0 H locs) (hk : hK h o = kd) (hty : am_aty kd = some (.object C)) (hk2 : 23 ≤ kd ∧ kd < 30) (ho : o < hN h) (hi : vp_in i (hL h o)) (hdg : decode cc pc = .ok (.aastore, 1))
    (kk : ∀ (H1 : Heap) (locs1 : List Loc), RL D A ad ca (sR h o i.toNatClampNeg none) s H1 → va_S A H0 H1 locs1 → W p l e R s m args below meth c H1 locs1 cells slots Q (F0 m (pc + 1) ls rest)) : W p l e R s m args below meth c H locs cells slots Q (F0 m pc ls (.null :: .int i :: .ref (ad o) :: rest)) := by
  have h3 : 3 ≤ o := hq9.ge (by rw [hk]; exact hk2.2)
  have hw := wld_at (ad := ad) (ca := ca) h3 ho
  rw [cel_refs (by rw [hk]; exact hk2.1)] at hw
  exact va_astqN hx hb (hq9.K1 h3 ho (by rw [hk]; exact hty)) hq9.1 hq9.2.1 hS (o - 3) 0 hw rfl hi hdg (fun H1 locs1 hP hD hS1 => kk H1 locs1 (hq9.refs (v := none) h3 (by rw [hk]; exact hk2.1) (fun r hr => by cases hr) hP hD) hS1)
theorem sw_len {ty : FieldType} (hx : p.tables.exec = Jvm.exec) (hb : c.code = cc) (hq9 : RL D A ad ca h s H) (hk : 20 ≤ hK h o ∧ hK h o < 30) (hty : am_aty (hK h o) = some ty) (ho : o < hN h) (hdg : decode cc pc = .ok (.arraylength, 1))
    (kk : W p l e R s m args below meth c H locs cells slots Q (F0 m (pc + 1) ls (.int (Int32.ofNat (hL h o)) :: rest))) : W p l e R s m args below meth c H locs cells slots Q (F0 m pc ls (.ref (ad o) :: rest)) := by
  have h3 : 3 ≤ o := hq9.ge hk.2
  have hw := wld_at (ad := ad) (ca := ca) h3 ho
  by_cases h23 : hK h o < 23
  · rw [cel_ints hk.1 h23] at hw
    exact va_alen hx hb (hq9.K1 h3 ho hty) hq9.1 (o - 3) 0 hw rfl (v := Int32.ofNat (hL h o)) rfl hdg kk
  · rw [cel_refs (by omega)] at hw
    exact va_alen hx hb (hq9.K1 h3 ho hty) hq9.1 (o - 3) 0 hw rfl (v := Int32.ofNat (hL h o)) rfl hdg kk
/-- behind 'new', 'newarray', 'anewarray': one object more -/
theorem wfh_nw {h : Hp} (hw : wfh h) (a b z : Nat) : wfh (nw h a b z) := by
  have h3 := hw.1
  refine ⟨by rw [hN_nw]; omega, fun o ho => ?_, fun o k r hr => ?_⟩
  · rw [hK_nw, if_neg (by omega)]
    exact hw.2.1 o ho
  · rw [hR_nw] at hr
    rw [hN_nw]
    split at hr
    · cases hr
    · exact Nat.lt_succ_of_lt (hw.2.2 o k r hr)
theorem cel_old {h : Hp} {ad ad' : Nat → Nat} {ca ca' : Nat → ClassId} (hw : wfh h) (a b z : Nat) (had : ∀ o, o < hN h → ad' o = ad o) (hca : ∀ o, o < hN h → ca' o = ca o) {q : Nat} (hq : q < hN h) : cel ad' ca' (nw h a b z) q = cel ad ca h q := by
  have e1 : hK (nw h a b z) q = hK h q := by rw [hK_nw, if_neg (by omega)]
  have e2 : hL (nw h a b z) q = hL h q := by rw [hL_nw, if_neg (by omega)]
  have e3 : ∀ k, hI (nw h a b z) q k = hI h q k := fun k => by rw [hI_nw, if_neg (by omega)]
  have e4 : ∀ k, hR (nw h a b z) q k = hR h q k := fun k => by rw [hR_nw, if_neg (by omega)]
  have e5 : hI (nw h a b z) q = hI h q := funext e3
  have e6 : (fun k => (hR (nw h a b z) q k).map ad') = (fun k => (hR h q k).map ad) := funext fun k => by rw [e4 k]; exact map_agree hw had q k
  have e7 : ∀ x, fls ad' (nw h a b z) x q = fls ad h x q := fun x => by
    unfold fls fvl
    apply List.map_congr_left
    intro k _
    rw [e3 k, e4 k, map_agree hw had q k]
  simp only [cel, e1, e2, e5, e6, e7, hca q hq]
theorem RL.new {H1 : Heap} {a b z q : Nat} {x : va_E} {ad' : Nat → Nat} {ca' : Nat → ClassId} (r : RL D A ad ca h s H) (had : ∀ o, o < hN h → ad' o = ad o) (hq : ad' (hN h) = q) (hca : ∀ o, o < hN h → ca' o = ca o) (hx : cel ad' ca' (nw h a b z) (hN h) = x) (hty : ∀ ty, am_aty a = some ty → ArrOfT s (ca' (hN h)) ty ∧ va_RA s (ca' (hN h)) ty) (hP : va_P D am_cls (wld ad ca h ++ [(q, x)]) H1) (hD : va_D A (wld ad ca h ++ [(q, x)])) : RL D A ad' ca' (nw h a b z) s H1 := by
  have hw := r.2.2.2.2
  rw [wld_new hw.1 (h' := nw h a b z) rfl ⟨hq, hx⟩ (fun o ho => ⟨had o ho, cel_old hw a b z had hca ho⟩)] at hP hD
  refine ⟨hP, hD, r.2.2.1, fun o ty h1 h2 h3 => ?_, wfh_nw hw a b z⟩
  rw [hN_nw] at h2
  rw [hK_nw] at h3
  by_cases ho : o = hN h
  · subst ho
    rw [if_pos rfl] at h3
    exact hty ty h3
  · rw [if_neg ho] at h3
    rw [hca o (by omega)]
    exact r.2.2.2.1 o ty h1 (by omega) h3
/-- behind a clone of an array of ints -/
theorem RL.cln {H1 : Heap} {q : Nat} {ad' : Nat → Nat} {ca' : Nat → ClassId} (r : RL D A ad ca h s H) (h3 : 3 ≤ o) (ho : o < hN h) (hk : hK h o = 20) (had : ∀ o, o < hN h → ad' o = ad o) (hq : ad' (hN h) = q) (hca : ∀ o, o < hN h → ca' o = ca o) (hcn : ca' (hN h) = ca o) (hP : va_P D am_cls (wld ad ca h ++ [(q, .inl (ca o, hL h o, .inl (hI h o)))]) H1) (hD : va_D A (wld ad ca h ++ [(q, .inl (ca o, hL h o, .inl (hI h o)))])) : RL D A ad' ca' (sA (nw h 20 (hL h o) (hL h o)) (hN h) (hI h o)) s H1 := by
  have hw := r.2.2.2.2
  have hx : cel ad' ca' (sA (nw h 20 (hL h o) (hL h o)) (hN h) (hI h o)) (hN h) = .inl (ca o, hL h o, .inl (hI h o)) := by
    have e1 : hK (sA (nw h 20 (hL h o) (hL h o)) (hN h) (hI h o)) (hN h) = 20 := by rw [hK_sA, hK_nw, if_pos rfl]
    rw [cel_ints (by rw [e1]; decide) (by rw [e1]; decide)]
    have e : hI (sA (nw h 20 (hL h o) (hL h o)) (hN h) (hI h o)) (hN h) = hI h o := funext fun y => by rw [hI_sA, if_pos rfl]
    rw [e, hL_sA, hL_nw, if_pos rfl, hcn]
  rw [wld_new hw.1 (h' := sA (nw h 20 (hL h o) (hL h o)) (hN h) (hI h o)) rfl ⟨hq, hx⟩ (fun z hz => ⟨had z hz, by rw [cel_sA_ne z (by omega)]; exact cel_old hw _ _ _ had hca hz⟩)] at hP hD
  refine ⟨hP, hD, r.2.2.1, fun z ty h1 h2 h3' => ?_, wfh_sA (wfh_nw hw _ _ _) _ _⟩
  rw [hN_sA, hN_nw] at h2
  rw [hK_sA, hK_nw] at h3'
  by_cases hz : z = hN h
  · subst hz
    rw [if_pos rfl] at h3'
    rw [hcn]
    exact r.2.2.2.1 o ty h3 ho (by rw [hk]; exact h3')
  · rw [if_neg hz] at h3'
    rw [hca z (by omega)]
    exact r.2.2.2.1 z ty h1 (by omega) h3'
theorem up_old {α : Type} {f : Nat → α} {n : Nat} {v : α} : ∀ o, o < n → va_up f n v o = f o := fun o ho => va_up_ne f v (by omega)
theorem sw_new (hx : p.tables.exec = Jvm.exec) (hb : c.code = cc) (hts : ∀ w ∈ am_W, w.before args s = true) (hown : s.vm.findClass own = some m.cls) (hq9 : RL D A ad ca h s H) (hS : va_S A H0 H locs) (hA : ∀ q, H0.size ≤ q → A q) (hci : ci < am_nc) (hl1 : Cond.classLink own idx (am_R ci) ∈ am_W) (hl2 : Cond.instantiable (am_R ci) (am_fn ci) ∈ am_W) (hl3 : Cond.initialized (am_R ci) ∈ am_W) (hcells : cells + 1 ≤ R.cells) (hslots : slots + am_fn ci ≤ R.slots) (hdg : decode cc pc = .ok (.new idx, 3))
    (kk : ∀ (q : Nat) (H1 : Heap), RL D A (va_up ad (hN h) q) ca (nw h ci 0 (am_fn ci)) s H1 → va_S A H0 H1 locs → W p l e R s m args below meth c H1 locs (cells + 1) (slots + am_fn ci) Q (F0 m (pc + 3) ls (.ref q :: rest))) : W p l e R s m args below meth c H locs cells slots Q (F0 m pc ls rest) := by
  have h20 := am_nc_lt
  refine va_new (ci := ci) (fs := (List.range (am_fn ci)).map (fun k => defaultValue (am_t ci k))) (C := am_R ci) (T := am_F ci) (N := am_fn ci) hx hb hts (am_fws ci hci) (am_t ci) (am_t_ok ci hci) hown (hts _ hl1) (hts _ hl2) (hts _ hl3) hq9.2.2.1 hq9.1 hq9.2.1 hS hA (am_cls_at ci hci) (fun j hj => ?_) hcells hslots hdg (fun q H1 hP hD hS1 => kk q H1 (hq9.new (ca' := ca) up_old (va_up_self _ _ _) (fun _ _ => rfl) ?_ (fun ty h9 => ?_) hP hD) hS1)
  · simp only [vp_V, List.getD_eq_getElem?_getD, List.getElem?_map]
    rw [List.getElem?_range hj]
    rfl
  · rw [cel_obj (by rw [hK_nw, if_pos rfl]) (by omega)]
    congr 2
    unfold fls
    apply List.map_congr_left
    intro k hk
    have hk := List.mem_range.mp hk
    unfold fvl
    rw [hI_nw, hR_nw, if_pos rfl, if_pos rfl]
    exact am_t_zero ci hci k hk
  · rw [am_aty_low ci (by omega)] at h9
    cases h9
theorem sw_arr {kd N : Nat} {n : Int32} {atype : ArrayType} {ty : FieldType} (hx : p.tables.exec = Jvm.exec) (hb : c.code = cc) (hts : ∀ w ∈ am_W, w.before args s = true) (hq9 : RL D A ad ca h s H) (hS : va_S A H0 H locs) (hA : ∀ q, H0.size ≤ q → A q) (hkd : 20 ≤ kd ∧ kd < 23) (hty : newarray.typeOf atype = ty) (hat : am_aty kd = some ty) (hw : Cond.arrayClass (newarray.typeOf atype) ∈ am_W) (hdv : defaultValue ty = .int 0) (hcb : componentBytes ty ≤ 4) (hn : ¬ n < 0) (hN' : n.toNatClampNeg = N) (hm : N ≤ 100000) (hcells : cells + 1 ≤ R.cells) (hslots : slots + N ≤ R.slots) (hdg : decode cc pc = .ok (.newarray atype, 2))
    (kk : ∀ (q : Nat) (cA : ClassId) (H1 : Heap), RL D A (va_up ad (hN h) q) (va_up ca (hN h) cA) (nw h kd N N) s H1 → va_S A H0 H1 locs → W p l e R s m args below meth c H1 locs (cells + 1) (slots + N) Q (F0 m (pc + 2) ls (.ref q :: rest))) : W p l e R s m args below meth c H locs cells slots Q (F0 m pc ls (.int n :: rest)) := by
  refine va_newa hx hb (hts _ hw) hty hq9.2.2.1 hq9.1 hq9.2.1 hS hA (a0 := (N, .inl (fun _ => 0))) (fun cA => ?_) hn hN' ?_ hcells hslots hdg (fun q cA H1 hK hP hD hS1 => kk q cA H1 (hq9.new up_old (va_up_self _ _ _) up_old ?_ (fun ty2 h9 => ?_) hP hD) hS1)
  · rw [vp_cell_i, hdv]
  · have := Nat.mul_le_mul hm hcb
    omega
  · rw [cel_ints (by rw [hK_nw, if_pos rfl]; exact hkd.1) (by rw [hK_nw, if_pos rfl]; exact hkd.2)]
    rw [hL_nw, if_pos rfl, va_up_self]
    have e : hI (nw h kd N N) (hN h) = fun _ => 0 := funext fun y => by rw [hI_nw, if_pos rfl]
    rw [e]
  · rw [hat] at h9
    cases h9
    rw [va_up_self]
    exact hK.2 0 (cA, ty) rfl
theorem sw_anew {kd N : Nat} {n : Int32} {C : String} (hx : p.tables.exec = Jvm.exec) (hb : c.code = cc) (hts : ∀ w ∈ am_W, w.before args s = true) (hown : s.vm.findClass own = some m.cls) (hq9 : RL D A ad ca h s H) (hS : va_S A H0 H locs) (hA : ∀ q, H0.size ≤ q → A q) (hkd : 23 ≤ kd) (hat : am_aty kd = some (.object C)) (hl1 : Cond.classLink own idx C ∈ am_W) (hao : va_AO C s) (hn : ¬ n < 0) (hN' : n.toNatClampNeg = N) (hm : N ≤ 100000) (hcells : cells + 1 ≤ R.cells) (hslots : slots + N ≤ R.slots) (hdg : decode cc pc = .ok (.anewarray idx, 3))
    (kk : ∀ (q : Nat) (cA : ClassId) (H1 : Heap), RL D A (va_up ad (hN h) q) (va_up ca (hN h) cA) (nw h kd N N) s H1 → va_S A H0 H1 locs → W p l e R s m args below meth c H1 locs (cells + 1) (slots + N) Q (F0 m (pc + 3) ls (.ref q :: rest))) : W p l e R s m args below meth c H locs cells slots Q (F0 m pc ls (.int n :: rest)) := by
  refine va_newq hx hb hown (hts _ hl1) hao hq9.2.2.1 hq9.1 hq9.2.1 hS hA hn hN' (by omega) hcells hslots hdg (fun q cA H1 hK hP hD hS1 => kk q cA H1 (hq9.new up_old (va_up_self _ _ _) up_old ?_ (fun ty2 h9 => ?_) hP hD) hS1)
  · rw [cel_refs (by rw [hK_nw, if_pos rfl]; exact hkd)]
    rw [hL_nw, if_pos rfl, va_up_self]
    have e : (fun k => (hR (nw h kd N N) (hN h) k).map (va_up ad (hN h) q)) = fun _ => none := funext fun y => by rw [hR_nw, if_pos rfl]; rfl
    rw [e]
  · rw [hat] at h9
    cases h9
    rw [va_up_self]
    exact hK.2 0 (cA, .object C) rfl
/-- behind a call -/
theorem sw_call {mc ms : Nat} {st0 rest : List Value} {Qa : State → Outcome → State → Prop} {free : Addr → Prop} (hr : va_Run p l e R s m args below meth c H locs cells slots mc ms (F0 m pc ls st0) rest Qa free)
    (kk : ∀ (v : Option Value) (st₀ t : State) (H1 : Heap) (L : List Loc), st₀.heap = H → t.heap = H1 → s.vm.Alike t.vm → (∀ q ∈ L, free q.base) → Qa st₀ (.returned v) t → W p l e R s m args below meth c H1 (locs ++ L) (cells + mc) (slots + ms) Q (F0 m (pc + 3) ls (v.toList ++ rest))) : W p l e R s m args below meth c H locs cells slots Q (F0 m pc ls st0) := by
  intro T hT X
  obtain ⟨v, st₀, t, T', L, h0, X', hL, e1, e2, hq, st⟩ := hr T hT X
  obtain ⟨t2, a1, b1⟩ := kk v st₀ t T'.heap L h0 e1.symm (by rw [← e2]; exact X'.warmed.alike) hL hq T' rfl X'
  exact ⟨t2, st t2 a1, b1⟩
end SWR

-- TEXT CONSTANTS, and String.indexOf by the JDK's own road
/-- a conjunction's words -/
def st_fl : Cond → List Cond
  | .and a b => st_fl a ++ st_fl b
  | .count _ => []
  | .exactly _ _ => []
  | .declares _ => []
  | c => [c]
def st_rest : Cond → Array Value → State → Prop
  | .and a b, x, s => st_rest a x s ∧ st_rest b x s
  | .count n, x, s => (Cond.count n).before x s = true
  | .exactly t k, x, s => (Cond.exactly t k).before x s = true
  | .declares y, x, s => (Cond.declares y).before x s = true
  | _, _, _ => True
theorem st_before : ∀ (c : Cond) {x : Array Value} {s : State}, (∀ w ∈ st_fl c, w.before x s = true) → st_rest c x s → c.before x s = true := by
  intro c
  induction c using st_fl.induct with
  | case1 a b iha ihb =>
    intro x s h hl
    rw [Cond.before_and, Bool.and_eq_true]
    exact ⟨iha (fun w hw => h w (List.mem_append.mpr (Or.inl hw))) hl.1, ihb (fun w hw => h w (List.mem_append.mpr (Or.inr hw))) hl.2⟩
  | case2 n => intro x s _ hl; exact hl
  | case3 t k => intro x s _ hl; exact hl
  | case4 y => intro x s _ hl; exact hl
  | case5 c h1 h2 h3 h4 =>
    intro x s h _
    have e : st_fl c = [c] := by unfold st_fl; split <;> first | rfl | (exfalso; simp_all)
    exact h c (by rw [e]; exact List.mem_singleton.mpr rfl)
set_option maxRecDepth 100000 in
theorem st_in1 : (st_fl Jvm.Free.StrIndexOf.S1.spec.pre).all (fun w => decide (w ∈ lw_tbl) && goodWord w) = true := by decide +kernel
set_option maxRecDepth 100000 in
theorem st_in2 : (st_fl Jvm.Free.StrIndexOf.S2.spec.pre).all (fun w => decide (w ∈ lw_tbl) && goodWord w) = true := by decide +kernel
set_option maxRecDepth 100000 in
theorem st_in3 : (st_fl Jvm.Lib.Cold.isLatin1.spec.pre ++ (st_fl Jvm.Lib.Cold.length.spec.pre ++ st_fl Jvm.Lib.Cold.coder.spec.pre)).all (fun w => decide (w ∈ lw_tbl) && goodWord w) = true := by decide +kernel
theorem st_all {ws : List Cond} (h : ws.all (fun w => decide (w ∈ lw_tbl) && goodWord w) = true) : ∀ w ∈ ws, w ∈ am_W := fun w hw => by
  have h1 := List.all_eq_true.mp h w hw
  simp only [Bool.and_eq_true, decide_eq_true_eq] at h1
  exact List.mem_filter.mpr h1
theorem st_decl {y : MethodName} {bytes : ByteArray} {maxL : Nat} {ret : Option FieldType} {a a' : Array Value} {U : State} (h1 : (Cond.instanceMethod y).before a U = true) (h2 : (Cond.code y bytes maxL ret).before a U = true) : (Cond.declares y).before a' U = true := by
  obtain ⟨m, meth, e1, e2, e3, e4⟩ := Cond.instanceMethod_spec h1
  obtain ⟨meth', c, f1, -, -, -, -, -, -, f2⟩ := Cond.code_spec e1 h2
  cases e2.symm.trans f1
  simp [Cond.before, Cond.holds, Cond.value, e1, e2, e3, f2]
/-- a text at a, its bytes at d -/
def js_At (a d : Nat) (arr : Cell) (U : State) : Prop := (Cond.exactly (.arg 0) "java/lang/String").before #[.ref a] U = true ∧ U.fieldOf? a "java/lang/String" "coder" "B" = some (.int 0) ∧ U.fieldOf? a "java/lang/String" "value" "[B" = some (.ref d) ∧ U.heap[d]? = some arr ∧ U.isArrayOf arr .byte
theorem fo_move {u U : State} {a : Nat} {c n d : String} {v : Value} (hal : u.vm.Alike U.vm) (hh : U.heap[a]? = u.heap[a]?) (h : u.fieldOf? a c n d = some v) : U.fieldOf? a c n d = some v := by
  cases hf : u.fieldFound? c n d with
  | none =>
    simp [State.fieldOf?, State.fieldNamed?, hf] at h
  | some x =>
    obtain ⟨cf, k, i, f⟩ := x
    obtain ⟨k', hf', -⟩ := State.fieldFound?_setVm hal hf
    have hf' : U.fieldFound? c n d = some (cf, k', i, f) := hf'
    cases hc : u.heap[a]? with
    | none => simp [State.fieldOf?, hc] at h
    | some cell =>
      rw [hc] at hh
      simp only [State.fieldOf?, State.fieldNamed?, hf, hf', hc, hh, Option.bind_eq_bind, Option.bind_some] at h ⊢
      cases hs : f.isStatic with
      | true => simp [hs] at h
      | false =>
        simp only [hs, beq_self_eq_true, if_true, Option.pure_def, Option.bind_some] at h ⊢
        rw [hal.assignable]
        exact h
theorem js_move {u U : State} {a d : Nat} {arr : Cell} (h : js_At a d arr u) (hal : u.vm.Alike U.vm) (ha : U.heap[a]? = u.heap[a]?) (hd : U.heap[d]? = u.heap[d]?) : js_At a d arr U := by
  obtain ⟨h1, h2, h3, h4, h5⟩ := h
  refine ⟨?_, fo_move hal ha h2, fo_move hal ha h3, by rw [hd]; exact h4, State.isArrayOf_alike hal h5⟩
  have h0 : (Cond.exactly (.arg 0) "java/lang/String").before #[.ref a] (u.setVm U.vm) = true := by rw [Cond.exactly_arg_setVm hal]; exact h1
  simp only [Cond.before, Cond.holds, Cond.value, Term.eval, State.vm_setVm, State.heap_setVm] at h0 ⊢
  simp only [show (#[Value.ref a] : Array Value)[0]? = some (.ref a) from rfl] at h0 ⊢
  cases hc : U.vm.findClass "java/lang/String" with
  | none => rw [hc] at h0; exact h0
  | some c =>
    rw [hc] at h0
    simp only [ha]
    exact h0
theorem st_ev {U : State} {a : Nat} {n d : String} {v : Value} {rest : List Value} (h : U.fieldOf? a "java/lang/String" n d = some v) : (Term.field (.arg 0) "java/lang/String" n d).eval (Value.ref a :: rest).toArray U none [] U = some v := by
  rw [va_fe (a := a) (by simp [Term.eval])]
  exact h
def st_arr (arr : Cell) (l : List Int32) : Prop := arr.vm ≠ .unknown ∧ arr.slots.size = l.length ∧ ∀ i, i < l.length → arr.slots[i]? = some (.int (l.getD i 0))
theorem st_ex {U : State} {a : Nat} {rest : List Value} (h : (Cond.exactly (.arg 0) "java/lang/String").before #[.ref a] U = true) : (Cond.exactly (.arg 0) "java/lang/String").before (Value.ref a :: rest).toArray U = true := by
  simpa [Cond.before, Cond.holds, Cond.value, Term.eval] using h
theorem st_P {U : State} {a d : Nat} {arr : Cell} {l : List Int32} {ch : Int32} (hts : ∀ w ∈ am_W, ∀ a', w.before a' U = true) (h : js_At a d arr U) (hz : Jvm.Lib.Cold.StaticIs U "java/lang/String" "COMPACT_STRINGS" "Z" (.int 1)) (hb : st_arr arr l) (hl : l.length < 2 ^ 31) : Jvm.Free.StrIndexOf.S1.spec.pre.before #[.ref a, .int ch] U = true ∧ Jvm.Free.StrIndexOf.S1.P a d ch 1 arr #[.ref a, .int ch] U := by
  obtain ⟨h1, h2, h3, h4, h5⟩ := h
  obtain ⟨b1, b2, b3⟩ := hb
  have w1 : ∀ w ∈ st_fl Jvm.Free.StrIndexOf.S1.spec.pre, ∀ a', w.before a' U = true := fun w hw a' => hts w (st_all st_in1 w hw) a'
  have w2 : ∀ w ∈ st_fl Jvm.Free.StrIndexOf.S2.spec.pre, ∀ a', w.before a' U = true := fun w hw a' => hts w (st_all st_in2 w hw) a'
  have w3 : ∀ w ∈ st_fl Jvm.Lib.Cold.isLatin1.spec.pre ++ (st_fl Jvm.Lib.Cold.length.spec.pre ++ st_fl Jvm.Lib.Cold.coder.spec.pre), ∀ a', w.before a' U = true := fun w hw a' => hts w (st_all st_in3 w hw) a'
  have dI2 : ∀ a', (Cond.declares Jvm.Free.StrIndexOf.indexOf2N).before a' U = true := fun a' => st_decl (a := #[]) (w1 (.instanceMethod Jvm.Free.StrIndexOf.indexOf2N) (by decide +kernel) _) (w2 (.code Jvm.Free.StrIndexOf.indexOf2N Jvm.Free.StrIndexOf.indexOf2B 3 (some .int)) (by decide +kernel) _)
  have dIL : ∀ a', (Cond.declares Jvm.Free.StrIndexOf.S2.IL).before a' U = true := fun a' => st_decl (a := #[]) (w2 (.instanceMethod Jvm.Free.StrIndexOf.S2.IL) (by decide +kernel) _) (w3 (.code Jvm.Lib.Cold.isLatin1.x Jvm.Lib.String.isLatin1.code 1 (some .boolean)) (by decide +kernel) _)
  have dLN : ∀ a', (Cond.declares Jvm.Free.StrIndexOf.S2.LN).before a' U = true := fun a' => st_decl (a := #[]) (w2 (.instanceMethod Jvm.Free.StrIndexOf.S2.LN) (by decide +kernel) _) (w3 (.code Jvm.Lib.Cold.length.x Jvm.Lib.String.length.code 1 (some .int)) (by decide +kernel) _)
  have dCO : ∀ a', (Cond.declares Jvm.Lib.Cold.length.CO).before a' U = true := fun a' => st_decl (a := #[]) (w3 (.instanceMethod Jvm.Lib.Cold.length.CO) (by decide +kernel) _) (w3 (.code Jvm.Lib.Cold.coder.x Jvm.Lib.String.coder.code 1 (some .byte)) (by decide +kernel) _)
  have pL : Jvm.Lib.Cold.isLatin1.spec.pre.before #[.ref a] U = true := st_before _ (fun w hw => w3 w (List.mem_append.mpr (Or.inl hw)) _) ⟨trivial, rfl, trivial, trivial⟩
  have pN : Jvm.Lib.Cold.length.spec.pre.before #[.ref a] U = true := st_before _ (fun w hw => w3 w (List.mem_append.mpr (Or.inr (List.mem_append.mpr (Or.inl hw)))) _) ⟨trivial, rfl, h1, trivial, trivial, dCO _, trivial, trivial, trivial⟩
  have pC : Jvm.Lib.Cold.coder.spec.pre.before #[.ref a] U = true := st_before _ (fun w hw => w3 w (List.mem_append.mpr (Or.inr (List.mem_append.mpr (Or.inr hw)))) _) ⟨trivial, rfl, trivial, trivial⟩
  have p2 : Jvm.Free.StrIndexOf.S2.spec.pre.before #[.ref a, .int ch, .int 0] U = true := st_before _ (fun w hw => w2 w hw _) ⟨trivial, rfl, st_ex (rest := [.int ch, .int 0]) h1, trivial, dIL _, trivial, trivial, trivial, trivial, dLN _, trivial, trivial, trivial, trivial, ⟨trivial, trivial, trivial, trivial, trivial, trivial, trivial, trivial, trivial, trivial, trivial, trivial, trivial, trivial⟩, trivial, trivial⟩
  have p1 : Jvm.Free.StrIndexOf.S1.spec.pre.before #[.ref a, .int ch] U = true := st_before _ (fun w hw => w1 w hw _) ⟨trivial, rfl, st_ex (rest := [.int ch]) h1, trivial, dI2 _, trivial, trivial, trivial⟩
  have ev : ∀ rest : List Value, (Term.field (.arg 0) "java/lang/String" "value" "[B").eval (Value.ref a :: rest).toArray U none [] U = some (.ref d) := fun rest => st_ev h3
  have ec : (Term.field (.arg 0) "java/lang/String" "coder" "B").eval #[.ref a] U none [] U = some (.int 0) := st_ev (rest := []) h2
  refine ⟨p1, rfl, p2, rfl, ev [.int ch, .int 0], pL, ⟨rfl, hz, by decide, ec⟩, pN, ⟨rfl, ev [], h4, h5, pC, ⟨rfl, hz, by decide, ec⟩⟩, b1, by rw [b2]; exact hl, fun i hi => ?_⟩
  have hi : i < l.length := by rw [← b2]; exact hi
  have e := b3 i hi
  rw [e]
  simp [Jvm.Lib.StringLatin1.equals.intAt, e]
theorem st_none {x : Int32} : ∀ (l : List Int32) (i : Int32), (∀ c ∈ l, ¬ x = c) → s_idx x l i = -1
  | [], _, _ => rfl
  | c :: l, i, h => by
    unfold s_idx
    rw [if_neg (h c List.mem_cons_self)]
    exact st_none l _ (fun d hd => h d (List.mem_cons_of_mem _ hd))
theorem st_first {x t : Int32} {f : Nat → Int32} : ∀ (l : List Int32) (lo : Nat), (∀ i, i < l.length → f (lo + i) = l.getD i 0) → (∀ c ∈ l, (c = t ↔ x = c)) → Jvm.Free.SL1IndexOf.Chr.firstIdx f t lo l.length = s_idx x l (nI lo)
  | [], _, _, _ => rfl
  | c :: l, lo, hf, hc => by
    show (if f lo = t then Int32.ofNat lo else Jvm.Free.SL1IndexOf.Chr.firstIdx f t (lo + 1) l.length) = _
    have e : f lo = c := hf 0 (by simp)
    unfold s_idx
    have hc0 := hc c List.mem_cons_self
    by_cases hx : x = c
    · rw [if_pos hx, e, if_pos (hc0.mpr hx)]
      rfl
    · rw [if_neg hx, e, if_neg (fun z => hx (hc0.mp z)), nI_1]
      exact st_first l (lo + 1) (fun i hi => by
        have := hf (i + 1) (by simp; omega)
        rw [show lo + 1 + i = lo + (i + 1) by omega, this]
        rfl) (fun d hd => hc d (List.mem_cons_of_mem _ hd))
theorem st_ans {arr : Cell} {k : Nat} {x : Int32} (hk : k = 1 ∨ k = 2) (hb : st_arr arr (s_txt k)) : Jvm.Free.SL1IndexOf.Idx.answer arr x 0 arr.slots.size.toInt32 = s_idx x (s_txt k) 0 := by
  obtain ⟨b1, b2, b3⟩ := hb
  have hl : ∀ c ∈ s_txt k, c.toInt8.toInt32 = c ∧ (((c.toInt8.toUInt8).toUInt16).toNat : Int) = c.toInt ∧ 0 ≤ c ∧ c ≤ 255 := by
    rcases hk with e | e <;> subst e <;> decide
  have hn : 0 < (s_txt k).length ∧ (s_txt k).length < 10 := by
    rcases hk with e | e <;> subst e <;> decide
  unfold Jvm.Free.SL1IndexOf.Idx.answer Jvm.Free.SL1IndexOf.Can.can
  by_cases hx : 0 ≤ x ∧ x ≤ 255
  · rw [if_pos hx, if_neg (by decide)]
    have eh : Jvm.Free.SL1IndexOf.Idx.hi arr arr.slots.size.toInt32 = arr.slots.size.toInt32 := by
      unfold Jvm.Free.SL1IndexOf.Idx.hi
      split <;> rfl
    have el : Jvm.Free.SL1IndexOf.Idx.lo 0 = 0 := rfl
    have es : arr.slots.size.toInt32 = nI (s_txt k).length := by rw [b2]; rfl
    have h0 : (0 : Int32) < nI (s_txt k).length := Int32.not_le.mp (nI_ge (a := 0) (b := (s_txt k).length) hn.1 (by omega))
    rw [eh, el, es, nI_clamp (by omega), if_pos h0]
    show Jvm.Free.SL1IndexOf.Chr.firstIdx _ _ 0 ((s_txt k).length - 0) = _
    rw [Nat.sub_zero]
    refine st_first (s_txt k) 0 (fun i hi => ?_) (fun c hc => ?_)
    · rw [Nat.zero_add]
      simp [Jvm.Lib.StringLatin1.equals.intAt, b3 i hi]
    · obtain ⟨q1, q2, q3, q4⟩ := hl c hc
      rw [Jvm.ShelfD.StrIdx.hit_iff q1 hx.1 hx.2, q2]
      exact ⟨fun z => (Int32.toInt_inj.mp z).symm, fun z => by rw [z]⟩
  · rw [if_neg hx, if_pos rfl]
    exact (st_none _ _ (fun c hc z => hx (by rw [z]; exact ⟨(hl c hc).2.2.1, (hl c hc).2.2.2⟩))).symm
set_option maxRecDepth 100000 in
theorem st_in4 : ([Cond.instanceMethod Jvm.Free.StrIndexOf.indexOf1N, Cond.selects "java/lang/String" Jvm.Free.StrIndexOf.indexOf1N Jvm.Free.StrIndexOf.indexOf1N]).all (fun w => decide (w ∈ lw_tbl) && goodWord w) = true := by decide +kernel
abbrev st_N : MethodName := Jvm.Free.StrIndexOf.indexOf1N
def st_pre (R : Room) (a d : Nat) (arr : Cell) (ch : Int32) : Pt → Array Value → Prop := fun A a' => A.cells ≤ R.cells ∧ A.slots ≤ R.slots ∧ a' = #[.ref a, .int ch] ∧ js_At a d arr A.U ∧ Jvm.Lib.Cold.StaticIs A.U "java/lang/String" "COMPACT_STRINGS" "Z" (.int 1)
def st_post (v0 : Int32) : Pt → Array Value → Option Value → Pt → Prop := fun A _ v B => v = some (.int v0) ∧ B.U.heap = A.U.heap ∧ B.locs = A.locs ∧ B.cells = A.cells ∧ B.slots = A.slots
theorem st_back {l : Launch} {R : Room} {p : Program} {e : Env} {below : List Frame} {s : State} {sargs : Array Value} {w : Nat} {a d : Nat} {arr : Cell} {ls : List Int32} {ch : Int32} (hts : ∀ w ∈ am_W, w.before sargs s = true) (hb : st_arr arr ls) (hl : ls.length < 2 ^ 31) (hf : 5 ≤ R.frames) (hlo : w + 173 ≤ R.locals) : Back l R p e below s sargs st_N 3 w (st_pre R a d arr ch) (st_post (Jvm.Free.SL1IndexOf.Idx.answer arr ch 0 arr.slots.size.toInt32)) := by
  have hw : ∀ U : State, s.WarmedH U.vm → ∀ w ∈ am_W, ∀ a', w.before a' U = true := fun U hW w hw a' => word_at hW (good_of_word (List.mem_filter.mp hw).2) (hts w hw)
  refine Back.of_free (S := Jvm.Free.StrIndexOf.S1.spec) (P := Jvm.Free.StrIndexOf.S1.P a d ch 1 arr) (K := fun _ _ _ _ _ => True) (Q := Jvm.Free.StrIndexOf.S1.Q arr ch) (bytes := Jvm.Free.StrIndexOf.indexOf1B) (maxL := 2) (ret := some .int)
    (E := fun _ first o t L k n => L = [] ∧ k = 0 ∧ n = 0 ∧ o = .returned (some (.int (Jvm.Free.SL1IndexOf.Idx.answer arr ch 0 arr.slots.size.toInt32))) ∧ t.heap = first.heap)
    (Jvm.Free.StrIndexOf.S1.met l a d ch 1 arr) hf (by show w + (2 + 11) + 160 ≤ _; omega) ?_ ?_ ?_ ?_ ?_
  · intro m' meth' c' A a' X ⟨h1, h2, h3, h4, h5⟩
    subst h3
    obtain ⟨q1, q2⟩ := st_P (ch := ch) (hw A.U X.warmed) h4 h5 hb hl
    exact ⟨q1, hw A.U X.warmed _ (st_all st_in1 (.code Jvm.Free.StrIndexOf.indexOf1N Jvm.Free.StrIndexOf.indexOf1B 2 (some .int)) (by decide +kernel)) _, hw A.U X.warmed _ (st_all st_in1 (.initialized "java/lang/String") (by decide +kernel)) _, h1, h2⟩
  · intro m' meth' c' A a' g mk X ⟨h1, h2, h3, h4, h5⟩
    subst h3
    exact (st_P (ch := ch) (U := A.U.calling g mk #[.ref a, .int ch]) (hw _ X.warmed) (js_move h4 (Vm.Alike.refl _) rfl rfl) (h5.there (Vm.Alike.refl _) rfl) hb hl).2
  · intro _ _ _ _ _ _ _ _ _; trivial
  · intro a' first o t h
    have hh : t.heap = first.heap := by
      have := congrArg State.heap (State.sameBut_nil.mp h.1.2.2)
      simp [State.setFrames] at this
      exact this
    exact ⟨[], 0, 0, ⟨h.1.1, h.1.2.1, h.1.2.2.sameButNew 0 0⟩, rfl, rfl, rfl, h.2, hh⟩
  · intro m' meth' c' A a' g mk v t L k n X _ _ hF ⟨hL, hk, hn, ho, hh⟩
    subst hL hk hn
    exact ⟨Outcome.returned.inj ho, hh, by simp [Pt.locs], rfl, rfl⟩
/-- the two text constants, at the places of the objects 1 and 2 -/
def ST (A : Nat → Prop) (ad : Nat → Nat) (U : State) : Prop := vk_R "StopDesk$Translator" 105 "!^#?@" (ad 2) U ∧ vk_R "StopDesk$Translator" 130 "+-*/<=" (ad 1) U ∧ va_Z "java/lang/String" "COMPACT_STRINGS" "Z" (.int 1) A U U.heap ∧ ∀ k, (k = 1 ∨ k = 2) → ∃ (d : Nat) (arr : Cell), js_At (ad k) d arr U ∧ ¬ A (ad k) ∧ ¬ A d ∧ st_arr arr (s_txt k)
theorem js_a {a d : Nat} {arr : Cell} {U : State} (h : js_At a d arr U) : ∃ cell : Cell, U.heap[a]? = some cell ∧ cell.vm.isStatics = false ∧ U.vm.findClass "java/lang/String" = some cell.cls := by
  obtain ⟨a', c, cA, kA, q1, q2, q3, q4, q5, q6, -⟩ := Cond.exactly_spec (args := #[.ref a]) (first := U) (o := none) (s := U) (idx := []) (t := .arg 0) (cls := "java/lang/String") h.1
  have e : a' = a := by
    have : (Term.arg 0).eval #[.ref a] U none [] U = some (.ref a) := rfl
    rw [this] at q1
    injection q1 with q1
    injection q1 with q1
    exact q1.symm
  subst e
  exact ⟨cA, q3, q5, by rw [q6]; exact q2⟩
theorem st_lt {H : Heap} {a : Nat} {c : Cell} (h : H[a]? = some c) : a < H.size := (Array.getElem?_eq_some_iff.mp h).1
theorem ST.go {A B : Nat → Prop} {ad ad2 : Nat → Nat} {s U : State} {H : Heap} {locs : List Loc} (h : ST A ad s) (hS : va_S A s.heap H locs) (hU : U.heap = H) (hW : s.WarmedH U.vm) (hB : ∀ q, B q → A q) (had : ∀ o, o < 3 → ad2 o = ad o) : ST B ad2 U := by
  obtain ⟨h1, h2, h3, h4⟩ := h
  refine ⟨by rw [had 2 (by decide)]; exact h1.warm hW, by rw [had 1 (by decide)]; exact h2.warm hW, ?_, fun k hk => ?_⟩
  · rw [hU]
    exact ((h3.kept hS.2.1).moved hW.alike).narrow hB
  · obtain ⟨d, arr, j1, j2, j3, j4⟩ := h4 k hk
    obtain ⟨cell, c1, -⟩ := js_a j1
    rw [had k (by omega)]
    exact ⟨d, arr, js_move j1 hW.alike (by rw [hU]; exact hS.2.1 _ (st_lt c1) j2) (by rw [hU]; exact hS.2.1 _ (st_lt j1.2.2.2.1) j3), fun z => j2 (hB _ z), fun z => j3 (hB _ z), j4⟩
theorem ST.calling {A : Nat → Prop} {ad : Nat → Nat} {U : State} {g : JFrame} {mk : MethodId} {a : Array Value} (h : ST A ad U) : ST A ad (U.calling g mk a) := by
  obtain ⟨h1, h2, h3, h4⟩ := h
  refine ⟨h1.same rfl, h2.same rfl, h3.moved (U := U.calling g mk a) (Vm.Alike.refl U.vm), fun k hk => ?_⟩
  obtain ⟨d, arr, j1, j2⟩ := h4 k hk
  exact ⟨d, arr, js_move j1 (Vm.Alike.refl _) rfl rfl, j2⟩
theorem st_Z {A : Nat → Prop} {U : State} (h : va_Z "java/lang/String" "COMPACT_STRINGS" "Z" (.int 1) A U U.heap) : Jvm.Lib.Cold.StaticIs U "java/lang/String" "COMPACT_STRINGS" "Z" (.int 1) := by
  obtain ⟨cf, kf, fi, f, a, cell, h1, h2, h3, h4, h5, h6, h7, h8⟩ := h
  exact ⟨cf, fi, kf, f, a, cell, h1, h2, h3, h4, h5, fun z => by rw [z] at h6; exact absurd h6 (by decide), h7⟩
section STX
variable {p : Program} {l : Launch} {e : Env} {R : Room} {s : State} {m : MethodId} {args : Array Value} {below : List Frame} {meth : Method} {c : Code} {H : Heap} {locs : List Loc} {cells slots : Nat} {Q : State → Prop} {A : Nat → Prop} {ad : Nat → Nat} {ls : Array Slot} {cc : ByteArray} {pc index k : Nat} {x : Int32} {rest : List Value} {own : String}
theorem st_idx (hx : p.tables.exec = Jvm.exec) (hb : c.code = cc) (hml : c.maxLocals = ls.size) (hown : s.vm.findClass own = some m.cls) (hts : ∀ w ∈ am_W, w.before args s = true) (hlink : (Cond.methodLink own index st_N).before args s = true) (hT0 : ST A ad s) (hS : va_S A s.heap H locs) (hk : k = 1 ∨ k = 2) (hf : 5 ≤ R.frames) (hlo : 181 ≤ R.locals) (hc1 : cells ≤ R.cells) (hc2 : slots ≤ R.slots) (hr : (rest.map fun v => v.category).sum ≤ 8) (hdg : decode cc pc = .ok (.invokevirtual index, 3))
    (kk : W p l e R s m args below meth c H locs cells slots Q (F0 m (pc + 3) ls (.int (s_idx x (s_txt k) 0) :: rest))) : W p l e R s m args below meth c H locs cells slots Q (F0 m pc ls (.int x :: .ref (ad k) :: rest)) := by
  intro T hT X
  obtain ⟨-, -, h3, h4⟩ := hT0
  obtain ⟨d, arr, j1, j2, j3, j4⟩ := h4 k hk
  obtain ⟨cell, c1, c2, c3⟩ := js_a j1
  have hn : (s_txt k).length < 2 ^ 31 := by rcases hk with e | e <;> subst e <;> decide
  have ea : H[ad k]? = s.heap[ad k]? := hS.2.1 _ (st_lt c1) j2
  have ed : H[d]? = s.heap[d]? := hS.2.1 _ (st_lt j1.2.2.2.1) j3
  have w := fun c hc => hts c (st_all st_in1 c hc)
  obtain ⟨v, vm₁, ⟨U', l2, c2', s2⟩, hW1, XB, ⟨e1, e2, e3, e4, e5⟩, st⟩ := callV X hx (own := own) (C := "java/lang/String") (index := index) (y := st_N) (bytes := Jvm.Free.StrIndexOf.indexOf1B) (maxL := 2) (ret := some .int) hown hlink (hts _ (st_all st_in4 (.instanceMethod st_N) (by decide +kernel))) (hts _ (st_all st_in4 (.selects "java/lang/String" st_N st_N) (by decide +kernel))) (hts _ (st_all st_in1 (.code Jvm.Free.StrIndexOf.indexOf1N Jvm.Free.StrIndexOf.indexOf1B 2 (some .int)) (by decide +kernel))) ⟨by decide, by decide⟩ (st_back (w := 8) (a := ad k) (d := d) (ch := x) hts j4 hn hf (by omega)) (b := ad k) (cellB := cell) (by rw [hT, ea]; exact c1) c2 c3 (g := F0 m pc ls (.int x :: .ref (ad k) :: rest)) rfl hml.symm (argsL := [.int x]) (rest := rest) (fun sig h => by
      rw [show parseMethodDescriptor st_N.desc = some ⟨[.int], some .int⟩ from by decide +kernel] at h
      cases h
      rfl) rfl (by show 2 * 0 + _ ≤ 8; omega) (by rw [hb]; exact hdg) (fun vm₁ hW => ⟨hc1, hc2, rfl, js_move j1 hW.alike (by show T.heap[ad k]? = _; rw [hT]; exact ea) (by show T.heap[d]? = _; rw [hT]; exact ed), st_Z (A := A) (U := T.setVm vm₁) (by
        show va_Z _ _ _ _ A (T.setVm vm₁) T.heap
        rw [hT]
        exact (h3.kept hS.2.1).moved hW.alike)⟩)
  dsimp only [Pt.U, Pt.locs, Pt.cells, Pt.slots] at XB e2 e3 e4 e5 st
  subst e1 e3 e4 e5
  rw [st_ans hk j4] at st
  obtain ⟨t, a1, b1⟩ := kk U' (by rw [e2]; exact hT) XB
  exact ⟨t, st t a1, b1⟩
end STX
theorem ST.ad {A : Nat → Prop} {ad ad2 : Nat → Nat} {U : State} (h : ST A ad U) (had : ∀ o, o < 3 → ad2 o = ad o) : ST A ad2 U := by
  obtain ⟨h1, h2, h3, h4⟩ := h
  refine ⟨by rw [had 2 (by decide)]; exact h1, by rw [had 1 (by decide)]; exact h2, h3, fun k hk => ?_⟩
  rw [had k (by omega)]
  exact h4 k hk
theorem a_idx_i {pn : Nat} {lo : Lo} {sk : List AV} {h : Hp} {st' : St} (hd : a_idx pn lo sk h = some (.inl st')) : ∃ x k r, sk = .inl x :: .inr (some k) :: r ∧ (k = 1 ∨ k = 2) ∧ r.length ≤ 8 ∧ st' = (pn, lo, .inl (s_idx x (s_txt k) 0) :: r, h) := by
  unfold a_idx at hd
  split at hd
  · split at hd
    · next hq =>
      cases hd
      exact ⟨_, _, _, rfl, hq.1, hq.2, rfl⟩
    · cases hd
  · cases hd
theorem a_lds_i {k pn : Nat} {lo : Lo} {sk : List AV} {h : Hp} {st' : St} (hd : a_lds [k] pn lo sk h = some (.inl st')) : st' = (pn, lo, .inr (some k) :: sk, h) := by
  unfold a_lds at hd
  simp only at hd
  split at hd
  · cases hd; rfl
  · cases hd
set_option maxRecDepth 100000 in
theorem st_in5 : ([Cond.methodLink "StopDesk$Translator" 107 st_N]).all (fun w => decide (w ∈ lw_tbl) && goodWord w) = true := by decide +kernel

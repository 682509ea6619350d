-- WHAT A TABLE'S ROW MUST SAY of the bytecode: checked by a program for all rows
def am_W : List Cond := lw_tbl.filter goodWord
def am_wd (p : Nat) (w : Cond) : Bool := decide (lw_tbl[p]? = some w) && goodWord w
def am_wx (p : Nat) (w : Cond) : Bool := decide (lw_tbl[p]? = some w)
theorem am_wx_in {p : Nat} {w : Cond} (h : am_wx p w = true) : w ∈ lw_tbl := List.mem_of_getElem? (of_decide_eq_true h)
def am_own (mi : Nat) : String := (am_y mi).cls
def am_np (mi : Nat) : Option Nat := (parseMethodDescriptor (am_y mi).desc).map (fun d => d.parameters.length)
def am_chS (mi idx : Nat) (ns : List Nat) : Bool := decide (am_own mi = "StopDesk$Translator") && (decide (idx = 105 ∧ ns = [2]) || decide (idx = 130 ∧ ns = [1]))
def am_chX (mi idx : Nat) (ns : List Nat) : Bool := decide (am_own mi = "StopDesk$Translator") && decide (idx = 107) && decide (ns = [])
def am_chF (mi idx : Nat) (ns : List Nat) (sw : List (Int32 × Nat)) (wr : Bool) : Bool := match ns, sw with
  | [c, k, t], (_, p) :: _ => decide (c < am_nc) && decide (k < am_fn c) && decide (am_ft c k = t) && am_wd p (.fieldLink (am_own mi) idx (am_R c) (am_F c k).2.1 (am_F c k).2.2.1) && (!wr || !(am_F c k).2.2.2 || (decide ((am_y mi).name = "<init>") && decide (am_R c = am_own mi)))
  | _, _ => false
def am_chB (pc : Nat) (off : Int) (ln : Nat) (ns : List Nat) : Bool := match ns with
  | [t] => decide ((pc : Int) + off = (t : Int)) && decide (ln = 3)
  | _ => false
def am_chC (v : Int32) (sw : List (Int32 × Nat)) : Bool := match sw with
  | (x, _) :: _ => decide (v = x)
  | [] => false
def am_chk (mi pc : Nat) (i : Instr) (ln : Nat) (ns : List Nat) (sw : List (Int32 × Nat)) : Bool := match i with
  | .iconst n => am_chC (Int32.ofInt n) sw && decide (ln = 1)
  | .bipush n => am_chC (Int8.ofInt n).toInt32 sw && decide (ln = 2)
  | .sipush n => am_chC (Int16.ofInt n).toInt32 sw && decide (ln = 3)
  | .ldc idx => match sw with
    | (v, p) :: _ => am_wd p (.constant (am_own mi) idx v) && decide (ln = 2)
    | [] => am_chS mi idx ns && decide (ln = 2)
  | .iload _ => decide (ln = 2)
  | .iload_n _ => decide (ln = 1)
  | .aload _ => decide (ln = 2)
  | .aload_n _ => decide (ln = 1)
  | .istore _ => decide (ln = 2)
  | .istore_n _ => decide (ln = 1)
  | .astore _ => decide (ln = 2)
  | .astore_n _ => decide (ln = 1)
  | .iinc _ n => am_chC (Int32.ofInt n) sw && decide (ln = 3)
  | .ifCond _ off => am_chB pc off ln ns
  | .if_icmp _ off => am_chB pc off ln ns
  | .ifnull off => am_chB pc off ln ns
  | .ifnonnull off => am_chB pc off ln ns
  | .goto off => am_chB pc off ln ns
  | .tableswitch d lo hi offs => match ns with
    | [t] => decide ((pc : Int) + d = (t : Int)) && decide ((sw.length : Int) = hi - lo + 1) && (List.range sw.length).all (fun j => match sw[j]?, offs[j]? with
      | some (v, u), some o => decide (v.toInt = lo + (j : Int)) && decide ((pc : Int) + o = (u : Int))
      | _, _ => false)
    | _ => false
  | .lookupswitch d ps => match ns with
    | [t] => decide ((pc : Int) + d = (t : Int)) && decide (ps.toList = sw.map (fun q => (q.1.toInt, (q.2 : Int) - (pc : Int)))) && (ps.toList.zip (ps.toList.drop 1)).all (fun (a, next) => a.1 < next.1)
    | _ => false
  | .getfield idx => am_chF mi idx ns sw false && decide (ln = 3)
  | .putfield idx => am_chF mi idx ns sw true && decide (ln = 3)
  | .iaload => (decide (ns = []) || decide (ns = [1]) && decide (mi = am_law)) && decide (ln = 1)
  | .arraylength => (decide (ns = []) || decide (ns = [1]) && decide (mi = am_law)) && decide (ln = 1)
  | .aastore => match ns with
    | [kd, ke] => decide (am_aty kd = some (.object (am_R ke))) && decide (23 ≤ kd ∧ kd < 30) && decide (ke < am_nc) && decide (ln = 1)
    | _ => false
  | .new idx => match ns, sw with
    | [ci, n], [(_, p1), (_, p2), (_, p3)] => decide (ci < am_nc) && decide (n = am_fn ci) && am_wd p1 (.classLink (am_own mi) idx (am_R ci)) && am_wd p2 (.instantiable (am_R ci) (am_fn ci)) && am_wd p3 (.initialized (am_R ci)) && decide (ln = 3)
    | _, _ => false
  | .newarray at_ => match ns, sw with
    | [kd], (_, p) :: _ => decide (am_aty kd = some (newarray.typeOf at_)) && decide (20 ≤ kd ∧ kd < 23) && am_wd p (.arrayClass (newarray.typeOf at_)) && decide (defaultValue (newarray.typeOf at_) = .int 0) && decide (componentBytes (newarray.typeOf at_) ≤ 4) && decide (ln = 2)
    | _, _ => false
  | .anewarray idx => match ns, sw with
    | [kd], [(_, p1), (_, p2)] => match am_aty kd with
      | some (.object C) => decide (23 ≤ kd) && am_wd p1 (.classLink (am_own mi) idx C) && am_wx p2 (.arrayOver (.object C)) && decide (ln = 3)
      | _ => false
    | _, _ => false
  | .invokevirtual idx => match ns, sw with
    | [mj, n, kd], [(_, p1), (_, p2), (_, p3)] => decide (mj < am_n) && decide (am_np mj = some (n - 1)) && decide (0 < n) && decide (n ≤ am_nl mj) && decide (kd < am_nc) && decide ((am_y mj).cls = am_R kd) && am_wd p1 (.methodLink (am_own mi) idx (am_y mj)) && am_wd p2 (.instanceMethod (am_y mj)) && am_wd p3 (.selects (am_R kd) (am_y mj) (am_y mj)) && decide (ln = 3)
    | [_], [(_, p1), (_, p2), (_, p3), (_, p4), (_, p5), (_, p6)] => am_wd p1 (.methodLink (am_own mi) idx ⟨"[I", "clone", "()Ljava/lang/Object;"⟩) && am_wd p2 (.sameMethod "[I" "java/lang/Object" "clone" "()Ljava/lang/Object;") && am_wd p3 (.native ⟨"java/lang/Object", "clone", "()Ljava/lang/Object;"⟩) && am_wd p4 (.instanceMethod ⟨"java/lang/Object", "clone", "()Ljava/lang/Object;"⟩) && am_wd p5 (.selects "[I" ⟨"[I", "clone", "()Ljava/lang/Object;"⟩ ⟨"java/lang/Object", "clone", "()Ljava/lang/Object;"⟩) && am_wx p6 (.castable "[I" "java/lang/Cloneable") && decide (ln = 3)
    | _, _ => am_chX mi idx ns && decide (ln = 3)
  | .checkcast idx => match sw with
    | (_, p) :: _ => am_wd p (.classLink (am_own mi) idx "[I") && decide (ln = 3)
    | [] => false
  | .invokespecial idx => match ns, sw with
    | [mj, n, _], [(_, p1), (_, p2)] => decide (mj < am_n) && decide (am_np mj = some (n - 1)) && decide (0 < n) && decide (n ≤ am_nl mj) && decide ((am_y mj).name = "<init>") && decide (am_ret mj = none) && am_wd p1 (.methodLink (am_own mi) idx (am_y mj)) && am_wd p2 (.instanceMethod (am_y mj)) && decide (ln = 3)
    | [], [(_, p1), (_, p2)] => am_wd p1 (.methodLink (am_own mi) idx objectInit) && am_wd p2 (.instanceMethod objectInit) && decide (ln = 3)
    | _, _ => false
  | .invokestatic idx => match ns, sw with
    | [mj, n], [(_, p1), (_, p2)] => decide (mj < am_n) && decide (am_np mj = some n) && decide (n ≤ am_nl mj) && am_wd p1 (.methodLink (am_own mi) idx (am_y mj)) && am_wd p2 (.static (am_y mj)) && decide (ln = 3)
    | [], [(_, p1), (_, p2), (_, p3), (_, p4)] => am_wd p1 (.methodLink (am_own mi) idx arraycopyName) && am_wd p2 (.native arraycopyName) && am_wd p3 (.static arraycopyName) && am_wd p4 (.initialized "java/lang/System") && decide (ln = 3)
    | _, _ => false
  | _ => decide (ln = 1)
theorem am_chA {mi pc idx ln kd : Nat} {z1 z2 : Int32} {p1 p2 : Nat} (h : am_chk mi pc (.anewarray idx) ln [kd] [(z1, p1), (z2, p2)] = true) : ∃ C, am_aty kd = some (.object C) ∧ 23 ≤ kd ∧ am_wd p1 (.classLink (am_own mi) idx C) = true ∧ am_wx p2 (.arrayOver (.object C)) = true ∧ ln = 3 := by
  simp only [am_chk] at h
  split at h
  · next C hC =>
    simp only [Bool.and_eq_true, decide_eq_true_eq] at h
    exact ⟨C, hC, h.1.1.1, h.1.1.2, h.1.2, h.2⟩
  · cases h
theorem am_chk_st {mi pc idx ln mj n : Nat} {sw : List (Int32 × Nat)} (h : am_chk mi pc (.invokestatic idx) ln [mj, n] sw = true) : ∃ p1 p2, mj < am_n ∧ (parseMethodDescriptor (am_y mj).desc).map (fun d => d.parameters.length) = some n ∧ n ≤ am_nl mj ∧ am_wd p1 (.methodLink (am_own mi) idx (am_y mj)) = true ∧ am_wd p2 (.static (am_y mj)) = true ∧ ln = 3 := by
  rcases sw with _ | ⟨⟨z1, p1⟩, _ | ⟨⟨z2, p2⟩, _ | ⟨z3, sw⟩⟩⟩
  · simp [am_chk] at h
  · simp [am_chk] at h
  · unfold am_chk at h
    simp only [Bool.and_eq_true, decide_eq_true_eq] at h
    unfold am_np at h
    exact ⟨p1, p2, h.1.1.1.1.1, h.1.1.1.1.2, h.1.1.1.2, h.1.1.2, h.1.2, h.2⟩
  · simp [am_chk] at h
theorem am_chk_sp {mi pc idx ln mj n kd : Nat} {sw : List (Int32 × Nat)} (h : am_chk mi pc (.invokespecial idx) ln [mj, n, kd] sw = true) : ∃ p1 p2, mj < am_n ∧ (parseMethodDescriptor (am_y mj).desc).map (fun d => d.parameters.length) = some (n - 1) ∧ 0 < n ∧ n ≤ am_nl mj ∧ (am_y mj).name = "<init>" ∧ am_ret mj = none ∧ am_wd p1 (.methodLink (am_own mi) idx (am_y mj)) = true ∧ am_wd p2 (.instanceMethod (am_y mj)) = true ∧ ln = 3 := by
  rcases sw with _ | ⟨⟨z1, p1⟩, _ | ⟨⟨z2, p2⟩, _ | ⟨z3, sw⟩⟩⟩
  · simp [am_chk] at h
  · simp [am_chk] at h
  · unfold am_chk at h
    simp only [Bool.and_eq_true, decide_eq_true_eq] at h
    unfold am_np at h
    exact ⟨p1, p2, h.1.1.1.1.1.1.1.1, h.1.1.1.1.1.1.1.2, h.1.1.1.1.1.1.2, h.1.1.1.1.1.2, h.1.1.1.1.2, h.1.1.1.2, h.1.1.2, h.1.2, h.2⟩
  · simp [am_chk] at h
theorem am_chk_vi {mi pc idx ln mj n kd : Nat} {sw : List (Int32 × Nat)} (h : am_chk mi pc (.invokevirtual idx) ln [mj, n, kd] sw = true) : ∃ p1 p2 p3, mj < am_n ∧ (parseMethodDescriptor (am_y mj).desc).map (fun d => d.parameters.length) = some (n - 1) ∧ 0 < n ∧ n ≤ am_nl mj ∧ kd < am_nc ∧ (am_y mj).cls = am_R kd ∧ am_wd p1 (.methodLink (am_own mi) idx (am_y mj)) = true ∧ am_wd p2 (.instanceMethod (am_y mj)) = true ∧ am_wd p3 (.selects (am_R kd) (am_y mj) (am_y mj)) = true ∧ ln = 3 := by
  rcases sw with _ | ⟨⟨z1, p1⟩, _ | ⟨⟨z2, p2⟩, _ | ⟨⟨z3, p3⟩, _ | ⟨z4, sw⟩⟩⟩⟩
  · simp [am_chk, am_chX] at h
  · simp [am_chk, am_chX] at h
  · simp [am_chk, am_chX] at h
  · unfold am_chk at h
    simp only [Bool.and_eq_true, decide_eq_true_eq] at h
    unfold am_np at h
    exact ⟨p1, p2, p3, h.1.1.1.1.1.1.1.1.1, h.1.1.1.1.1.1.1.1.2, h.1.1.1.1.1.1.1.2, h.1.1.1.1.1.1.2, h.1.1.1.1.1.2, h.1.1.1.1.2, h.1.1.1.2, h.1.1.2, h.1.2, h.2⟩
  · simp [am_chk, am_chX] at h
theorem am_nc_lt : am_nc < 20 := by decide
theorem am_cls_at (ci : Nat) (h : ci < am_nc) : am_cls[ci]? = some (am_R ci, am_F ci, am_fn ci) := by
  unfold am_cls
  rw [List.getElem?_map, List.getElem?_range h]
  rfl
set_option maxRecDepth 100000 in
theorem am_fws_c : (List.range am_nc).all (fun ci => (u_ws (am_R ci) (am_F ci) (am_fn ci)).all (fun w => decide (w ∈ lw_tbl) && goodWord w)) = true := by decide +kernel
theorem am_fws (ci : Nat) (h : ci < am_nc) : ∀ w ∈ u_ws (am_R ci) (am_F ci) (am_fn ci), w ∈ am_W := fun w hw => by
  have h1 := List.all_eq_true.mp (List.all_eq_true.mp am_fws_c ci (List.mem_range.mpr h)) w hw
  simp only [Bool.and_eq_true, decide_eq_true_eq] at h1
  exact List.mem_filter.mpr h1
set_option maxRecDepth 100000 in
theorem am_F_own : ∀ ci, ci < am_nc → ∀ k, k < am_fn ci → (am_F ci k).1 = am_R ci := by decide +kernel
set_option maxRecDepth 100000 in
theorem am_t_ok : ∀ ci, ci < am_nc → ∀ k, k < am_fn ci → parseFieldDescriptor (am_F ci k).2.2.1 = some (am_t ci k) := by decide +kernel
set_option maxRecDepth 100000 in
theorem am_F_ne : ∀ ci, ci < am_nc → ∀ a, a < am_fn ci → ∀ b, b < am_fn ci → a ≠ b → (am_F ci a).2.1 ≠ (am_F ci b).2.1 := by decide +kernel
set_option maxRecDepth 100000 in
theorem am_t_zero0 : ∀ ci, ci < am_nc → ∀ k, k < am_fn ci → (if am_ft ci k = 2 then Value.null else Value.int 0) = defaultValue (am_t ci k) := by decide +kernel
theorem am_t_zero (ci : Nat) (h : ci < am_nc) (k : Nat) (hk : k < am_fn ci) {f : Nat → Nat} : (if am_ft ci k = 2 then va_rf ((none : Option Nat).map f) else Value.int 0) = defaultValue (am_t ci k) := am_t_zero0 ci h k hk
theorem am_aty_low (ci : Nat) (h : ci < 20) : am_aty ci = none := by
  unfold am_aty
  rw [if_neg (by omega), if_neg (by omega), if_neg (by omega), if_neg (by omega), if_neg (by omega)]
theorem am_aty_all {kd : Nat} (h : 20 ≤ kd ∧ kd ≤ 24) : ∃ ty, am_aty kd = some ty := by
  rcases (by omega : kd = 20 ∨ kd = 21 ∨ kd = 22 ∨ kd = 23 ∨ kd = 24) with rfl | rfl | rfl | rfl | rfl <;> exact ⟨_, rfl⟩
def am_isR (t : FieldType) : Bool := match t with
  | .object _ => true
  | .array _ => true
  | _ => false
set_option maxRecDepth 100000 in
theorem am_ft_2 : ∀ ci, ci < am_nc → ∀ k, k < am_fn ci → am_ft ci k = 2 → am_isR (am_t ci k) = true := by decide +kernel
set_option maxRecDepth 100000 in
theorem am_ft_0 : ∀ ci, ci < am_nc → ∀ k, k < am_fn ci → am_ft ci k = 0 → am_t ci k = .int := by decide +kernel
set_option maxRecDepth 100000 in
theorem am_ft_1 : ∀ ci, ci < am_nc → ∀ k, k < am_fn ci → am_ft ci k = 1 → am_t ci k = .boolean := by decide +kernel
theorem am_t_ref (ci : Nat) (h : ci < am_nc) (k : Nat) (hk : k < am_fn ci) (h2 : am_ft ci k = 2) (v : Option Nat) : narrow (am_t ci k) (va_rf v) = va_rf v ∧ fits (am_t ci k) (va_rf v) = true := by
  have h3 := am_ft_2 ci h k hk h2
  generalize am_t ci k = t at h3
  cases t <;> first | (cases h3; done) | (cases v <;> exact ⟨rfl, rfl⟩)
theorem am_t_int (ci : Nat) (h : ci < am_nc) (k : Nat) (hk : k < am_fn ci) (h2 : am_ft ci k < 2) (v : Int32) (hz : am_ft ci k = 1 → v = 0 ∨ v = 1) : narrow (am_t ci k) (.int v) = .int v ∧ fits (am_t ci k) (.int v) = true := by
  rcases (by omega : am_ft ci k = 0 ∨ am_ft ci k = 1) with h3 | h3
  · rw [am_ft_0 ci h k hk h3]
    exact ⟨rfl, rfl⟩
  · rw [am_ft_1 ci h k hk h3]
    rcases hz h3 with rfl | rfl <;> exact ⟨by decide +kernel, by decide +kernel⟩
theorem am_wd_in {p : Nat} {w : Cond} (h : am_wd p w = true) : w ∈ am_W := by
  unfold am_wd at h
  simp only [Bool.and_eq_true, decide_eq_true_eq] at h
  exact List.mem_filter.mpr ⟨List.mem_of_getElem? h.1, h.2⟩
set_option maxRecDepth 100000 in
theorem am_plain : ∀ mj, mj < am_n → (am_y mj).cls ≠ "java/lang/invoke/MethodHandle" ∧ (am_y mj).cls ≠ "java/lang/invoke/VarHandle" ∧ plainFor (am_y mj) = true := by decide +kernel
set_option maxRecDepth 100000 in
theorem am_nl_le : ∀ mj, mj < am_n → 8 + (am_nl mj + 11) ≤ am_K := by decide +kernel
theorem am_K_ge : 8 + 14 ≤ am_K := by decide
set_option maxRecDepth 100000 in
theorem am_K_cp : 8 + (nativeFrameWords "java/lang/System" "arraycopy" 5 + 11) ≤ am_K := by decide +kernel
set_option maxRecDepth 100000 in
theorem am_objw : Cond.code objectInit ⟨#[0xb1]⟩ 1 none ∈ am_W := List.mem_filter.mpr ⟨List.mem_of_getElem? (i := 81) rfl, rfl⟩
set_option maxRecDepth 100000 in
theorem am_ini_c : (List.range am_n).all (fun mj => am_wd ([73, 71, 60, 60, 60, 60, 59, 59, 59, 59, 59, 59, 59, 59, 59, 59, 59, 59, 59, 59, 70, 61, 61, 61, 61, 57, 57, 57, 58, 58, 58, 58, 58, 58, 58, 58, 58, 58, 58, 58, 58, 58, 58, 58, 58, 58, 58, 58, 58, 58, 56, 56, 56, 56, 56, 56, 56, 56, 56, 56, 56, 56, 56, 56, 56, 56, 56, 56, 56, 56, 56, 56, 56, 56, 56, 62, 62, 62, 62, 62, 62, 62, 62, 62, 62, 62, 62, 62, 62, 62, 62, 62, 62, 62, 62, 62, 62, 62, 62, 62, 62, 62, 62, 62, 62, 62, 62, 62, 62, 62, 62, 62, 62, 62, 62, 62, 62, 62, 62, 62, 62, 62, 62, 62, 62, 62, 62, 63, 63, 66].getD mj 0) (.initialized (am_y mj).cls)) = true := by decide +kernel
theorem am_ini (mj : Nat) (h : mj < am_n) : Cond.initialized (am_y mj).cls ∈ am_W := am_wd_in (List.all_eq_true.mp am_ini_c mj (List.mem_range.mpr h))
set_option maxRecDepth 100000 in
theorem kc_0 : lw_tbl[592]? = some (Cond.code (am_y 0) (am_b 0) (am_nl 0) (am_ret 0)) := rfl
set_option maxRecDepth 100000 in
theorem kc_1 : lw_tbl[443]? = some (Cond.code (am_y 1) (am_b 1) (am_nl 1) (am_ret 1)) := rfl
set_option maxRecDepth 100000 in
theorem kc_2 : lw_tbl[148]? = some (Cond.code (am_y 2) (am_b 2) (am_nl 2) (am_ret 2)) := rfl
set_option maxRecDepth 100000 in
theorem kc_3 : lw_tbl[536]? = some (Cond.code (am_y 3) (am_b 3) (am_nl 3) (am_ret 3)) := rfl
set_option maxRecDepth 100000 in
theorem kc_4 : lw_tbl[548]? = some (Cond.code (am_y 4) (am_b 4) (am_nl 4) (am_ret 4)) := rfl
set_option maxRecDepth 100000 in
theorem kc_5 : lw_tbl[560]? = some (Cond.code (am_y 5) (am_b 5) (am_nl 5) (am_ret 5)) := rfl
set_option maxRecDepth 100000 in
theorem kc_6 : lw_tbl[141]? = some (Cond.code (am_y 6) (am_b 6) (am_nl 6) (am_ret 6)) := rfl
set_option maxRecDepth 100000 in
theorem kc_7 : lw_tbl[504]? = some (Cond.code (am_y 7) (am_b 7) (am_nl 7) (am_ret 7)) := rfl
set_option maxRecDepth 100000 in
theorem kc_8 : lw_tbl[517]? = some (Cond.code (am_y 8) (am_b 8) (am_nl 8) (am_ret 8)) := rfl
set_option maxRecDepth 100000 in
theorem kc_9 : lw_tbl[629]? = some (Cond.code (am_y 9) (am_b 9) (am_nl 9) (am_ret 9)) := rfl
set_option maxRecDepth 100000 in
theorem kc_10 : lw_tbl[641]? = some (Cond.code (am_y 10) (am_b 10) (am_nl 10) (am_ret 10)) := rfl
set_option maxRecDepth 100000 in
theorem kc_11 : lw_tbl[637]? = some (Cond.code (am_y 11) (am_b 11) (am_nl 11) (am_ret 11)) := rfl
set_option maxRecDepth 100000 in
theorem kc_12 : lw_tbl[531]? = some (Cond.code (am_y 12) (am_b 12) (am_nl 12) (am_ret 12)) := rfl
set_option maxRecDepth 100000 in
theorem kc_13 : lw_tbl[540]? = some (Cond.code (am_y 13) (am_b 13) (am_nl 13) (am_ret 13)) := rfl
set_option maxRecDepth 100000 in
theorem kc_14 : lw_tbl[552]? = some (Cond.code (am_y 14) (am_b 14) (am_nl 14) (am_ret 14)) := rfl
set_option maxRecDepth 100000 in
theorem kc_15 : lw_tbl[522]? = some (Cond.code (am_y 15) (am_b 15) (am_nl 15) (am_ret 15)) := rfl
set_option maxRecDepth 100000 in
theorem kc_16 : lw_tbl[568]? = some (Cond.code (am_y 16) (am_b 16) (am_nl 16) (am_ret 16)) := rfl
set_option maxRecDepth 100000 in
theorem kc_17 : lw_tbl[556]? = some (Cond.code (am_y 17) (am_b 17) (am_nl 17) (am_ret 17)) := rfl
set_option maxRecDepth 100000 in
theorem kc_18 : lw_tbl[544]? = some (Cond.code (am_y 18) (am_b 18) (am_nl 18) (am_ret 18)) := rfl
set_option maxRecDepth 100000 in
theorem kc_19 : lw_tbl[527]? = some (Cond.code (am_y 19) (am_b 19) (am_nl 19) (am_ret 19)) := rfl
set_option maxRecDepth 100000 in
theorem kc_20 : lw_tbl[476]? = some (Cond.code (am_y 20) (am_b 20) (am_nl 20) (am_ret 20)) := rfl
set_option maxRecDepth 100000 in
theorem kc_21 : lw_tbl[178]? = some (Cond.code (am_y 21) (am_b 21) (am_nl 21) (am_ret 21)) := rfl
set_option maxRecDepth 100000 in
theorem kc_22 : lw_tbl[564]? = some (Cond.code (am_y 22) (am_b 22) (am_nl 22) (am_ret 22)) := rfl
set_option maxRecDepth 100000 in
theorem kc_23 : lw_tbl[508]? = some (Cond.code (am_y 23) (am_b 23) (am_nl 23) (am_ret 23)) := rfl
set_option maxRecDepth 100000 in
theorem kc_24 : lw_tbl[693]? = some (Cond.code (am_y 24) (am_b 24) (am_nl 24) (am_ret 24)) := rfl
set_option maxRecDepth 100000 in
theorem kc_25 : lw_tbl[86]? = some (Cond.code (am_y 25) (am_b 25) (am_nl 25) (am_ret 25)) := rfl
set_option maxRecDepth 100000 in
theorem kc_26 : lw_tbl[263]? = some (Cond.code (am_y 26) (am_b 26) (am_nl 26) (am_ret 26)) := rfl
set_option maxRecDepth 100000 in
theorem kc_27 : lw_tbl[500]? = some (Cond.code (am_y 27) (am_b 27) (am_nl 27) (am_ret 27)) := rfl
set_option maxRecDepth 100000 in
theorem kc_28 : lw_tbl[103]? = some (Cond.code (am_y 28) (am_b 28) (am_nl 28) (am_ret 28)) := rfl
set_option maxRecDepth 100000 in
theorem kc_29 : lw_tbl[271]? = some (Cond.code (am_y 29) (am_b 29) (am_nl 29) (am_ret 29)) := rfl
set_option maxRecDepth 100000 in
theorem kc_30 : lw_tbl[584]? = some (Cond.code (am_y 30) (am_b 30) (am_nl 30) (am_ret 30)) := rfl
set_option maxRecDepth 100000 in
theorem kc_31 : lw_tbl[275]? = some (Cond.code (am_y 31) (am_b 31) (am_nl 31) (am_ret 31)) := rfl
set_option maxRecDepth 100000 in
theorem kc_32 : lw_tbl[436]? = some (Cond.code (am_y 32) (am_b 32) (am_nl 32) (am_ret 32)) := rfl
set_option maxRecDepth 100000 in
theorem kc_33 : lw_tbl[282]? = some (Cond.code (am_y 33) (am_b 33) (am_nl 33) (am_ret 33)) := rfl
set_option maxRecDepth 100000 in
theorem kc_34 : lw_tbl[290]? = some (Cond.code (am_y 34) (am_b 34) (am_nl 34) (am_ret 34)) := rfl
set_option maxRecDepth 100000 in
theorem kc_35 : lw_tbl[298]? = some (Cond.code (am_y 35) (am_b 35) (am_nl 35) (am_ret 35)) := rfl
set_option maxRecDepth 100000 in
theorem kc_36 : lw_tbl[432]? = some (Cond.code (am_y 36) (am_b 36) (am_nl 36) (am_ret 36)) := rfl
set_option maxRecDepth 100000 in
theorem kc_37 : lw_tbl[428]? = some (Cond.code (am_y 37) (am_b 37) (am_nl 37) (am_ret 37)) := rfl
set_option maxRecDepth 100000 in
theorem kc_38 : lw_tbl[306]? = some (Cond.code (am_y 38) (am_b 38) (am_nl 38) (am_ret 38)) := rfl
set_option maxRecDepth 100000 in
theorem kc_39 : lw_tbl[310]? = some (Cond.code (am_y 39) (am_b 39) (am_nl 39) (am_ret 39)) := rfl
set_option maxRecDepth 100000 in
theorem kc_40 : lw_tbl[314]? = some (Cond.code (am_y 40) (am_b 40) (am_nl 40) (am_ret 40)) := rfl
set_option maxRecDepth 100000 in
theorem kc_41 : lw_tbl[408]? = some (Cond.code (am_y 41) (am_b 41) (am_nl 41) (am_ret 41)) := rfl
set_option maxRecDepth 100000 in
theorem kc_42 : lw_tbl[412]? = some (Cond.code (am_y 42) (am_b 42) (am_nl 42) (am_ret 42)) := rfl
set_option maxRecDepth 100000 in
theorem kc_43 : lw_tbl[419]? = some (Cond.code (am_y 43) (am_b 43) (am_nl 43) (am_ret 43)) := rfl
set_option maxRecDepth 100000 in
theorem kc_44 : lw_tbl[423]? = some (Cond.code (am_y 44) (am_b 44) (am_nl 44) (am_ret 44)) := rfl
set_option maxRecDepth 100000 in
theorem kc_45 : lw_tbl[302]? = some (Cond.code (am_y 45) (am_b 45) (am_nl 45) (am_ret 45)) := rfl
set_option maxRecDepth 100000 in
theorem kc_46 : lw_tbl[286]? = some (Cond.code (am_y 46) (am_b 46) (am_nl 46) (am_ret 46)) := rfl
set_option maxRecDepth 100000 in
theorem kc_47 : lw_tbl[294]? = some (Cond.code (am_y 47) (am_b 47) (am_nl 47) (am_ret 47)) := rfl
set_option maxRecDepth 100000 in
theorem kc_48 : lw_tbl[415]? = some (Cond.code (am_y 48) (am_b 48) (am_nl 48) (am_ret 48)) := rfl
set_option maxRecDepth 100000 in
theorem kc_49 : lw_tbl[317]? = some (Cond.code (am_y 49) (am_b 49) (am_nl 49) (am_ret 49)) := rfl
set_option maxRecDepth 100000 in
theorem kc_50 : lw_tbl[78]? = some (Cond.code (am_y 50) (am_b 50) (am_nl 50) (am_ret 50)) := rfl
set_option maxRecDepth 100000 in
theorem kc_51 : lw_tbl[259]? = some (Cond.code (am_y 51) (am_b 51) (am_nl 51) (am_ret 51)) := rfl
set_option maxRecDepth 100000 in
theorem kc_52 : lw_tbl[267]? = some (Cond.code (am_y 52) (am_b 52) (am_nl 52) (am_ret 52)) := rfl
set_option maxRecDepth 100000 in
theorem kc_53 : lw_tbl[513]? = some (Cond.code (am_y 53) (am_b 53) (am_nl 53) (am_ret 53)) := rfl
set_option maxRecDepth 100000 in
theorem kc_54 : lw_tbl[572]? = some (Cond.code (am_y 54) (am_b 54) (am_nl 54) (am_ret 54)) := rfl
set_option maxRecDepth 100000 in
theorem kc_55 : lw_tbl[576]? = some (Cond.code (am_y 55) (am_b 55) (am_nl 55) (am_ret 55)) := rfl
set_option maxRecDepth 100000 in
theorem kc_56 : lw_tbl[580]? = some (Cond.code (am_y 56) (am_b 56) (am_nl 56) (am_ret 56)) := rfl
set_option maxRecDepth 100000 in
theorem kc_57 : lw_tbl[613]? = some (Cond.code (am_y 57) (am_b 57) (am_nl 57) (am_ret 57)) := rfl
set_option maxRecDepth 100000 in
theorem kc_58 : lw_tbl[617]? = some (Cond.code (am_y 58) (am_b 58) (am_nl 58) (am_ret 58)) := rfl
set_option maxRecDepth 100000 in
theorem kc_59 : lw_tbl[621]? = some (Cond.code (am_y 59) (am_b 59) (am_nl 59) (am_ret 59)) := rfl
set_option maxRecDepth 100000 in
theorem kc_60 : lw_tbl[625]? = some (Cond.code (am_y 60) (am_b 60) (am_nl 60) (am_ret 60)) := rfl
set_option maxRecDepth 100000 in
theorem kc_61 : lw_tbl[655]? = some (Cond.code (am_y 61) (am_b 61) (am_nl 61) (am_ret 61)) := rfl
set_option maxRecDepth 100000 in
theorem kc_62 : lw_tbl[659]? = some (Cond.code (am_y 62) (am_b 62) (am_nl 62) (am_ret 62)) := rfl
set_option maxRecDepth 100000 in
theorem kc_63 : lw_tbl[663]? = some (Cond.code (am_y 63) (am_b 63) (am_nl 63) (am_ret 63)) := rfl
set_option maxRecDepth 100000 in
theorem kc_64 : lw_tbl[667]? = some (Cond.code (am_y 64) (am_b 64) (am_nl 64) (am_ret 64)) := rfl
set_option maxRecDepth 100000 in
theorem kc_65 : lw_tbl[671]? = some (Cond.code (am_y 65) (am_b 65) (am_nl 65) (am_ret 65)) := rfl
set_option maxRecDepth 100000 in
theorem kc_66 : lw_tbl[676]? = some (Cond.code (am_y 66) (am_b 66) (am_nl 66) (am_ret 66)) := rfl
set_option maxRecDepth 100000 in
theorem kc_67 : lw_tbl[681]? = some (Cond.code (am_y 67) (am_b 67) (am_nl 67) (am_ret 67)) := rfl
set_option maxRecDepth 100000 in
theorem kc_68 : lw_tbl[685]? = some (Cond.code (am_y 68) (am_b 68) (am_nl 68) (am_ret 68)) := rfl
set_option maxRecDepth 100000 in
theorem kc_69 : lw_tbl[689]? = some (Cond.code (am_y 69) (am_b 69) (am_nl 69) (am_ret 69)) := rfl
set_option maxRecDepth 100000 in
theorem kc_70 : lw_tbl[697]? = some (Cond.code (am_y 70) (am_b 70) (am_nl 70) (am_ret 70)) := rfl
set_option maxRecDepth 100000 in
theorem kc_71 : lw_tbl[588]? = some (Cond.code (am_y 71) (am_b 71) (am_nl 71) (am_ret 71)) := rfl
set_option maxRecDepth 100000 in
theorem kc_72 : lw_tbl[647]? = some (Cond.code (am_y 72) (am_b 72) (am_nl 72) (am_ret 72)) := rfl
set_option maxRecDepth 100000 in
theorem kc_73 : lw_tbl[651]? = some (Cond.code (am_y 73) (am_b 73) (am_nl 73) (am_ret 73)) := rfl
set_option maxRecDepth 100000 in
theorem kc_74 : lw_tbl[633]? = some (Cond.code (am_y 74) (am_b 74) (am_nl 74) (am_ret 74)) := rfl
set_option maxRecDepth 100000 in
theorem kc_75 : lw_tbl[702]? = some (Cond.code (am_y 75) (am_b 75) (am_nl 75) (am_ret 75)) := rfl
set_option maxRecDepth 100000 in
theorem kc_76 : lw_tbl[841]? = some (Cond.code (am_y 76) (am_b 76) (am_nl 76) (am_ret 76)) := rfl
set_option maxRecDepth 100000 in
theorem kc_77 : lw_tbl[871]? = some (Cond.code (am_y 77) (am_b 77) (am_nl 77) (am_ret 77)) := rfl
set_option maxRecDepth 100000 in
theorem kc_78 : lw_tbl[860]? = some (Cond.code (am_y 78) (am_b 78) (am_nl 78) (am_ret 78)) := rfl
set_option maxRecDepth 100000 in
theorem kc_79 : lw_tbl[882]? = some (Cond.code (am_y 79) (am_b 79) (am_nl 79) (am_ret 79)) := rfl
set_option maxRecDepth 100000 in
theorem kc_80 : lw_tbl[885]? = some (Cond.code (am_y 80) (am_b 80) (am_nl 80) (am_ret 80)) := rfl
set_option maxRecDepth 100000 in
theorem kc_81 : lw_tbl[849]? = some (Cond.code (am_y 81) (am_b 81) (am_nl 81) (am_ret 81)) := rfl
set_option maxRecDepth 100000 in
theorem kc_82 : lw_tbl[879]? = some (Cond.code (am_y 82) (am_b 82) (am_nl 82) (am_ret 82)) := rfl
set_option maxRecDepth 100000 in
theorem kc_83 : lw_tbl[875]? = some (Cond.code (am_y 83) (am_b 83) (am_nl 83) (am_ret 83)) := rfl
set_option maxRecDepth 100000 in
theorem kc_84 : lw_tbl[857]? = some (Cond.code (am_y 84) (am_b 84) (am_nl 84) (am_ret 84)) := rfl
set_option maxRecDepth 100000 in
theorem kc_85 : lw_tbl[868]? = some (Cond.code (am_y 85) (am_b 85) (am_nl 85) (am_ret 85)) := rfl
set_option maxRecDepth 100000 in
theorem kc_86 : lw_tbl[864]? = some (Cond.code (am_y 86) (am_b 86) (am_nl 86) (am_ret 86)) := rfl
set_option maxRecDepth 100000 in
theorem kc_87 : lw_tbl[853]? = some (Cond.code (am_y 87) (am_b 87) (am_nl 87) (am_ret 87)) := rfl
set_option maxRecDepth 100000 in
theorem kc_88 : lw_tbl[889]? = some (Cond.code (am_y 88) (am_b 88) (am_nl 88) (am_ret 88)) := rfl
set_option maxRecDepth 100000 in
theorem kc_89 : lw_tbl[845]? = some (Cond.code (am_y 89) (am_b 89) (am_nl 89) (am_ret 89)) := rfl
set_option maxRecDepth 100000 in
theorem kc_90 : lw_tbl[901]? = some (Cond.code (am_y 90) (am_b 90) (am_nl 90) (am_ret 90)) := rfl
set_option maxRecDepth 100000 in
theorem kc_91 : lw_tbl[897]? = some (Cond.code (am_y 91) (am_b 91) (am_nl 91) (am_ret 91)) := rfl
set_option maxRecDepth 100000 in
theorem kc_92 : lw_tbl[921]? = some (Cond.code (am_y 92) (am_b 92) (am_nl 92) (am_ret 92)) := rfl
set_option maxRecDepth 100000 in
theorem kc_93 : lw_tbl[909]? = some (Cond.code (am_y 93) (am_b 93) (am_nl 93) (am_ret 93)) := rfl
set_option maxRecDepth 100000 in
theorem kc_94 : lw_tbl[917]? = some (Cond.code (am_y 94) (am_b 94) (am_nl 94) (am_ret 94)) := rfl
set_option maxRecDepth 100000 in
theorem kc_95 : lw_tbl[913]? = some (Cond.code (am_y 95) (am_b 95) (am_nl 95) (am_ret 95)) := rfl
set_option maxRecDepth 100000 in
theorem kc_96 : lw_tbl[928]? = some (Cond.code (am_y 96) (am_b 96) (am_nl 96) (am_ret 96)) := rfl
set_option maxRecDepth 100000 in
theorem kc_97 : lw_tbl[925]? = some (Cond.code (am_y 97) (am_b 97) (am_nl 97) (am_ret 97)) := rfl
set_option maxRecDepth 100000 in
theorem kc_98 : lw_tbl[932]? = some (Cond.code (am_y 98) (am_b 98) (am_nl 98) (am_ret 98)) := rfl
set_option maxRecDepth 100000 in
theorem kc_99 : lw_tbl[940]? = some (Cond.code (am_y 99) (am_b 99) (am_nl 99) (am_ret 99)) := rfl
set_option maxRecDepth 100000 in
theorem kc_100 : lw_tbl[936]? = some (Cond.code (am_y 100) (am_b 100) (am_nl 100) (am_ret 100)) := rfl
set_option maxRecDepth 100000 in
theorem kc_101 : lw_tbl[905]? = some (Cond.code (am_y 101) (am_b 101) (am_nl 101) (am_ret 101)) := rfl
set_option maxRecDepth 100000 in
theorem kc_102 : lw_tbl[952]? = some (Cond.code (am_y 102) (am_b 102) (am_nl 102) (am_ret 102)) := rfl
set_option maxRecDepth 100000 in
theorem kc_103 : lw_tbl[944]? = some (Cond.code (am_y 103) (am_b 103) (am_nl 103) (am_ret 103)) := rfl
set_option maxRecDepth 100000 in
theorem kc_104 : lw_tbl[893]? = some (Cond.code (am_y 104) (am_b 104) (am_nl 104) (am_ret 104)) := rfl
set_option maxRecDepth 100000 in
theorem kc_105 : lw_tbl[960]? = some (Cond.code (am_y 105) (am_b 105) (am_nl 105) (am_ret 105)) := rfl
set_option maxRecDepth 100000 in
theorem kc_106 : lw_tbl[956]? = some (Cond.code (am_y 106) (am_b 106) (am_nl 106) (am_ret 106)) := rfl
set_option maxRecDepth 100000 in
theorem kc_107 : lw_tbl[948]? = some (Cond.code (am_y 107) (am_b 107) (am_nl 107) (am_ret 107)) := rfl
set_option maxRecDepth 100000 in
theorem kc_108 : lw_tbl[972]? = some (Cond.code (am_y 108) (am_b 108) (am_nl 108) (am_ret 108)) := rfl
set_option maxRecDepth 100000 in
theorem kc_109 : lw_tbl[968]? = some (Cond.code (am_y 109) (am_b 109) (am_nl 109) (am_ret 109)) := rfl
set_option maxRecDepth 100000 in
theorem kc_110 : lw_tbl[964]? = some (Cond.code (am_y 110) (am_b 110) (am_nl 110) (am_ret 110)) := rfl
set_option maxRecDepth 100000 in
theorem kc_111 : lw_tbl[976]? = some (Cond.code (am_y 111) (am_b 111) (am_nl 111) (am_ret 111)) := rfl
set_option maxRecDepth 100000 in
theorem kc_112 : lw_tbl[980]? = some (Cond.code (am_y 112) (am_b 112) (am_nl 112) (am_ret 112)) := rfl
set_option maxRecDepth 100000 in
theorem kc_113 : lw_tbl[985]? = some (Cond.code (am_y 113) (am_b 113) (am_nl 113) (am_ret 113)) := rfl
set_option maxRecDepth 100000 in
theorem kc_114 : lw_tbl[989]? = some (Cond.code (am_y 114) (am_b 114) (am_nl 114) (am_ret 114)) := rfl
set_option maxRecDepth 100000 in
theorem kc_115 : lw_tbl[993]? = some (Cond.code (am_y 115) (am_b 115) (am_nl 115) (am_ret 115)) := rfl
set_option maxRecDepth 100000 in
theorem kc_116 : lw_tbl[997]? = some (Cond.code (am_y 116) (am_b 116) (am_nl 116) (am_ret 116)) := rfl
set_option maxRecDepth 100000 in
theorem kc_117 : lw_tbl[1001]? = some (Cond.code (am_y 117) (am_b 117) (am_nl 117) (am_ret 117)) := rfl
set_option maxRecDepth 100000 in
theorem kc_118 : lw_tbl[1009]? = some (Cond.code (am_y 118) (am_b 118) (am_nl 118) (am_ret 118)) := rfl
set_option maxRecDepth 100000 in
theorem kc_119 : lw_tbl[1005]? = some (Cond.code (am_y 119) (am_b 119) (am_nl 119) (am_ret 119)) := rfl
set_option maxRecDepth 100000 in
theorem kc_120 : lw_tbl[1013]? = some (Cond.code (am_y 120) (am_b 120) (am_nl 120) (am_ret 120)) := rfl
set_option maxRecDepth 100000 in
theorem kc_121 : lw_tbl[1017]? = some (Cond.code (am_y 121) (am_b 121) (am_nl 121) (am_ret 121)) := rfl
set_option maxRecDepth 100000 in
theorem kc_122 : lw_tbl[1021]? = some (Cond.code (am_y 122) (am_b 122) (am_nl 122) (am_ret 122)) := rfl
set_option maxRecDepth 100000 in
theorem kc_123 : lw_tbl[1025]? = some (Cond.code (am_y 123) (am_b 123) (am_nl 123) (am_ret 123)) := rfl
set_option maxRecDepth 100000 in
theorem kc_124 : lw_tbl[1029]? = some (Cond.code (am_y 124) (am_b 124) (am_nl 124) (am_ret 124)) := rfl
set_option maxRecDepth 100000 in
theorem kc_125 : lw_tbl[1033]? = some (Cond.code (am_y 125) (am_b 125) (am_nl 125) (am_ret 125)) := rfl
set_option maxRecDepth 100000 in
theorem kc_126 : lw_tbl[1037]? = some (Cond.code (am_y 126) (am_b 126) (am_nl 126) (am_ret 126)) := rfl
set_option maxRecDepth 100000 in
theorem kc_127 : lw_tbl[278]? = some (Cond.code (am_y 127) (am_b 127) (am_nl 127) (am_ret 127)) := rfl
set_option maxRecDepth 100000 in
theorem kc_128 : lw_tbl[447]? = some (Cond.code (am_y 128) (am_b 128) (am_nl 128) (am_ret 128)) := rfl
set_option maxRecDepth 100000 in
theorem kc_129 : lw_tbl[352]? = some (Cond.code (am_y 129) (am_b 129) (am_nl 129) (am_ret 129)) := rfl
set_option maxRecDepth 100000 in
theorem am_code : ∀ mj, mj < am_n → Cond.code (am_y mj) (am_b mj) (am_nl mj) (am_ret mj) ∈ am_W
  | 0, _ => List.mem_filter.mpr ⟨List.mem_of_getElem? kc_0, rfl⟩
  | 1, _ => List.mem_filter.mpr ⟨List.mem_of_getElem? kc_1, rfl⟩
  | 2, _ => List.mem_filter.mpr ⟨List.mem_of_getElem? kc_2, rfl⟩
  | 3, _ => List.mem_filter.mpr ⟨List.mem_of_getElem? kc_3, rfl⟩
  | 4, _ => List.mem_filter.mpr ⟨List.mem_of_getElem? kc_4, rfl⟩
  | 5, _ => List.mem_filter.mpr ⟨List.mem_of_getElem? kc_5, rfl⟩
  | 6, _ => List.mem_filter.mpr ⟨List.mem_of_getElem? kc_6, rfl⟩
  | 7, _ => List.mem_filter.mpr ⟨List.mem_of_getElem? kc_7, rfl⟩
  | 8, _ => List.mem_filter.mpr ⟨List.mem_of_getElem? kc_8, rfl⟩
  | 9, _ => List.mem_filter.mpr ⟨List.mem_of_getElem? kc_9, rfl⟩
  | 10, _ => List.mem_filter.mpr ⟨List.mem_of_getElem? kc_10, rfl⟩
  | 11, _ => List.mem_filter.mpr ⟨List.mem_of_getElem? kc_11, rfl⟩
  | 12, _ => List.mem_filter.mpr ⟨List.mem_of_getElem? kc_12, rfl⟩
  | 13, _ => List.mem_filter.mpr ⟨List.mem_of_getElem? kc_13, rfl⟩
  | 14, _ => List.mem_filter.mpr ⟨List.mem_of_getElem? kc_14, rfl⟩
  | 15, _ => List.mem_filter.mpr ⟨List.mem_of_getElem? kc_15, rfl⟩
  | 16, _ => List.mem_filter.mpr ⟨List.mem_of_getElem? kc_16, rfl⟩
  | 17, _ => List.mem_filter.mpr ⟨List.mem_of_getElem? kc_17, rfl⟩
  | 18, _ => List.mem_filter.mpr ⟨List.mem_of_getElem? kc_18, rfl⟩
  | 19, _ => List.mem_filter.mpr ⟨List.mem_of_getElem? kc_19, rfl⟩
  | 20, _ => List.mem_filter.mpr ⟨List.mem_of_getElem? kc_20, rfl⟩
  | 21, _ => List.mem_filter.mpr ⟨List.mem_of_getElem? kc_21, rfl⟩
  | 22, _ => List.mem_filter.mpr ⟨List.mem_of_getElem? kc_22, rfl⟩
  | 23, _ => List.mem_filter.mpr ⟨List.mem_of_getElem? kc_23, rfl⟩
  | 24, _ => List.mem_filter.mpr ⟨List.mem_of_getElem? kc_24, rfl⟩
  | 25, _ => List.mem_filter.mpr ⟨List.mem_of_getElem? kc_25, rfl⟩
  | 26, _ => List.mem_filter.mpr ⟨List.mem_of_getElem? kc_26, rfl⟩
  | 27, _ => List.mem_filter.mpr ⟨List.mem_of_getElem? kc_27, rfl⟩
  | 28, _ => List.mem_filter.mpr ⟨List.mem_of_getElem? kc_28, rfl⟩
  | 29, _ => List.mem_filter.mpr ⟨List.mem_of_getElem? kc_29, rfl⟩
  | 30, _ => List.mem_filter.mpr ⟨List.mem_of_getElem? kc_30, rfl⟩
  | 31, _ => List.mem_filter.mpr ⟨List.mem_of_getElem? kc_31, rfl⟩
  | 32, _ => List.mem_filter.mpr ⟨List.mem_of_getElem? kc_32, rfl⟩
  | 33, _ => List.mem_filter.mpr ⟨List.mem_of_getElem? kc_33, rfl⟩
  | 34, _ => List.mem_filter.mpr ⟨List.mem_of_getElem? kc_34, rfl⟩
  | 35, _ => List.mem_filter.mpr ⟨List.mem_of_getElem? kc_35, rfl⟩
  | 36, _ => List.mem_filter.mpr ⟨List.mem_of_getElem? kc_36, rfl⟩
  | 37, _ => List.mem_filter.mpr ⟨List.mem_of_getElem? kc_37, rfl⟩
  | 38, _ => List.mem_filter.mpr ⟨List.mem_of_getElem? kc_38, rfl⟩
  | 39, _ => List.mem_filter.mpr ⟨List.mem_of_getElem? kc_39, rfl⟩
  | 40, _ => List.mem_filter.mpr ⟨List.mem_of_getElem? kc_40, rfl⟩
  | 41, _ => List.mem_filter.mpr ⟨List.mem_of_getElem? kc_41, rfl⟩
  | 42, _ => List.mem_filter.mpr ⟨List.mem_of_getElem? kc_42, rfl⟩
  | 43, _ => List.mem_filter.mpr ⟨List.mem_of_getElem? kc_43, rfl⟩
  | 44, _ => List.mem_filter.mpr ⟨List.mem_of_getElem? kc_44, rfl⟩
  | 45, _ => List.mem_filter.mpr ⟨List.mem_of_getElem? kc_45, rfl⟩
  | 46, _ => List.mem_filter.mpr ⟨List.mem_of_getElem? kc_46, rfl⟩
  | 47, _ => List.mem_filter.mpr ⟨List.mem_of_getElem? kc_47, rfl⟩
  | 48, _ => List.mem_filter.mpr ⟨List.mem_of_getElem? kc_48, rfl⟩
  | 49, _ => List.mem_filter.mpr ⟨List.mem_of_getElem? kc_49, rfl⟩
  | 50, _ => List.mem_filter.mpr ⟨List.mem_of_getElem? kc_50, rfl⟩
  | 51, _ => List.mem_filter.mpr ⟨List.mem_of_getElem? kc_51, rfl⟩
  | 52, _ => List.mem_filter.mpr ⟨List.mem_of_getElem? kc_52, rfl⟩
  | 53, _ => List.mem_filter.mpr ⟨List.mem_of_getElem? kc_53, rfl⟩
  | 54, _ => List.mem_filter.mpr ⟨List.mem_of_getElem? kc_54, rfl⟩
  | 55, _ => List.mem_filter.mpr ⟨List.mem_of_getElem? kc_55, rfl⟩
  | 56, _ => List.mem_filter.mpr ⟨List.mem_of_getElem? kc_56, rfl⟩
  | 57, _ => List.mem_filter.mpr ⟨List.mem_of_getElem? kc_57, rfl⟩
  | 58, _ => List.mem_filter.mpr ⟨List.mem_of_getElem? kc_58, rfl⟩
  | 59, _ => List.mem_filter.mpr ⟨List.mem_of_getElem? kc_59, rfl⟩
  | 60, _ => List.mem_filter.mpr ⟨List.mem_of_getElem? kc_60, rfl⟩
  | 61, _ => List.mem_filter.mpr ⟨List.mem_of_getElem? kc_61, rfl⟩
  | 62, _ => List.mem_filter.mpr ⟨List.mem_of_getElem? kc_62, rfl⟩
  | 63, _ => List.mem_filter.mpr ⟨List.mem_of_getElem? kc_63, rfl⟩
  | 64, _ => List.mem_filter.mpr ⟨List.mem_of_getElem? kc_64, rfl⟩
  | 65, _ => List.mem_filter.mpr ⟨List.mem_of_getElem? kc_65, rfl⟩
  | 66, _ => List.mem_filter.mpr ⟨List.mem_of_getElem? kc_66, rfl⟩
  | 67, _ => List.mem_filter.mpr ⟨List.mem_of_getElem? kc_67, rfl⟩
  | 68, _ => List.mem_filter.mpr ⟨List.mem_of_getElem? kc_68, rfl⟩
  | 69, _ => List.mem_filter.mpr ⟨List.mem_of_getElem? kc_69, rfl⟩
  | 70, _ => List.mem_filter.mpr ⟨List.mem_of_getElem? kc_70, rfl⟩
  | 71, _ => List.mem_filter.mpr ⟨List.mem_of_getElem? kc_71, rfl⟩
  | 72, _ => List.mem_filter.mpr ⟨List.mem_of_getElem? kc_72, rfl⟩
  | 73, _ => List.mem_filter.mpr ⟨List.mem_of_getElem? kc_73, rfl⟩
  | 74, _ => List.mem_filter.mpr ⟨List.mem_of_getElem? kc_74, rfl⟩
  | 75, _ => List.mem_filter.mpr ⟨List.mem_of_getElem? kc_75, rfl⟩
  | 76, _ => List.mem_filter.mpr ⟨List.mem_of_getElem? kc_76, rfl⟩
  | 77, _ => List.mem_filter.mpr ⟨List.mem_of_getElem? kc_77, rfl⟩
  | 78, _ => List.mem_filter.mpr ⟨List.mem_of_getElem? kc_78, rfl⟩
  | 79, _ => List.mem_filter.mpr ⟨List.mem_of_getElem? kc_79, rfl⟩
  | 80, _ => List.mem_filter.mpr ⟨List.mem_of_getElem? kc_80, rfl⟩
  | 81, _ => List.mem_filter.mpr ⟨List.mem_of_getElem? kc_81, rfl⟩
  | 82, _ => List.mem_filter.mpr ⟨List.mem_of_getElem? kc_82, rfl⟩
  | 83, _ => List.mem_filter.mpr ⟨List.mem_of_getElem? kc_83, rfl⟩
  | 84, _ => List.mem_filter.mpr ⟨List.mem_of_getElem? kc_84, rfl⟩
  | 85, _ => List.mem_filter.mpr ⟨List.mem_of_getElem? kc_85, rfl⟩
  | 86, _ => List.mem_filter.mpr ⟨List.mem_of_getElem? kc_86, rfl⟩
  | 87, _ => List.mem_filter.mpr ⟨List.mem_of_getElem? kc_87, rfl⟩
  | 88, _ => List.mem_filter.mpr ⟨List.mem_of_getElem? kc_88, rfl⟩
  | 89, _ => List.mem_filter.mpr ⟨List.mem_of_getElem? kc_89, rfl⟩
  | 90, _ => List.mem_filter.mpr ⟨List.mem_of_getElem? kc_90, rfl⟩
  | 91, _ => List.mem_filter.mpr ⟨List.mem_of_getElem? kc_91, rfl⟩
  | 92, _ => List.mem_filter.mpr ⟨List.mem_of_getElem? kc_92, rfl⟩
  | 93, _ => List.mem_filter.mpr ⟨List.mem_of_getElem? kc_93, rfl⟩
  | 94, _ => List.mem_filter.mpr ⟨List.mem_of_getElem? kc_94, rfl⟩
  | 95, _ => List.mem_filter.mpr ⟨List.mem_of_getElem? kc_95, rfl⟩
  | 96, _ => List.mem_filter.mpr ⟨List.mem_of_getElem? kc_96, rfl⟩
  | 97, _ => List.mem_filter.mpr ⟨List.mem_of_getElem? kc_97, rfl⟩
  | 98, _ => List.mem_filter.mpr ⟨List.mem_of_getElem? kc_98, rfl⟩
  | 99, _ => List.mem_filter.mpr ⟨List.mem_of_getElem? kc_99, rfl⟩
  | 100, _ => List.mem_filter.mpr ⟨List.mem_of_getElem? kc_100, rfl⟩
  | 101, _ => List.mem_filter.mpr ⟨List.mem_of_getElem? kc_101, rfl⟩
  | 102, _ => List.mem_filter.mpr ⟨List.mem_of_getElem? kc_102, rfl⟩
  | 103, _ => List.mem_filter.mpr ⟨List.mem_of_getElem? kc_103, rfl⟩
  | 104, _ => List.mem_filter.mpr ⟨List.mem_of_getElem? kc_104, rfl⟩
  | 105, _ => List.mem_filter.mpr ⟨List.mem_of_getElem? kc_105, rfl⟩
  | 106, _ => List.mem_filter.mpr ⟨List.mem_of_getElem? kc_106, rfl⟩
  | 107, _ => List.mem_filter.mpr ⟨List.mem_of_getElem? kc_107, rfl⟩
  | 108, _ => List.mem_filter.mpr ⟨List.mem_of_getElem? kc_108, rfl⟩
  | 109, _ => List.mem_filter.mpr ⟨List.mem_of_getElem? kc_109, rfl⟩
  | 110, _ => List.mem_filter.mpr ⟨List.mem_of_getElem? kc_110, rfl⟩
  | 111, _ => List.mem_filter.mpr ⟨List.mem_of_getElem? kc_111, rfl⟩
  | 112, _ => List.mem_filter.mpr ⟨List.mem_of_getElem? kc_112, rfl⟩
  | 113, _ => List.mem_filter.mpr ⟨List.mem_of_getElem? kc_113, rfl⟩
  | 114, _ => List.mem_filter.mpr ⟨List.mem_of_getElem? kc_114, rfl⟩
  | 115, _ => List.mem_filter.mpr ⟨List.mem_of_getElem? kc_115, rfl⟩
  | 116, _ => List.mem_filter.mpr ⟨List.mem_of_getElem? kc_116, rfl⟩
  | 117, _ => List.mem_filter.mpr ⟨List.mem_of_getElem? kc_117, rfl⟩
  | 118, _ => List.mem_filter.mpr ⟨List.mem_of_getElem? kc_118, rfl⟩
  | 119, _ => List.mem_filter.mpr ⟨List.mem_of_getElem? kc_119, rfl⟩
  | 120, _ => List.mem_filter.mpr ⟨List.mem_of_getElem? kc_120, rfl⟩
  | 121, _ => List.mem_filter.mpr ⟨List.mem_of_getElem? kc_121, rfl⟩
  | 122, _ => List.mem_filter.mpr ⟨List.mem_of_getElem? kc_122, rfl⟩
  | 123, _ => List.mem_filter.mpr ⟨List.mem_of_getElem? kc_123, rfl⟩
  | 124, _ => List.mem_filter.mpr ⟨List.mem_of_getElem? kc_124, rfl⟩
  | 125, _ => List.mem_filter.mpr ⟨List.mem_of_getElem? kc_125, rfl⟩
  | 126, _ => List.mem_filter.mpr ⟨List.mem_of_getElem? kc_126, rfl⟩
  | 127, _ => List.mem_filter.mpr ⟨List.mem_of_getElem? kc_127, rfl⟩
  | 128, _ => List.mem_filter.mpr ⟨List.mem_of_getElem? kc_128, rfl⟩
  | 129, _ => List.mem_filter.mpr ⟨List.mem_of_getElem? kc_129, rfl⟩
  | n + 130, h => absurd h (by unfold am_n; omega)
def am_okr (mi pc : Nat) : Bool := match am_ct mi pc with
  | none => true
  | some e => decide (decode (am_b mi) pc = .ok (e.1, e.2.1)) && am_chk mi pc e.1 e.2.1 e.2.2.1 e.2.2.2

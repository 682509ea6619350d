-- THE SMALL MACHINE: values, heaps, states. A value is an int or a reference (none: null), an object by its number. Numbers 0, 1, 2 are kept (the script; two texts); the objects that are made have 3, 4, ..
abbrev AV : Type := Int32 ⊕ Option Nat
abbrev Hp : Type := (Nat × Nat) × (Nat → Nat) × (Nat → Nat) × (Nat → Nat → Int32) × (Nat → Nat → Option Nat)
abbrev Lo : Type := List (Option AV)
abbrev St : Type := Nat × Lo × List AV × Hp
abbrev Res : Type := Option AV × Hp
abbrev Out : Type := Option (St ⊕ ((Nat × List AV × St) ⊕ Res))
abbrev En : Type := Instr × Nat × List Nat × List (Int32 × Nat)
/-- the next number; slots in use; kind, length, ints, references of an object -/
def hN (h : Hp) : Nat := h.1.1
def hU (h : Hp) : Nat := h.1.2
def hK (h : Hp) (o : Nat) : Nat := h.2.1 o
def hL (h : Hp) (o : Nat) : Nat := h.2.2.1 o
def hI (h : Hp) (o k : Nat) : Int32 := h.2.2.2.1 o k
def hR (h : Hp) (o k : Nat) : Option Nat := h.2.2.2.2 o k
def sA (h : Hp) (o : Nat) (f : Nat → Int32) : Hp := (h.1, h.2.1, h.2.2.1, va_up h.2.2.2.1 o f, h.2.2.2.2)
def sI (h : Hp) (o k : Nat) (v : Int32) : Hp := sA h o (upd (h.2.2.2.1 o) k v)
def sR (h : Hp) (o k : Nat) (v : Option Nat) : Hp := (h.1, h.2.1, h.2.2.1, h.2.2.2.1, va_up h.2.2.2.2 o (va_up (h.2.2.2.2 o) k v))
def nw (h : Hp) (kd ln sl : Nat) : Hp := ((hN h + 1, hU h + sl), va_up h.2.1 (hN h) kd, va_up h.2.2.1 (hN h) ln, va_up h.2.2.2.1 (hN h) (fun _ => 0), va_up h.2.2.2.2 (hN h) (fun _ => none))
-- reads behind writes
theorem hN_sA (h : Hp) (o : Nat) (f : Nat → Int32) : hN (sA h o f) = hN h := rfl
theorem hU_sA (h : Hp) (o : Nat) (f : Nat → Int32) : hU (sA h o f) = hU h := rfl
theorem hK_sA (h : Hp) (o : Nat) (f : Nat → Int32) (x : Nat) : hK (sA h o f) x = hK h x := rfl
theorem hL_sA (h : Hp) (o : Nat) (f : Nat → Int32) (x : Nat) : hL (sA h o f) x = hL h x := rfl
theorem hR_sA (h : Hp) (o : Nat) (f : Nat → Int32) (x y : Nat) : hR (sA h o f) x y = hR h x y := rfl
theorem hI_sA (h : Hp) (o : Nat) (f : Nat → Int32) (x y : Nat) : hI (sA h o f) x y = if x = o then f y else hI h x y := by
  unfold hI sA va_up
  by_cases e : x = o <;> simp [e]
theorem hN_sI (h : Hp) (o k : Nat) (v : Int32) : hN (sI h o k v) = hN h := rfl
theorem hU_sI (h : Hp) (o k : Nat) (v : Int32) : hU (sI h o k v) = hU h := rfl
theorem hK_sI (h : Hp) (o k : Nat) (v : Int32) (x : Nat) : hK (sI h o k v) x = hK h x := rfl
theorem hL_sI (h : Hp) (o k : Nat) (v : Int32) (x : Nat) : hL (sI h o k v) x = hL h x := rfl
theorem hR_sI (h : Hp) (o k : Nat) (v : Int32) (x y : Nat) : hR (sI h o k v) x y = hR h x y := rfl
theorem hI_sI (h : Hp) (o k : Nat) (v : Int32) (x y : Nat) : hI (sI h o k v) x y = if x = o ∧ y = k then v else hI h x y := by
  unfold sI
  rw [hI_sA]
  by_cases e : x = o
  · subst e
    by_cases e2 : y = k <;> simp [e2, upd, hI]
  · simp [e]
theorem hN_sR (h : Hp) (o k : Nat) (v : Option Nat) : hN (sR h o k v) = hN h := rfl
theorem hU_sR (h : Hp) (o k : Nat) (v : Option Nat) : hU (sR h o k v) = hU h := rfl
theorem hK_sR (h : Hp) (o k : Nat) (v : Option Nat) (x : Nat) : hK (sR h o k v) x = hK h x := rfl
theorem hL_sR (h : Hp) (o k : Nat) (v : Option Nat) (x : Nat) : hL (sR h o k v) x = hL h x := rfl
theorem hI_sR (h : Hp) (o k : Nat) (v : Option Nat) (x y : Nat) : hI (sR h o k v) x y = hI h x y := rfl
theorem hR_sR (h : Hp) (o k : Nat) (v : Option Nat) (x y : Nat) : hR (sR h o k v) x y = if x = o ∧ y = k then v else hR h x y := by
  unfold hR sR va_up
  by_cases e : x = o
  · subst e
    by_cases e2 : y = k <;> simp [e2]
  · simp [e]
theorem hN_nw (h : Hp) (a b c : Nat) : hN (nw h a b c) = hN h + 1 := rfl
theorem hU_nw (h : Hp) (a b c : Nat) : hU (nw h a b c) = hU h + c := rfl
theorem hK_nw (h : Hp) (a b c x : Nat) : hK (nw h a b c) x = if x = hN h then a else hK h x := rfl
theorem hL_nw (h : Hp) (a b c x : Nat) : hL (nw h a b c) x = if x = hN h then b else hL h x := rfl
theorem hI_nw (h : Hp) (a b c x y : Nat) : hI (nw h a b c) x y = if x = hN h then 0 else hI h x y := by
  unfold hI nw va_up
  by_cases e : x = hN h <;> simp [e]
theorem hR_nw (h : Hp) (a b c x y : Nat) : hR (nw h a b c) x y = if x = hN h then none else hR h x y := by
  unfold hR nw va_up
  by_cases e : x = hN h <;> simp [e]
-- one step's pieces: pn is where the next instruction stands
def a_cst (sw : List (Int32 × Nat)) (pn : Nat) (lo : Lo) (sk : List AV) (h : Hp) : Out := match sw with
  | (v, _) :: _ => some (.inl (pn, lo, .inl v :: sk, h))
  | [] => none
def a_lds (ns : List Nat) (pn : Nat) (lo : Lo) (sk : List AV) (h : Hp) : Out := match ns with
  | [k] => if k = 1 ∨ k = 2 then some (.inl (pn, lo, .inr (some k) :: sk, h)) else none
  | _ => none
def a_ild (k pn : Nat) (lo : Lo) (sk : List AV) (h : Hp) : Out := match lo[k]? with
  | some (some (.inl x)) => some (.inl (pn, lo, .inl x :: sk, h))
  | _ => none
def a_ald (k pn : Nat) (lo : Lo) (sk : List AV) (h : Hp) : Out := match lo[k]? with
  | some (some (.inr x)) => some (.inl (pn, lo, .inr x :: sk, h))
  | _ => none
def a_ist (k pn : Nat) (lo : Lo) (sk : List AV) (h : Hp) : Out := match sk with
  | .inl x :: r => if k < lo.length then some (.inl (pn, lo.set k (some (.inl x)), r, h)) else none
  | _ => none
def a_ast (k pn : Nat) (lo : Lo) (sk : List AV) (h : Hp) : Out := match sk with
  | .inr x :: r => if k < lo.length then some (.inl (pn, lo.set k (some (.inr x)), r, h)) else none
  | _ => none
def a_inc (k : Nat) (sw : List (Int32 × Nat)) (pn : Nat) (lo : Lo) (sk : List AV) (h : Hp) : Out := match lo[k]?, sw with
  | some (some (.inl x)), (d, _) :: _ => some (.inl (pn, lo.set k (some (.inl (x + d))), sk, h))
  | _, _ => none
def a_bin (f : Int32 → Int32 → Int32) (pn : Nat) (lo : Lo) (sk : List AV) (h : Hp) : Out := match sk with
  | .inl y :: .inl x :: r => some (.inl (pn, lo, .inl (f x y) :: r, h))
  | _ => none
def a_dvd (f : Int32 → Int32 → Int32) (pn : Nat) (lo : Lo) (sk : List AV) (h : Hp) : Out := match sk with
  | .inl y :: .inl x :: r => if y = 0 then none else some (.inl (pn, lo, .inl (f x y) :: r, h))
  | _ => none
def a_un (f : Int32 → Int32) (pn : Nat) (lo : Lo) (sk : List AV) (h : Hp) : Out := match sk with
  | .inl x :: r => some (.inl (pn, lo, .inl (f x) :: r, h))
  | _ => none
def a_if (c : Int32 → Bool) (ns : List Nat) (pn : Nat) (lo : Lo) (sk : List AV) (h : Hp) : Out := match sk, ns with
  | .inl x :: r, [t] => some (.inl (if c x = true then t else pn, lo, r, h))
  | _, _ => none
def a_cmp (c : Int32 → Int32 → Bool) (ns : List Nat) (pn : Nat) (lo : Lo) (sk : List AV) (h : Hp) : Out := match sk, ns with
  | .inl y :: .inl x :: r, [t] => some (.inl (if c x y = true then t else pn, lo, r, h))
  | _, _ => none
def a_nul (b : Bool) (ns : List Nat) (pn : Nat) (lo : Lo) (sk : List AV) (h : Hp) : Out := match sk, ns with
  | .inr x :: r, [t] => some (.inl (if x.isNone = b then t else pn, lo, r, h))
  | _, _ => none
def a_goto (ns : List Nat) (lo : Lo) (sk : List AV) (h : Hp) : Out := match ns with
  | [t] => some (.inl (t, lo, sk, h))
  | _ => none
def a_tgt (x : Int32) : List (Int32 × Nat) → Nat → Nat
  | [], d => d
  | (v, t) :: r, d => if x = v then t else a_tgt x r d
def a_sw (ns : List Nat) (sw : List (Int32 × Nat)) (lo : Lo) (sk : List AV) (h : Hp) : Out := match sk, ns with
  | .inl x :: r, [d] => some (.inl (a_tgt x sw d, lo, r, h))
  | _, _ => none
def a_stk (f : List AV → Option (List AV)) (pn : Nat) (lo : Lo) (sk : List AV) (h : Hp) : Out := match f sk with
  | some r => some (.inl (pn, lo, r, h))
  | none => none
/-- ns: the number of the object's kind, of the field, of its type (0 int, 1 boolean, 2 a reference) -/
def a_get (ns : List Nat) (pn : Nat) (lo : Lo) (sk : List AV) (h : Hp) : Out := match sk, ns with
  | .inr (some o) :: r, [c, k, 2] => if hK h o = c then some (.inl (pn, lo, .inr (hR h o k) :: r, h)) else none
  | .inr (some o) :: r, [c, k, _] => if hK h o = c then some (.inl (pn, lo, .inl (hI h o k) :: r, h)) else none
  | _, _ => none
def a_put (ns : List Nat) (pn : Nat) (lo : Lo) (sk : List AV) (h : Hp) : Out := match sk, ns with
  | .inr v :: .inr (some o) :: r, [c, k, 2] => if hK h o = c then some (.inl (pn, lo, r, sR h o k v)) else none
  | .inl v :: .inr (some o) :: r, [c, k, 1] => if hK h o = c ∧ (v = 0 ∨ v = 1) then some (.inl (pn, lo, r, sI h o k v)) else none
  | .inl v :: .inr (some o) :: r, [c, k, 0] => if hK h o = c then some (.inl (pn, lo, r, sI h o k v)) else none
  | _, _ => none
/-- arrays: kinds 20 int, 21 char, 22 boolean, 23 and 24 of references; ns = [1]: the script -/
def a_ixl (kd : Nat) (pn : Nat) (lo : Lo) (sk : List AV) (h : Hp) : Out := match sk with
  | .inl i :: .inr (some o) :: r => if hK h o = kd ∧ ¬ (i < 0 ∨ hL h o ≤ i.toNatClampNeg) then some (.inl (pn, lo, .inl (hI h o i.toNatClampNeg) :: r, h)) else none
  | _ => none
def a_scl (xs : Nat → Int32) (L pn : Nat) (lo : Lo) (sk : List AV) (h : Hp) : Out := match sk with
  | .inl i :: .inr (some 0) :: r => if ¬ (i < 0 ∨ L ≤ i.toNatClampNeg) then some (.inl (pn, lo, .inl (xs i.toNatClampNeg) :: r, h)) else none
  | _ => none
def a_ixs (kd : Nat) (f : Int32 → Int32) (pn : Nat) (lo : Lo) (sk : List AV) (h : Hp) : Out := match sk with
  | .inl v :: .inl i :: .inr (some o) :: r => if hK h o = kd ∧ ¬ (i < 0 ∨ hL h o ≤ i.toNatClampNeg) then some (.inl (pn, lo, r, sI h o i.toNatClampNeg (f v))) else none
  | _ => none
def a_axl (pn : Nat) (lo : Lo) (sk : List AV) (h : Hp) : Out := match sk with
  | .inl i :: .inr (some o) :: r => if (hK h o = 23 ∨ hK h o = 24) ∧ ¬ (i < 0 ∨ hL h o ≤ i.toNatClampNeg) then some (.inl (pn, lo, .inr (hR h o i.toNatClampNeg) :: r, h)) else none
  | _ => none
/-- ns: the kind of the array and of its elements -/
def a_axs (ns : List Nat) (pn : Nat) (lo : Lo) (sk : List AV) (h : Hp) : Out := match sk, ns with
  | .inr none :: .inl i :: .inr (some o) :: r, [kd, _] => if hK h o = kd ∧ ¬ (i < 0 ∨ hL h o ≤ i.toNatClampNeg) then some (.inl (pn, lo, r, sR h o i.toNatClampNeg none)) else none
  | .inr (some v) :: .inl i :: .inr (some o) :: r, [kd, ke] => if (hK h o = kd ∧ hK h v = ke) ∧ ¬ (i < 0 ∨ hL h o ≤ i.toNatClampNeg) then some (.inl (pn, lo, r, sR h o i.toNatClampNeg (some v))) else none
  | _, _ => none
def a_len (pn : Nat) (lo : Lo) (sk : List AV) (h : Hp) : Out := match sk with
  | .inr (some o) :: r => if 20 ≤ hK h o ∧ hK h o ≤ 24 then some (.inl (pn, lo, .inl (Int32.ofNat (hL h o)) :: r, h)) else none
  | _ => none
def a_scn (L pn : Nat) (lo : Lo) (sk : List AV) (h : Hp) : Out := match sk with
  | .inr (some 0) :: r => some (.inl (pn, lo, .inl (Int32.ofNat L) :: r, h))
  | _ => none
/-- an object: ns = [its kind, its fields] -/
def a_new (ns : List Nat) (pn : Nat) (lo : Lo) (sk : List AV) (h : Hp) : Out := match ns with
  | [c, n] => some (.inl (pn, lo, .inr (some (hN h)) :: sk, nw h c 0 n))
  | _ => none
/-- an array: ns = [its kind] -/
def a_arr (ns : List Nat) (pn : Nat) (lo : Lo) (sk : List AV) (h : Hp) : Out := match sk, ns with
  | .inl n :: r, [kd] => if ¬ n < 0 ∧ n.toNatClampNeg ≤ 100000 then some (.inl (pn, lo, .inr (some (hN h)) :: r, nw h kd n.toNatClampNeg n.toNatClampNeg)) else none
  | _, _ => none
/-- a call: ns = [the method, how many values it takes]; a virtual one: the receiver's kind too -/
def a_call (ns : List Nat) (pn : Nat) (lo : Lo) (sk : List AV) (h : Hp) : Out := match ns with
  | [mj, n] => if n ≤ sk.length ∧ sk.length ≤ n + 8 then some (.inr (.inl (mj, (sk.take n).reverse, (pn, lo, sk.drop n, h)))) else none
  | _ => none
def a_callv (ns : List Nat) (pn : Nat) (lo : Lo) (sk : List AV) (h : Hp) : Out := match ns with
  | [mj, n, kd] => match (sk.take n).reverse with
    | .inr (some o) :: as => if (n ≤ sk.length ∧ sk.length ≤ n + 8) ∧ hK h o = kd then some (.inr (.inl (mj, .inr (some o) :: as, (pn, lo, sk.drop n, h)))) else none
    | _ => none
  | _ => none
def a_obj (pn : Nat) (lo : Lo) (sk : List AV) (h : Hp) : Out := match sk with
  | .inr (some _) :: r => if r.length ≤ 8 then some (.inl (pn, lo, r, h)) else none
  | _ => none
/-- the place of a sign in one of the two texts -/
def s_txt (k : Nat) : List Int32 := if k = 1 then [43, 45, 42, 47, 60, 61] else [33, 94, 35, 63, 64]
def s_idx (x : Int32) : List Int32 → Int32 → Int32
  | [], _ => -1
  | c :: l, i => if x = c then i else s_idx x l (i + 1)
def a_idx (pn : Nat) (lo : Lo) (sk : List AV) (h : Hp) : Out := match sk with
  | .inl x :: .inr (some k) :: r => if (k = 1 ∨ k = 2) ∧ r.length ≤ 8 then some (.inl (pn, lo, .inl (s_idx x (s_txt k) 0) :: r, h)) else none
  | _ => none
def a_cpy (pn : Nat) (lo : Lo) (sk : List AV) (h : Hp) : Out := match sk with
  | .inl n :: .inl dp :: .inr (some d) :: .inl sp :: .inr (some o) :: r =>
    if (hK h o = 20 ∧ hK h d = 20 ∧ o ≠ d) ∧ (¬ sp < 0 ∧ ¬ dp < 0 ∧ ¬ n < 0) ∧ (sp.toNatClampNeg + n.toNatClampNeg ≤ hL h o ∧ dp.toNatClampNeg + n.toNatClampNeg ≤ hL h d) ∧ r.length ≤ 8 then
      some (.inl (pn, lo, r, sA h d (va_cpy (h.2.2.2.1 o) (h.2.2.2.1 d) sp.toNatClampNeg dp.toNatClampNeg n.toNatClampNeg))) else none
  | _ => none
/-- a copy of an array of ints -/
def a_cln (pn : Nat) (lo : Lo) (sk : List AV) (h : Hp) : Out := match sk with
  | .inr (some o) :: r => if hK h o = 20 ∧ r.length ≤ 8 then some (.inl (pn, lo, .inr (some (hN h)) :: r, sA (nw h 20 (hL h o) (hL h o)) (hN h) (hI h o))) else none
  | _ => none
def a_cch (pn : Nat) (lo : Lo) (sk : List AV) (h : Hp) : Out := match sk with
  | .inr (some o) :: r => if hK h o = 20 then some (.inl (pn, lo, .inr (some o) :: r, h)) else none
  | _ => none
def a_iret (ret : Option FieldType) (sk : List AV) (h : Hp) : Out := match sk, ret with
  | [.inl v], some .int => some (.inr (.inr (some (.inl v), h)))
  | [.inl v], some .boolean => if v = 0 ∨ v = 1 then some (.inr (.inr (some (.inl v), h))) else none
  | [.inl v], some .char => if ¬ v < 0 ∧ v < 65536 then some (.inr (.inr (some (.inl v), h))) else none
  | _, _ => none
def a_aret (ret : Option FieldType) (sk : List AV) (h : Hp) : Out := match sk, ret with
  | [.inr v], some (.object _) => some (.inr (.inr (some (.inr v), h)))
  | [.inr v], some (.array _) => some (.inr (.inr (some (.inr v), h)))
  | _, _ => none
def a_vret (ret : Option FieldType) (sk : List AV) (h : Hp) : Out := match sk, ret with
  | [], none => some (.inr (.inr (none, h)))
  | _, _ => none
def am_do (xs : Nat → Int32) (L : Nat) (ret : Option FieldType) (i : Instr) (ns : List Nat) (sw : List (Int32 × Nat)) (pn : Nat) (lo : Lo) (sk : List AV) (h : Hp) : Out := match i with
  | .iconst _ => a_cst sw pn lo sk h
  | .bipush _ => a_cst sw pn lo sk h
  | .sipush _ => a_cst sw pn lo sk h
  | .ldc _ => match sw with
    | [] => a_lds ns pn lo sk h
    | _ => a_cst sw pn lo sk h
  | .iload k => a_ild k pn lo sk h
  | .iload_n k => a_ild k.val pn lo sk h
  | .aload k => a_ald k pn lo sk h
  | .aload_n k => a_ald k.val pn lo sk h
  | .istore k => a_ist k pn lo sk h
  | .istore_n k => a_ist k.val pn lo sk h
  | .astore k => a_ast k pn lo sk h
  | .astore_n k => a_ast k.val pn lo sk h
  | .iinc k _ => a_inc k sw pn lo sk h
  | .iadd => a_bin (fun x y => x + y) pn lo sk h
  | .isub => a_bin (fun x y => x - y) pn lo sk h
  | .imul => a_bin (fun x y => x * y) pn lo sk h
  | .iand => a_bin (fun x y => x &&& y) pn lo sk h
  | .ior => a_bin (fun x y => x ||| y) pn lo sk h
  | .ishl => a_bin (fun x y => x <<< (y &&& 31)) pn lo sk h
  | .ishr => a_bin (fun x y => x >>> (y &&& 31)) pn lo sk h
  | .idiv => a_dvd (fun x y => x / y) pn lo sk h
  | .irem => a_dvd (fun x y => x - x / y * y) pn lo sk h
  | .i2c => a_un (fun x => (x.toUInt32 % 65536).toInt32) pn lo sk h
  | .ifCond .eq _ => a_if (fun x => decide (x = 0)) ns pn lo sk h
  | .ifCond .ne _ => a_if (fun x => decide (¬ x = 0)) ns pn lo sk h
  | .ifCond .lt _ => a_if (fun x => decide (x < 0)) ns pn lo sk h
  | .ifCond .ge _ => a_if (fun x => decide (0 ≤ x)) ns pn lo sk h
  | .ifCond .gt _ => a_if (fun x => decide (0 < x)) ns pn lo sk h
  | .ifCond .le _ => a_if (fun x => decide (x ≤ 0)) ns pn lo sk h
  | .if_icmp .eq _ => a_cmp (fun x y => decide (x = y)) ns pn lo sk h
  | .if_icmp .ne _ => a_cmp (fun x y => decide (¬ x = y)) ns pn lo sk h
  | .if_icmp .lt _ => a_cmp (fun x y => decide (x < y)) ns pn lo sk h
  | .if_icmp .ge _ => a_cmp (fun x y => decide (y ≤ x)) ns pn lo sk h
  | .if_icmp .gt _ => a_cmp (fun x y => decide (y < x)) ns pn lo sk h
  | .if_icmp .le _ => a_cmp (fun x y => decide (x ≤ y)) ns pn lo sk h
  | .ifnull _ => a_nul true ns pn lo sk h
  | .ifnonnull _ => a_nul false ns pn lo sk h
  | .goto _ => a_goto ns lo sk h
  | .tableswitch _ _ _ _ => a_sw ns sw lo sk h
  | .lookupswitch _ _ => a_sw ns sw lo sk h
  | .aconst_null => some (.inl (pn, lo, .inr none :: sk, h))
  | .pop => a_stk (fun s => match s with | _ :: r => some r | _ => none) pn lo sk h
  | .dup => a_stk (fun s => match s with | x :: r => some (x :: x :: r) | _ => none) pn lo sk h
  | .dup2 => a_stk (fun s => match s with | y :: x :: r => some (y :: x :: y :: x :: r) | _ => none) pn lo sk h
  | .getfield _ => a_get ns pn lo sk h
  | .putfield _ => a_put ns pn lo sk h
  | .iaload => match ns with
    | [] => a_ixl 20 pn lo sk h
    | _ => a_scl xs L pn lo sk h
  | .caload => a_ixl 21 pn lo sk h
  | .baload => a_ixl 22 pn lo sk h
  | .aaload => a_axl pn lo sk h
  | .iastore => a_ixs 20 (fun v => v) pn lo sk h
  | .castore => a_ixs 21 (fun v => vp_nar .char v) pn lo sk h
  | .bastore => a_ixs 22 (fun v => vp_nar .boolean v) pn lo sk h
  | .aastore => a_axs ns pn lo sk h
  | .arraylength => match ns with
    | [] => a_len pn lo sk h
    | _ => a_scn L pn lo sk h
  | .new _ => a_new ns pn lo sk h
  | .newarray _ => a_arr ns pn lo sk h
  | .anewarray _ => a_arr ns pn lo sk h
  | .invokevirtual _ => match ns with
    | [] => a_idx pn lo sk h
    | [_] => a_cln pn lo sk h
    | _ => a_callv ns pn lo sk h
  | .checkcast _ => a_cch pn lo sk h
  | .invokespecial _ => match ns with
    | [] => a_obj pn lo sk h
    | _ => a_callv ns pn lo sk h
  | .invokestatic _ => match ns with
    | [] => a_cpy pn lo sk h
    | _ => a_call ns pn lo sk h
  | .ireturn => a_iret ret sk h
  | .areturn => a_aret ret sk h
  | .return_ => a_vret ret sk h
  | _ => none
